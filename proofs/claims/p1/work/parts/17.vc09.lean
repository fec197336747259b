/-! ===== what the methods reckon (printed by a program) ===== -/
section VCR
theorem b_X3_runOut_53 {k2 : (Int32) → Mem → Option (Unit × Mem)} {o : Nat} {x1 : Int32} {M z} (ho : o = 18 ∨ o = 28) (hk2 : ∀ (a : (Int32)) (M : Mem) (z : Unit × Mem), Lay M → k2 a M = some z → VV Lay k_X3_runOut 2 [(0, .ref o), (1, .int a)] [] M z.2 (Qv (none) z.2) xF) (hP : Lay M) (h : d_X3_runOut_53 k2 o x1 M = some z) : VV Lay k_X3_runOut 53 [(0, .ref o), (1, .int x1)] [] M z.2 (Qv (none) z.2) xF := by
  unfold d_X3_runOut_53 at h
  obtain ⟨b1, eb1, h⟩ := bndE h
  refine Y_iinc (pc := 53) (j := 1) (v := b1) (lv1 := [(1, .int b1), (0, .ref o)]) dX3_runOut_53 rfl eb1.symm (by decide) rfl ?_
  refine Y_goto (pc := 56) (tgt := 2) dX3_runOut_56 (by decide) ?_
  refine VV.sub [1, 0] rfl ?_
  exact hk2 _ _ _ hP h
theorem b_X3_runOut_2b {k2 : (Int32) → Mem → Option (Unit × Mem)} {o : Nat} {x1 : Int32} {M z} (ho : o = 18 ∨ o = 28) (hk2 : ∀ (a : (Int32)) (M : Mem) (z : Unit × Mem), Lay M → k2 a M = some z → VV Lay k_X3_runOut 2 [(0, .ref o), (1, .int a)] [] M z.2 (Qv (none) z.2) xF) (hP : Lay M) (h : d_X3_runOut_2b k2 o x1 M = some z) : VV Lay k_X3_runOut 2 [(0, .ref o), (1, .int x1)] [] M z.2 (Qv (none) z.2) xF := by
  unfold d_X3_runOut_2b at h
  refine Y_iload_n (pc := 2) (j := 1) dX3_runOut_2 rfl rfl ?_
  refine Y_ldc (pc := 3) dX3_runOut_3 w5_46 ?_
  refine Y_icmp_ge (pc := 5) (tgt := 59) dX3_runOut_5 (by decide) (fun hc1 => ?_) (fun hc1 => ?_)
  · replace h := ifT hc1 h
    cases h
    exact Y_vret (pc := 59) rfl dX3_runOut_59 hP ⟨rfl, rfl⟩
  · replace h := ifF hc1 h
    refine Y_aload_n (pc := 8) (j := 0) dX3_runOut_8 rfl rfl ?_
    obtain ⟨y1, qy1, h⟩ := bindE h
    have cy1 := v_X3_isRunning ho hP qy1
    refine C_V0r (pc := 9) (k' := k_X3_isRunning) dX3_runOut_9 w5_47 i_X3_isRunning (lo_0 hP ho) ⟨Nat.le_of_ble_eq_true rfl, Nat.le_of_ble_eq_true rfl⟩ rfl (Nat.le_of_ble_eq_true rfl) (Nat.le_of_ble_eq_true rfl) (Nat.le_of_ble_eq_true rfl) (cy1) ?_
    have hPy1 := cy1.1.1
    refine Y_if_eq (pc := 12) (tgt := 59) dX3_runOut_12 (by decide) (fun hc2 => ?_) (fun hc2 => ?_)
    · replace h := ifT hc2 h
      cases h
      exact Y_vret (pc := 59) rfl dX3_runOut_59 hPy1 ⟨rfl, rfl⟩
    · replace h := ifF hc2 h
      refine Y_aload_n (pc := 15) (j := 0) dX3_runOut_15 rfl rfl ?_
      obtain ⟨y2, qy2, h⟩ := bindE h
      have cy2 := v_X3_isAtLimit ho hPy1 qy2
      refine C_V0r (pc := 16) (k' := k_X3_isAtLimit) dX3_runOut_16 w5_51 i_X3_isAtLimit (lo_0 hPy1 ho) ⟨Nat.le_of_ble_eq_true rfl, Nat.le_of_ble_eq_true rfl⟩ rfl (Nat.le_of_ble_eq_true rfl) (Nat.le_of_ble_eq_true rfl) (Nat.le_of_ble_eq_true rfl) (cy2) ?_
      have hPy2 := cy2.1.1
      refine Y_if_eq (pc := 19) (tgt := 29) dX3_runOut_19 (by decide) (fun hc3 => ?_) (fun hc3 => ?_)
      · replace h := ifT hc3 h
        refine Y_aload_n (pc := 29) (j := 0) dX3_runOut_29 rfl rfl ?_
        obtain ⟨y3, qy3, h⟩ := bindE h
        have cy3 := v_X3_failureAhead ho hPy2 qy3
        refine C_V0r (pc := 30) (k' := k_X3_failureAhead) dX3_runOut_30 w5_75 i_X3_failureAhead (lo_0 hPy2 ho) ⟨Nat.le_of_ble_eq_true rfl, Nat.le_of_ble_eq_true rfl⟩ rfl (Nat.le_of_ble_eq_true rfl) (Nat.le_of_ble_eq_true rfl) (Nat.le_of_ble_eq_true rfl) (cy3) ?_
        have hPy3 := cy3.1.1
        refine Y_istore_n (pc := 33) (lv1 := [(2, .int y3.1), (0, .ref o), (1, .int x1)]) dX3_runOut_33 rfl (by decide) rfl ?_
        refine Y_iload_n (pc := 34) (j := 0) dX3_runOut_34 rfl rfl ?_
        refine Y_bipush (pc := 35) (v := (45 : Int32)) dX3_runOut_35 rfl ?_
        refine Y_icmp_eq (pc := 37) (tgt := 48) dX3_runOut_37 (by decide) (fun hc4 => ?_) (fun hc4 => ?_)
        · replace h := ifT hc4 h
          refine Y_aload_n (pc := 48) (j := 1) dX3_runOut_48 rfl rfl ?_
          obtain ⟨y4, qy4, h⟩ := bindE h
          have cy4 := v_X3_execute ho hPy3 qy4
          refine C_V0r (pc := 49) (k' := k_X3_execute) dX3_runOut_49 w5_173 i_X3_execute (lo_0 hPy3 ho) ⟨Nat.le_of_ble_eq_true rfl, Nat.le_of_ble_eq_true rfl⟩ rfl (Nat.le_of_ble_eq_true rfl) (Nat.le_of_ble_eq_true rfl) (Nat.le_of_ble_eq_true rfl) (cy4) ?_
          have hPy4 := cy4.1.1
          refine Y_pop (pc := 52) dX3_runOut_52 rfl ?_
          refine VV.sub [1, 2] rfl ?_
          exact b_X3_runOut_53 ho hk2 hPy4 h
        · replace h := ifF hc4 h
          refine Y_aload_n (pc := 40) (j := 1) dX3_runOut_40 rfl rfl ?_
          refine Y_iload_n (pc := 41) (j := 0) dX3_runOut_41 rfl rfl ?_
          obtain ⟨y5, qy5, h⟩ := bindE h
          have cy5 := v_X3_failWith ho hPy3 qy5
          refine C_V1o (pc := 42) (k' := k_X3_failWith) dX3_runOut_42 w5_165 i_X3_failWith (lo_0 hPy3 ho) ⟨Nat.le_of_ble_eq_true rfl, Nat.le_of_ble_eq_true rfl⟩ rfl (Nat.le_of_ble_eq_true rfl) (Nat.le_of_ble_eq_true rfl) (Nat.le_of_ble_eq_true rfl) (cy5) ?_
          have hPy5 := cy5.1.1
          refine Y_goto (pc := 45) (tgt := 53) dX3_runOut_45 (by decide) ?_
          refine VV.sub [1, 2] rfl ?_
          exact b_X3_runOut_53 ho hk2 hPy5 h
      · replace h := ifF hc3 h
        refine Y_aload_n (pc := 22) (j := 0) dX3_runOut_22 rfl rfl ?_
        obtain ⟨y6, qy6, h⟩ := bindE h
        have cy6 := v_X3_endAtLimit ho hPy2 qy6
        refine C_V0o (pc := 23) (k' := k_X3_endAtLimit) dX3_runOut_23 w5_55 i_X3_endAtLimit (lo_0 hPy2 ho) ⟨Nat.le_of_ble_eq_true rfl, Nat.le_of_ble_eq_true rfl⟩ rfl (Nat.le_of_ble_eq_true rfl) (Nat.le_of_ble_eq_true rfl) (Nat.le_of_ble_eq_true rfl) (cy6) ?_
        have hPy6 := cy6.1.1
        refine Y_goto (pc := 26) (tgt := 53) dX3_runOut_26 (by decide) ?_
        refine VV.sub [0, 1] rfl ?_
        exact b_X3_runOut_53 ho hk2 hPy6 h
theorem b_X3_runOut_2 {o : Nat} (ho : o = 18 ∨ o = 28) (n : Nat) : ∀ (a : (Int32)) (M : Mem) (z : Unit × Mem), d_X3_runOut_2 o n a M = some z → Lay M → VV Lay k_X3_runOut 2 [(0, .ref o), (1, .int a)] [] M z.2 (Qv (none) z.2) xF :=
  lp_ind (G := fun (a : (Int32)) (M : Mem) (z : Unit × Mem) => Lay M → VV Lay k_X3_runOut 2 [(0, .ref o), (1, .int a)] [] M z.2 (Qv (none) z.2) xF) (fun k hk a M z h hP => b_X3_runOut_2b ho (fun a M z hP h => hk a M z h hP) hP h) n
theorem b_X3_runOut {o : Nat} {M z} (ho : o = 18 ∨ o = 28) (hP : Lay M) (h : d_X3_runOut o M = some z) : VV Lay k_X3_runOut 0 [(0, .ref o)] [] M z.2 (Qv (none) z.2) xF := by
  unfold d_X3_runOut at h
  refine Y_iconst (pc := 0) (v := (0 : Int32)) dX3_runOut_0 rfl ?_
  refine Y_istore_n (pc := 1) (lv1 := [(1, .int (0 : Int32)), (0, .ref o)]) dX3_runOut_1 rfl (by decide) rfl ?_
  refine VV.sub [1, 0] rfl ?_
  exact b_X3_runOut_2 ho fuel _ _ _ h hP
theorem v_X3_runOut {o : Nat} {M z} (ho : o = 18 ∨ o = 28) (hP : Lay M) (h : d_X3_runOut o M = some z) : CC Lay k_X3_runOut [.ref o] M z.2 (Qv (none) z.2) xF :=
  CC.ofVV (by decide) rfl (Nat.le_of_ble_eq_true rfl) (b_X3_runOut ho hP h)
theorem b_X3_answerTo {o : Nat} {x1 : Int32} {x2 : Int32} {M z} (ho : o = 18 ∨ o = 28) (hP : Lay M) (h : d_X3_answerTo o x1 x2 M = some z) : VV Lay k_X3_answerTo 0 [(0, .ref o), (1, .int x1), (2, .int x2)] [] M z.2 (Qv (some (.int z.1)) z.2) xF := by
  unfold d_X3_answerTo at h
  refine Y_aload_n (pc := 0) (j := 0) dX3_answerTo_0 rfl rfl ?_
  refine Y_iload_n (pc := 1) (j := 2) dX3_answerTo_1 rfl rfl ?_
  obtain ⟨y1, qy1, h⟩ := bindE h
  have cy1 := v_X3_fromTop ho hP qy1
  refine C_V1r (pc := 2) (k' := k_X3_fromTop) dX3_answerTo_2 w5_106 i_X3_fromTop (lo_0 hP ho) ⟨Nat.le_of_ble_eq_true rfl, Nat.le_of_ble_eq_true rfl⟩ rfl (Nat.le_of_ble_eq_true rfl) (Nat.le_of_ble_eq_true rfl) (Nat.le_of_ble_eq_true rfl) (cy1) ?_
  have hPy1 := cy1.1.1
  refine Y_istore_n (pc := 5) (lv1 := [(3, .int y1.1), (0, .ref o), (1, .int x1), (2, .int x2)]) dX3_answerTo_5 rfl (by decide) rfl ?_
  refine Y_iload_n (pc := 6) (j := 2) dX3_answerTo_6 rfl rfl ?_
  refine Y_lookup (pc := 7) dX3_answerTo_7 (by decide) [(107, 40), (111, 50), (115, 76)] 82 (by decide) (by decide) ?_ ?_
  · refine xs_cons ?_ <| xs_cons ?_ <| xs_cons ?_ <| xs_nil
    · intro e9
      replace h := ifT (by rw [e9] <;> decide) h
      refine Y_aload_n (pc := 40) (j := 1) dX3_answerTo_40 rfl rfl ?_
      refine Z_getr (pc := 41) dX3_answerTo_41 w1_171 (lo_0 hPy1 ho) fr_4_2 (lor_0_2 hPy1 ho) ?_
      refine Z_getr (pc := 44) dX3_answerTo_44 w1_151 (lo_1 hPy1 ho) fr_8_0 (lor_1_0 hPy1 ho) ?_
      refine Y_iload_n (pc := 47) (j := 0) dX3_answerTo_47 rfl rfl ?_
      obtain ⟨hb1, h⟩ := okE h
      refine Y_cald (pc := 48) dX3_answerTo_48 (lo_2 hPy1 ho) (lon_2 hPy1 ho) hb1 ?_
      cases h
      exact Y_iret (pc := 49) rfl rfl dX3_answerTo_49 hPy1 ⟨rfl, rfl⟩
    · intro e9
      replace h := ifF (by rw [e9] <;> decide) h
      replace h := ifT (by rw [e9] <;> decide) h
      refine Y_aload_n (pc := 50) (j := 1) dX3_answerTo_50 rfl rfl ?_
      refine Z_getr (pc := 51) dX3_answerTo_51 w1_171 (lo_0 hPy1 ho) fr_4_2 (lor_0_2 hPy1 ho) ?_
      refine Y_aload_n (pc := 54) (j := 1) dX3_answerTo_54 rfl rfl ?_
      refine Z_geti (pc := 55) dX3_answerTo_55 w1_181 (lo_0 hPy1 ho) fi_4_7 ?_
      refine Y_iload_n (pc := 58) (j := 0) dX3_answerTo_58 rfl rfl ?_
      refine Y_aload_n (pc := 59) (j := 1) dX3_answerTo_59 rfl rfl ?_
      refine Y_iconst (pc := 60) (v := (1 : Int32)) dX3_answerTo_60 rfl ?_
      obtain ⟨y2, qy2, h⟩ := bindE h
      have cy2 := v_X3_fromTop ho hPy1 qy2
      refine C_V1r (pc := 61) (k' := k_X3_fromTop) dX3_answerTo_61 w5_106 i_X3_fromTop (lo_0 hPy1 ho) ⟨Nat.le_of_ble_eq_true rfl, Nat.le_of_ble_eq_true rfl⟩ rfl (Nat.le_of_ble_eq_true rfl) (Nat.le_of_ble_eq_true rfl) (Nat.le_of_ble_eq_true rfl) (cy2) ?_
      have hPy2 := cy2.1.1
      obtain ⟨y3, qy3, h⟩ := bindE h
      have cy3 := v_X8_givesInteger ho hPy2 qy3
      refine C_V3r (pc := 64) (k' := k_X8_givesInteger) dX3_answerTo_64 w6_72 i_X8_givesInteger (lo_1 hPy2 ho) ⟨Nat.le_of_ble_eq_true rfl, Nat.le_of_ble_eq_true rfl⟩ rfl (Nat.le_of_ble_eq_true rfl) (Nat.le_of_ble_eq_true rfl) (Nat.le_of_ble_eq_true rfl) (cy3) ?_
      have hPy3 := cy3.1.1
      refine Y_if_eq (pc := 67) (tgt := 74) dX3_answerTo_67 (by decide) (fun hc1 => ?_) (fun hc1 => ?_)
      · replace h := ifT hc1 h
        refine Y_iconst (pc := 74) (v := (0 : Int32)) dX3_answerTo_74 rfl ?_
        cases h
        exact Y_iret (pc := 75) rfl rfl dX3_answerTo_75 hPy3 ⟨rfl, rfl⟩
      · replace h := ifF hc1 h
        refine Y_iconst (pc := 70) (v := (1 : Int32)) dX3_answerTo_70 rfl ?_
        refine Y_goto (pc := 71) (tgt := 75) dX3_answerTo_71 (by decide) ?_
        cases h
        exact Y_iret (pc := 75) rfl rfl dX3_answerTo_75 hPy3 ⟨rfl, rfl⟩
    · intro e9
      replace h := ifF (by rw [e9] <;> decide) h
      replace h := ifF (by rw [e9] <;> decide) h
      replace h := ifT (by rw [e9] <;> decide) h
      refine Y_aload_n (pc := 76) (j := 1) dX3_answerTo_76 rfl rfl ?_
      refine Y_iload_n (pc := 77) (j := 3) dX3_answerTo_77 rfl rfl ?_
      obtain ⟨y4, qy4, h⟩ := bindE h
      have cy4 := v_X3_shapeFromTop ho hPy1 qy4
      refine C_V1r (pc := 78) (k' := k_X3_shapeFromTop) dX3_answerTo_78 w5_140 i_X3_shapeFromTop (lo_0 hPy1 ho) ⟨Nat.le_of_ble_eq_true rfl, Nat.le_of_ble_eq_true rfl⟩ rfl (Nat.le_of_ble_eq_true rfl) (Nat.le_of_ble_eq_true rfl) (Nat.le_of_ble_eq_true rfl) (cy4) ?_
      have hPy4 := cy4.1.1
      cases h
      exact Y_iret (pc := 81) rfl rfl dX3_answerTo_81 hPy4 ⟨rfl, rfl⟩
  · intro n9
    replace h := ifF (xs_no n9 (by decide : ((107 : Int32), 40) ∈ _)) h
    replace h := ifF (xs_no n9 (by decide : ((111 : Int32), 50) ∈ _)) h
    replace h := ifF (xs_no n9 (by decide : ((115 : Int32), 76) ∈ _)) h
    refine Y_aload_n (pc := 82) (j := 1) dX3_answerTo_82 rfl rfl ?_
    refine Z_getr (pc := 83) dX3_answerTo_83 w1_171 (lo_0 hPy1 ho) fr_4_2 (lor_0_2 hPy1 ho) ?_
    refine Y_iload_n (pc := 86) (j := 0) dX3_answerTo_86 rfl rfl ?_
    obtain ⟨y5, qy5, h⟩ := bindE h
    have cy5 := v_X8_isNull ho hPy1 qy5
    refine C_V1r (pc := 87) (k' := k_X8_isNull) dX3_answerTo_87 w5_185 i_X8_isNull (lo_1 hPy1 ho) ⟨Nat.le_of_ble_eq_true rfl, Nat.le_of_ble_eq_true rfl⟩ rfl (Nat.le_of_ble_eq_true rfl) (Nat.le_of_ble_eq_true rfl) (Nat.le_of_ble_eq_true rfl) (cy5) ?_
    have hPy5 := cy5.1.1
    refine Y_if_eq (pc := 90) (tgt := 97) dX3_answerTo_90 (by decide) (fun hc2 => ?_) (fun hc2 => ?_)
    · replace h := ifT hc2 h
      refine Y_iconst (pc := 97) (v := (0 : Int32)) dX3_answerTo_97 rfl ?_
      cases h
      exact Y_iret (pc := 98) rfl rfl dX3_answerTo_98 hPy5 ⟨rfl, rfl⟩
    · replace h := ifF hc2 h
      refine Y_iconst (pc := 93) (v := (1 : Int32)) dX3_answerTo_93 rfl ?_
      refine Y_goto (pc := 94) (tgt := 98) dX3_answerTo_94 (by decide) ?_
      cases h
      exact Y_iret (pc := 98) rfl rfl dX3_answerTo_98 hPy5 ⟨rfl, rfl⟩
theorem v_X3_answerTo {o : Nat} {x1 : Int32} {x2 : Int32} {M z} (ho : o = 18 ∨ o = 28) (hP : Lay M) (h : d_X3_answerTo o x1 x2 M = some z) : CC Lay k_X3_answerTo [.ref o, .int x1, .int x2] M z.2 (Qv (some (.int z.1)) z.2) xF :=
  CC.ofVV (by decide) rfl (Nat.le_of_ble_eq_true rfl) (b_X3_answerTo ho hP h)
theorem b_X4_isNegative {x0 : UInt64} {M z} (hP : Lay M) (h : d_X4_isNegative x0 M = some z) : VV Lay k_X4_isNegative 0 [(0, .double x0)] [] M z.2 (Qv (some (.int z.1)) z.2) xF := by
  unfold d_X4_isNegative at h
  refine Y_dload_n (pc := 0) (j := 0) dX4_isNegative_0 rfl rfl ?_
  refine Y_dconst0 (pc := 1) dX4_isNegative_1 ?_
  refine Y_dcmp (pc := 2) dX4_isNegative_2 ?_
  refine Y_if_lt (pc := 3) (tgt := 20) dX4_isNegative_3 (by decide) (fun hc1 => ?_) (fun hc1 => ?_)
  · replace h := ifT hc1 h
    refine Y_iconst (pc := 20) (v := (1 : Int32)) dX4_isNegative_20 rfl ?_
    refine Y_goto (pc := 21) (tgt := 25) dX4_isNegative_21 (by decide) ?_
    cases h
    exact Y_iret (pc := 25) rfl (nar_bo (by decide)) dX4_isNegative_25 hP ⟨rfl, rfl⟩
  · replace h := ifF hc1 h
    refine Y_dload_n (pc := 6) (j := 0) dX4_isNegative_6 rfl rfl ?_
    refine Y_dconst0 (pc := 7) dX4_isNegative_7 ?_
    refine Y_dcmp (pc := 8) dX4_isNegative_8 ?_
    refine Y_if_ne (pc := 9) (tgt := 24) dX4_isNegative_9 (by decide) (fun hc2 => ?_) (fun hc2 => ?_)
    · replace h := ifF hc2 h
      refine Y_iconst (pc := 24) (v := (0 : Int32)) dX4_isNegative_24 rfl ?_
      cases h
      exact Y_iret (pc := 25) rfl (nar_bo (by decide)) dX4_isNegative_25 hP ⟨rfl, rfl⟩
    · replace h := ifT hc2 h
      refine Y_dconst1 (pc := 12) dX4_isNegative_12 ?_
      refine Y_dload_n (pc := 13) (j := 0) dX4_isNegative_13 rfl rfl ?_
      refine Y_ddiv (pc := 14) dX4_isNegative_14 ?_
      refine Y_dconst0 (pc := 15) dX4_isNegative_15 ?_
      refine Y_dcmp (pc := 16) dX4_isNegative_16 ?_
      refine Y_if_ge (pc := 17) (tgt := 24) dX4_isNegative_17 (by decide) (fun hc3 => ?_) (fun hc3 => ?_)
      · replace h := ifT hc3 h
        refine Y_iconst (pc := 24) (v := (0 : Int32)) dX4_isNegative_24 rfl ?_
        cases h
        exact Y_iret (pc := 25) rfl (nar_bo (by decide)) dX4_isNegative_25 hP ⟨rfl, rfl⟩
      · replace h := ifF hc3 h
        refine Y_iconst (pc := 20) (v := (1 : Int32)) dX4_isNegative_20 rfl ?_
        refine Y_goto (pc := 21) (tgt := 25) dX4_isNegative_21 (by decide) ?_
        cases h
        exact Y_iret (pc := 25) rfl (nar_bo (by decide)) dX4_isNegative_25 hP ⟨rfl, rfl⟩
theorem v_X4_isNegative {x0 : UInt64} {M z} (hP : Lay M) (h : d_X4_isNegative x0 M = some z) : CC Lay k_X4_isNegative [.double x0] M z.2 (Qv (some (.int z.1)) z.2) xF :=
  CC.ofVV (by decide) rfl (Nat.le_of_ble_eq_true rfl) (b_X4_isNegative hP h)
theorem b_X8_isSame {x1 : Int32} {M z} (hP : Lay M) (h : d_X8_isSame x1 M = some z) : VV Lay k_X8_isSame 0 [(0, .ref 19), (1, .int x1), (2, .ref 29)] [] M z.2 (Qv (some (.int z.1)) z.2) xF := by
  unfold d_X8_isSame at h
  refine Y_aload_n (pc := 0) (j := 0) dX8_isSame_0 rfl rfl ?_
  refine Z_getr (pc := 1) dX8_isSame_1 w1_149 (lk_19 hP) fr_8_0 (lr_19_0 hP) ?_
  refine Y_iload_n (pc := 4) (j := 1) dX8_isSame_4 rfl rfl ?_
  obtain ⟨hb1, h⟩ := okE h
  refine Y_cald (pc := 5) dX8_isSame_5 (lk_20 hP) (ln_20 hP) hb1 ?_
  refine Y_aload_n (pc := 6) (j := 2) dX8_isSame_6 rfl rfl ?_
  refine Z_getr (pc := 7) dX8_isSame_7 w1_149 (lk_29 hP) fr_8_0 (lr_29_0 hP) ?_
  refine Y_iload_n (pc := 10) (j := 1) dX8_isSame_10 rfl rfl ?_
  obtain ⟨hb2, h⟩ := okE h
  refine Y_cald (pc := 11) dX8_isSame_11 (lk_30 hP) (ln_30 hP) hb2 ?_
  refine Y_icmp_ne (pc := 12) (tgt := 71) dX8_isSame_12 (by decide) (fun hc1 => ?_) (fun hc1 => ?_)
  · replace h := ifF hc1 h
    refine Y_iconst (pc := 71) (v := (0 : Int32)) dX8_isSame_71 rfl ?_
    cases h
    exact Y_iret (pc := 72) rfl (nar_bo (by decide)) dX8_isSame_72 hP ⟨rfl, rfl⟩
  · replace h := ifT hc1 h
    refine Y_aload_n (pc := 15) (j := 0) dX8_isSame_15 rfl rfl ?_
    refine Z_getr (pc := 16) dX8_isSame_16 w1_152 (lk_19 hP) fr_8_1 (lr_19_1 hP) ?_
    refine Y_iload_n (pc := 19) (j := 1) dX8_isSame_19 rfl rfl ?_
    obtain ⟨hb3, h⟩ := okE h
    refine Y_iald (pc := 20) dX8_isSame_20 (lk_21 hP) (ln_21 hP) hb3 ?_
    refine Y_aload_n (pc := 21) (j := 2) dX8_isSame_21 rfl rfl ?_
    refine Z_getr (pc := 22) dX8_isSame_22 w1_152 (lk_29 hP) fr_8_1 (lr_29_1 hP) ?_
    refine Y_iload_n (pc := 25) (j := 1) dX8_isSame_25 rfl rfl ?_
    obtain ⟨hb4, h⟩ := okE h
    refine Y_iald (pc := 26) dX8_isSame_26 (lk_31 hP) (ln_31 hP) hb4 ?_
    refine Y_icmp_ne (pc := 27) (tgt := 71) dX8_isSame_27 (by decide) (fun hc2 => ?_) (fun hc2 => ?_)
    · replace h := ifF hc2 h
      refine Y_iconst (pc := 71) (v := (0 : Int32)) dX8_isSame_71 rfl ?_
      cases h
      exact Y_iret (pc := 72) rfl (nar_bo (by decide)) dX8_isSame_72 hP ⟨rfl, rfl⟩
    · replace h := ifT hc2 h
      refine Y_aload_n (pc := 30) (j := 0) dX8_isSame_30 rfl rfl ?_
      refine Z_getr (pc := 31) dX8_isSame_31 w1_154 (lk_19 hP) fr_8_2 (lr_19_2 hP) ?_
      refine Y_iload_n (pc := 34) (j := 1) dX8_isSame_34 rfl rfl ?_
      obtain ⟨hb5, h⟩ := okE h
      refine Y_dald (pc := 35) dX8_isSame_35 (lk_22 hP) (ln_22 hP) hb5 ?_
      refine Y_aload_n (pc := 36) (j := 2) dX8_isSame_36 rfl rfl ?_
      refine Z_getr (pc := 37) dX8_isSame_37 w1_154 (lk_29 hP) fr_8_2 (lr_29_2 hP) ?_
      refine Y_iload_n (pc := 40) (j := 1) dX8_isSame_40 rfl rfl ?_
      obtain ⟨hb6, h⟩ := okE h
      refine Y_dald (pc := 41) dX8_isSame_41 (lk_32 hP) (ln_32 hP) hb6 ?_
      refine Y_dcmp (pc := 42) dX8_isSame_42 ?_
      refine Y_if_ne (pc := 43) (tgt := 71) dX8_isSame_43 (by decide) (fun hc3 => ?_) (fun hc3 => ?_)
      · replace h := ifF hc3 h
        refine Y_iconst (pc := 71) (v := (0 : Int32)) dX8_isSame_71 rfl ?_
        cases h
        exact Y_iret (pc := 72) rfl (nar_bo (by decide)) dX8_isSame_72 hP ⟨rfl, rfl⟩
      · replace h := ifT hc3 h
        refine Y_aload_n (pc := 46) (j := 0) dX8_isSame_46 rfl rfl ?_
        refine Z_getr (pc := 47) dX8_isSame_47 w1_154 (lk_19 hP) fr_8_2 (lr_19_2 hP) ?_
        refine Y_iload_n (pc := 50) (j := 1) dX8_isSame_50 rfl rfl ?_
        obtain ⟨hb7, h⟩ := okE h
        refine Y_dald (pc := 51) dX8_isSame_51 (lk_22 hP) (ln_22 hP) hb7 ?_
        obtain ⟨y1, qy1, h⟩ := bindE h
        have cy1 := v_X4_isNegative hP qy1
        refine C_S1r (pc := 52) (k' := k_X4_isNegative) dX8_isSame_52 w6_238 i_X4_isNegative (Nat.le_of_ble_eq_true rfl) (Nat.le_of_ble_eq_true rfl) (Nat.le_of_ble_eq_true rfl) (cy1) ?_
        have hPy1 := cy1.1.1
        refine Y_aload_n (pc := 55) (j := 2) dX8_isSame_55 rfl rfl ?_
        refine Z_getr (pc := 56) dX8_isSame_56 w1_154 (lk_29 hPy1) fr_8_2 (lr_29_2 hPy1) ?_
        refine Y_iload_n (pc := 59) (j := 1) dX8_isSame_59 rfl rfl ?_
        obtain ⟨hb8, h⟩ := okE h
        refine Y_dald (pc := 60) dX8_isSame_60 (lk_32 hPy1) (ln_32 hPy1) hb8 ?_
        obtain ⟨y2, qy2, h⟩ := bindE h
        have cy2 := v_X4_isNegative hPy1 qy2
        refine C_S1r (pc := 61) (k' := k_X4_isNegative) dX8_isSame_61 w6_238 i_X4_isNegative (Nat.le_of_ble_eq_true rfl) (Nat.le_of_ble_eq_true rfl) (Nat.le_of_ble_eq_true rfl) (cy2) ?_
        have hPy2 := cy2.1.1
        refine Y_icmp_ne (pc := 64) (tgt := 71) dX8_isSame_64 (by decide) (fun hc4 => ?_) (fun hc4 => ?_)
        · replace h := ifF hc4 h
          refine Y_iconst (pc := 71) (v := (0 : Int32)) dX8_isSame_71 rfl ?_
          cases h
          exact Y_iret (pc := 72) rfl (nar_bo (by decide)) dX8_isSame_72 hPy2 ⟨rfl, rfl⟩
        · replace h := ifT hc4 h
          refine Y_iconst (pc := 67) (v := (1 : Int32)) dX8_isSame_67 rfl ?_
          refine Y_goto (pc := 68) (tgt := 72) dX8_isSame_68 (by decide) ?_
          cases h
          exact Y_iret (pc := 72) rfl (nar_bo (by decide)) dX8_isSame_72 hPy2 ⟨rfl, rfl⟩
theorem v_X8_isSame {x1 : Int32} {M z} (hP : Lay M) (h : d_X8_isSame x1 M = some z) : CC Lay k_X8_isSame [.ref 19, .int x1, .ref 29] M z.2 (Qv (some (.int z.1)) z.2) xF :=
  CC.ofVV (by decide) rfl (Nat.le_of_ble_eq_true rfl) (b_X8_isSame hP h)
theorem b_X3_hasToldLike_55 {k19 : (Int32 × Int32) → Mem → Option (Int32 × Mem)} {x3 : Int32} {s0 : Int32} {M z} (hk19 : ∀ (a : (Int32 × Int32)) (M : Mem) (z : Int32 × Mem), Lay M → k19 a M = some z → VV Lay k_X3_hasToldLike 19 [(0, .ref 18), (1, .ref 28), (2, .int a.1), (3, .int a.2)] [] M z.2 (Qv (some (.int z.1)) z.2) xF) (hP : Lay M) (h : d_X3_hasToldLike_55 k19 x3 s0 M = some z) : VV Lay k_X3_hasToldLike 55 [(0, .ref 18), (1, .ref 28), (3, .int x3)] [.int s0] M z.2 (Qv (some (.int z.1)) z.2) xF := by
  unfold d_X3_hasToldLike_55 at h
  refine Y_istore_n (pc := 55) (lv1 := [(2, .int s0), (0, .ref 18), (1, .ref 28), (3, .int x3)]) dX3_hasToldLike_55 rfl (by decide) rfl ?_
  obtain ⟨b1, eb1, h⟩ := bndE h
  refine Y_iinc (pc := 56) (j := 3) (v := b1) (lv1 := [(3, .int b1), (2, .int s0), (0, .ref 18), (1, .ref 28)]) dX3_hasToldLike_56 rfl eb1.symm (by decide) rfl ?_
  refine Y_goto (pc := 59) (tgt := 19) dX3_hasToldLike_59 (by decide) ?_
  refine VV.sub [2, 3, 1, 0] rfl ?_
  exact hk19 _ _ _ hP h
theorem b_X3_hasToldLike_54 {k19 : (Int32 × Int32) → Mem → Option (Int32 × Mem)} {x3 : Int32} {M z} (hk19 : ∀ (a : (Int32 × Int32)) (M : Mem) (z : Int32 × Mem), Lay M → k19 a M = some z → VV Lay k_X3_hasToldLike 19 [(0, .ref 18), (1, .ref 28), (2, .int a.1), (3, .int a.2)] [] M z.2 (Qv (some (.int z.1)) z.2) xF) (hP : Lay M) (h : d_X3_hasToldLike_54 k19 x3 M = some z) : VV Lay k_X3_hasToldLike 54 [(0, .ref 18), (1, .ref 28), (3, .int x3)] [] M z.2 (Qv (some (.int z.1)) z.2) xF := by
  unfold d_X3_hasToldLike_54 at h
  refine Y_iconst (pc := 54) (v := (0 : Int32)) dX3_hasToldLike_54 rfl ?_
  refine VV.sub [0, 1, 2] rfl ?_
  exact b_X3_hasToldLike_55 hk19 hP h
theorem b_X3_hasToldLike_19b {k19 : (Int32 × Int32) → Mem → Option (Int32 × Mem)} {x2 : Int32} {x3 : Int32} {M z} (hk19 : ∀ (a : (Int32 × Int32)) (M : Mem) (z : Int32 × Mem), Lay M → k19 a M = some z → VV Lay k_X3_hasToldLike 19 [(0, .ref 18), (1, .ref 28), (2, .int a.1), (3, .int a.2)] [] M z.2 (Qv (some (.int z.1)) z.2) xF) (hP : Lay M) (h : d_X3_hasToldLike_19b k19 x2 x3 M = some z) : VV Lay k_X3_hasToldLike 19 [(0, .ref 18), (1, .ref 28), (2, .int x2), (3, .int x3)] [] M z.2 (Qv (some (.int z.1)) z.2) xF := by
  unfold d_X3_hasToldLike_19b at h
  refine Y_iload_n (pc := 19) (j := 3) dX3_hasToldLike_19 rfl rfl ?_
  refine Y_aload_n (pc := 20) (j := 0) dX3_hasToldLike_20 rfl rfl ?_
  refine Z_geti (pc := 21) dX3_hasToldLike_21 w1_189 (lk_18 hP) fi_4_11 ?_
  refine Y_icmp_ge (pc := 24) (tgt := 62) dX3_hasToldLike_24 (by decide) (fun hc1 => ?_) (fun hc1 => ?_)
  · replace h := ifT hc1 h
    refine Y_iload_n (pc := 62) (j := 2) dX3_hasToldLike_62 rfl rfl ?_
    obtain ⟨hb1, h⟩ := okE h
    cases h
    exact Y_iret (pc := 63) rfl (nar_bo hb1) dX3_hasToldLike_63 hP ⟨rfl, rfl⟩
  · replace h := ifF hc1 h
    refine Y_iload_n (pc := 27) (j := 2) dX3_hasToldLike_27 rfl rfl ?_
    refine Y_if_eq (pc := 28) (tgt := 54) dX3_hasToldLike_28 (by decide) (fun hc2 => ?_) (fun hc2 => ?_)
    · replace h := ifT hc2 h
      refine VV.sub [0, 1, 3] rfl ?_
      exact b_X3_hasToldLike_54 hk19 hP h
    · replace h := ifF hc2 h
      refine Y_aload_n (pc := 31) (j := 0) dX3_hasToldLike_31 rfl rfl ?_
      refine Z_getr (pc := 32) dX3_hasToldLike_32 w1_171 (lk_18 hP) fr_4_2 (lr_18_2 hP) ?_
      refine Y_sipush (pc := 35) (v := (528 : Int32)) dX3_hasToldLike_35 rfl ?_
      refine Y_iload_n (pc := 38) (j := 3) dX3_hasToldLike_38 rfl rfl ?_
      refine Y_iadd (pc := 39) dX3_hasToldLike_39 ?_
      refine Y_aload_n (pc := 40) (j := 1) dX3_hasToldLike_40 rfl rfl ?_
      refine Z_getr (pc := 41) dX3_hasToldLike_41 w1_171 (lk_28 hP) fr_4_2 (lr_28_2 hP) ?_
      obtain ⟨y1, qy1, h⟩ := bindE h
      have cy1 := v_X8_isSame hP qy1
      refine C_V2r (pc := 44) (k' := k_X8_isSame) dX3_hasToldLike_44 w6_234 i_X8_isSame (lk_19 hP) ⟨Nat.le_of_ble_eq_true rfl, Nat.le_of_ble_eq_true rfl⟩ rfl (Nat.le_of_ble_eq_true rfl) (Nat.le_of_ble_eq_true rfl) (Nat.le_of_ble_eq_true rfl) (cy1) ?_
      have hPy1 := cy1.1.1
      refine Y_if_eq (pc := 47) (tgt := 54) dX3_hasToldLike_47 (by decide) (fun hc3 => ?_) (fun hc3 => ?_)
      · replace h := ifT hc3 h
        refine VV.sub [0, 1, 3] rfl ?_
        exact b_X3_hasToldLike_54 hk19 hPy1 h
      · replace h := ifF hc3 h
        refine Y_iconst (pc := 50) (v := (1 : Int32)) dX3_hasToldLike_50 rfl ?_
        refine Y_goto (pc := 51) (tgt := 55) dX3_hasToldLike_51 (by decide) ?_
        refine VV.sub [0, 1, 3] rfl ?_
        exact b_X3_hasToldLike_55 hk19 hPy1 h
theorem b_X3_hasToldLike_19 (n : Nat) : ∀ (a : (Int32 × Int32)) (M : Mem) (z : Int32 × Mem), d_X3_hasToldLike_19 n a M = some z → Lay M → VV Lay k_X3_hasToldLike 19 [(0, .ref 18), (1, .ref 28), (2, .int a.1), (3, .int a.2)] [] M z.2 (Qv (some (.int z.1)) z.2) xF :=
  lp_ind (G := fun (a : (Int32 × Int32)) (M : Mem) (z : Int32 × Mem) => Lay M → VV Lay k_X3_hasToldLike 19 [(0, .ref 18), (1, .ref 28), (2, .int a.1), (3, .int a.2)] [] M z.2 (Qv (some (.int z.1)) z.2) xF) (fun k hk a M z h hP => b_X3_hasToldLike_19b  (fun a M z hP h => hk a M z h hP) hP h) n
theorem b_X3_hasToldLike_16 {s0 : Int32} {M z} (hP : Lay M) (h : d_X3_hasToldLike_16 s0 M = some z) : VV Lay k_X3_hasToldLike 16 [(0, .ref 18), (1, .ref 28)] [.int s0] M z.2 (Qv (some (.int z.1)) z.2) xF := by
  unfold d_X3_hasToldLike_16 at h
  refine Y_istore_n (pc := 16) (lv1 := [(2, .int s0), (0, .ref 18), (1, .ref 28)]) dX3_hasToldLike_16 rfl (by decide) rfl ?_
  refine Y_iconst (pc := 17) (v := (0 : Int32)) dX3_hasToldLike_17 rfl ?_
  refine Y_istore_n (pc := 18) (lv1 := [(3, .int (0 : Int32)), (2, .int s0), (0, .ref 18), (1, .ref 28)]) dX3_hasToldLike_18 rfl (by decide) rfl ?_
  refine VV.sub [2, 3, 1, 0] rfl ?_
  exact b_X3_hasToldLike_19  fuel _ _ _ h hP
theorem b_X3_hasToldLike {M z} (hP : Lay M) (h : d_X3_hasToldLike M = some z) : VV Lay k_X3_hasToldLike 0 [(0, .ref 18), (1, .ref 28)] [] M z.2 (Qv (some (.int z.1)) z.2) xF := by
  unfold d_X3_hasToldLike at h
  refine Y_aload_n (pc := 0) (j := 0) dX3_hasToldLike_0 rfl rfl ?_
  refine Z_geti (pc := 1) dX3_hasToldLike_1 w1_189 (lk_18 hP) fi_4_11 ?_
  refine Y_aload_n (pc := 4) (j := 1) dX3_hasToldLike_4 rfl rfl ?_
  refine Z_geti (pc := 5) dX3_hasToldLike_5 w1_189 (lk_28 hP) fi_4_11 ?_
  refine Y_icmp_ne (pc := 8) (tgt := 15) dX3_hasToldLike_8 (by decide) (fun hc1 => ?_) (fun hc1 => ?_)
  · replace h := ifF hc1 h
    refine Y_iconst (pc := 15) (v := (0 : Int32)) dX3_hasToldLike_15 rfl ?_
    refine VV.sub [0, 1] rfl ?_
    exact b_X3_hasToldLike_16  hP h
  · replace h := ifT hc1 h
    refine Y_iconst (pc := 11) (v := (1 : Int32)) dX3_hasToldLike_11 rfl ?_
    refine Y_goto (pc := 12) (tgt := 16) dX3_hasToldLike_12 (by decide) ?_
    refine VV.sub [0, 1] rfl ?_
    exact b_X3_hasToldLike_16  hP h
theorem v_X3_hasToldLike {M z} (hP : Lay M) (h : d_X3_hasToldLike M = some z) : CC Lay k_X3_hasToldLike [.ref 18, .ref 28] M z.2 (Qv (some (.int z.1)) z.2) xF :=
  CC.ofVV (by decide) rfl (Nat.le_of_ble_eq_true rfl) (b_X3_hasToldLike hP h)
theorem b_X3_hasFieldsLike_60 {k5 : (Int32 × Int32) → Mem → Option (Int32 × Mem)} {x1 : Int32} {x3 : Int32} {x4 : Int32} {M z} (hk5 : ∀ (a : (Int32 × Int32)) (M : Mem) (z : Int32 × Mem), Lay M → k5 a M = some z → VV Lay k_X3_hasFieldsLike 5 [(0, .ref 18), (1, .int x1), (2, .ref 28), (3, .int a.1), (4, .int a.2)] [] M z.2 (Qv (some (.int z.1)) z.2) xF) (hP : Lay M) (h : d_X3_hasFieldsLike_60 k5 x1 x3 x4 M = some z) : VV Lay k_X3_hasFieldsLike 60 [(0, .ref 18), (1, .int x1), (2, .ref 28), (3, .int x3), (4, .int x4)] [] M z.2 (Qv (some (.int z.1)) z.2) xF := by
  unfold d_X3_hasFieldsLike_60 at h
  obtain ⟨b1, eb1, h⟩ := bndE h
  refine Y_iinc (pc := 60) (j := 4) (v := b1) (lv1 := [(4, .int b1), (0, .ref 18), (1, .int x1), (2, .ref 28), (3, .int x3)]) dX3_hasFieldsLike_60 rfl eb1.symm (by decide) rfl ?_
  refine Y_goto (pc := 63) (tgt := 5) dX3_hasFieldsLike_63 (by decide) ?_
  refine VV.sub [1, 2, 3, 4, 0] rfl ?_
  exact hk5 _ _ _ hP h
theorem b_X3_hasFieldsLike_59 {k5 : (Int32 × Int32) → Mem → Option (Int32 × Mem)} {x1 : Int32} {x4 : Int32} {s0 : Int32} {M z} (hk5 : ∀ (a : (Int32 × Int32)) (M : Mem) (z : Int32 × Mem), Lay M → k5 a M = some z → VV Lay k_X3_hasFieldsLike 5 [(0, .ref 18), (1, .int x1), (2, .ref 28), (3, .int a.1), (4, .int a.2)] [] M z.2 (Qv (some (.int z.1)) z.2) xF) (hP : Lay M) (h : d_X3_hasFieldsLike_59 k5 x1 x4 s0 M = some z) : VV Lay k_X3_hasFieldsLike 59 [(0, .ref 18), (1, .int x1), (2, .ref 28), (4, .int x4)] [.int s0] M z.2 (Qv (some (.int z.1)) z.2) xF := by
  unfold d_X3_hasFieldsLike_59 at h
  refine Y_istore_n (pc := 59) (lv1 := [(3, .int s0), (0, .ref 18), (1, .int x1), (2, .ref 28), (4, .int x4)]) dX3_hasFieldsLike_59 rfl (by decide) rfl ?_
  refine VV.sub [1, 2, 3, 0, 4] rfl ?_
  exact b_X3_hasFieldsLike_60 hk5 hP h
theorem b_X3_hasFieldsLike_58 {k5 : (Int32 × Int32) → Mem → Option (Int32 × Mem)} {x1 : Int32} {x4 : Int32} {M z} (hk5 : ∀ (a : (Int32 × Int32)) (M : Mem) (z : Int32 × Mem), Lay M → k5 a M = some z → VV Lay k_X3_hasFieldsLike 5 [(0, .ref 18), (1, .int x1), (2, .ref 28), (3, .int a.1), (4, .int a.2)] [] M z.2 (Qv (some (.int z.1)) z.2) xF) (hP : Lay M) (h : d_X3_hasFieldsLike_58 k5 x1 x4 M = some z) : VV Lay k_X3_hasFieldsLike 58 [(0, .ref 18), (1, .int x1), (2, .ref 28), (4, .int x4)] [] M z.2 (Qv (some (.int z.1)) z.2) xF := by
  unfold d_X3_hasFieldsLike_58 at h
  refine Y_iconst (pc := 58) (v := (0 : Int32)) dX3_hasFieldsLike_58 rfl ?_
  refine VV.sub [0, 1, 2, 3] rfl ?_
  exact b_X3_hasFieldsLike_59 hk5 hP h
theorem b_X3_hasFieldsLike_5b {k5 : (Int32 × Int32) → Mem → Option (Int32 × Mem)} {x1 : Int32} {x3 : Int32} {x4 : Int32} {M z} (hk5 : ∀ (a : (Int32 × Int32)) (M : Mem) (z : Int32 × Mem), Lay M → k5 a M = some z → VV Lay k_X3_hasFieldsLike 5 [(0, .ref 18), (1, .int x1), (2, .ref 28), (3, .int a.1), (4, .int a.2)] [] M z.2 (Qv (some (.int z.1)) z.2) xF) (hP : Lay M) (h : d_X3_hasFieldsLike_5b k5 x1 x3 x4 M = some z) : VV Lay k_X3_hasFieldsLike 5 [(0, .ref 18), (1, .int x1), (2, .ref 28), (3, .int x3), (4, .int x4)] [] M z.2 (Qv (some (.int z.1)) z.2) xF := by
  unfold d_X3_hasFieldsLike_5b at h
  refine Y_iload (pc := 5) (j := 4) dX3_hasFieldsLike_5 rfl ?_
  refine Y_bipush (pc := 7) (v := (6 : Int32)) dX3_hasFieldsLike_7 rfl ?_
  refine Y_icmp_ge (pc := 9) (tgt := 66) dX3_hasFieldsLike_9 (by decide) (fun hc1 => ?_) (fun hc1 => ?_)
  · replace h := ifT hc1 h
    refine Y_iload_n (pc := 66) (j := 3) dX3_hasFieldsLike_66 rfl rfl ?_
    obtain ⟨hb1, h⟩ := okE h
    cases h
    exact Y_iret (pc := 67) rfl (nar_bo hb1) dX3_hasFieldsLike_67 hP ⟨rfl, rfl⟩
  · replace h := ifF hc1 h
    refine Y_aload_n (pc := 12) (j := 0) dX3_hasFieldsLike_12 rfl rfl ?_
    refine Z_getr (pc := 13) dX3_hasFieldsLike_13 w1_169 (lk_18 hP) fr_4_1 (lr_18_1 hP) ?_
    refine Y_aload_n (pc := 16) (j := 0) dX3_hasFieldsLike_16 rfl rfl ?_
    refine Z_getr (pc := 17) dX3_hasFieldsLike_17 w1_177 (lk_18 hP) fr_4_6 (lr_18_6 hP) ?_
    refine Y_iload_n (pc := 20) (j := 1) dX3_hasFieldsLike_20 rfl rfl ?_
    obtain ⟨hb2, h⟩ := okE h
    refine Y_iald (pc := 21) dX3_hasFieldsLike_21 (lk_27 hP) (ln_27 hP) hb2 ?_
    refine Y_iload (pc := 22) (j := 4) dX3_hasFieldsLike_22 rfl ?_
    obtain ⟨y1, qy1, h⟩ := bindE h
    have cy1 := v_X7_has hP qy1
    refine C_V2r (pc := 24) (k' := k_X7_has) dX3_hasFieldsLike_24 w5_144 i_X7_has (lk_11 hP) ⟨Nat.le_of_ble_eq_true rfl, Nat.le_of_ble_eq_true rfl⟩ rfl (Nat.le_of_ble_eq_true rfl) (Nat.le_of_ble_eq_true rfl) (Nat.le_of_ble_eq_true rfl) (cy1) ?_
    have hPy1 := cy1.1.1
    refine Y_if_eq (pc := 27) (tgt := 60) dX3_hasFieldsLike_27 (by decide) (fun hc2 => ?_) (fun hc2 => ?_)
    · replace h := ifT hc2 h
      refine VV.sub [0, 1, 2, 3, 4] rfl ?_
      exact b_X3_hasFieldsLike_60 hk5 hPy1 h
    · replace h := ifF hc2 h
      refine Y_iload_n (pc := 30) (j := 3) dX3_hasFieldsLike_30 rfl rfl ?_
      refine Y_if_eq (pc := 31) (tgt := 58) dX3_hasFieldsLike_31 (by decide) (fun hc3 => ?_) (fun hc3 => ?_)
      · replace h := ifT hc3 h
        refine VV.sub [0, 1, 2, 4] rfl ?_
        exact b_X3_hasFieldsLike_58 hk5 hPy1 h
      · replace h := ifF hc3 h
        refine Y_aload_n (pc := 34) (j := 0) dX3_hasFieldsLike_34 rfl rfl ?_
        refine Z_getr (pc := 35) dX3_hasFieldsLike_35 w1_171 (lk_18 hPy1) fr_4_2 (lr_18_2 hPy1) ?_
        refine Y_iload_n (pc := 38) (j := 1) dX3_hasFieldsLike_38 rfl rfl ?_
        refine Y_iload (pc := 39) (j := 4) dX3_hasFieldsLike_39 rfl ?_
        obtain ⟨y2, qy2, h⟩ := bindE h
        have cy2 := v_X11_fieldPlace hPy1 qy2
        refine C_N2r (pc := 41) (k' := k_X11_fieldPlace) dX3_hasFieldsLike_41 nl_Machine_260 i_X11_fieldPlace (Nat.le_of_ble_eq_true rfl) (Nat.le_of_ble_eq_true rfl) (Nat.le_of_ble_eq_true rfl) (cy2) ?_
        have hPy2 := cy2.1.1
        refine Y_aload_n (pc := 44) (j := 2) dX3_hasFieldsLike_44 rfl rfl ?_
        refine Z_getr (pc := 45) dX3_hasFieldsLike_45 w1_171 (lk_28 hPy2) fr_4_2 (lr_28_2 hPy2) ?_
        obtain ⟨y3, qy3, h⟩ := bindE h
        have cy3 := v_X8_isSame hPy2 qy3
        refine C_V2r (pc := 48) (k' := k_X8_isSame) dX3_hasFieldsLike_48 w6_234 i_X8_isSame (lk_19 hPy2) ⟨Nat.le_of_ble_eq_true rfl, Nat.le_of_ble_eq_true rfl⟩ rfl (Nat.le_of_ble_eq_true rfl) (Nat.le_of_ble_eq_true rfl) (Nat.le_of_ble_eq_true rfl) (cy3) ?_
        have hPy3 := cy3.1.1
        refine Y_if_eq (pc := 51) (tgt := 58) dX3_hasFieldsLike_51 (by decide) (fun hc4 => ?_) (fun hc4 => ?_)
        · replace h := ifT hc4 h
          refine VV.sub [0, 1, 2, 4] rfl ?_
          exact b_X3_hasFieldsLike_58 hk5 hPy3 h
        · replace h := ifF hc4 h
          refine Y_iconst (pc := 54) (v := (1 : Int32)) dX3_hasFieldsLike_54 rfl ?_
          refine Y_goto (pc := 55) (tgt := 59) dX3_hasFieldsLike_55 (by decide) ?_
          refine VV.sub [0, 1, 2, 4] rfl ?_
          exact b_X3_hasFieldsLike_59 hk5 hPy3 h
theorem b_X3_hasFieldsLike_5 {x1 : Int32} (n : Nat) : ∀ (a : (Int32 × Int32)) (M : Mem) (z : Int32 × Mem), d_X3_hasFieldsLike_5 x1 n a M = some z → Lay M → VV Lay k_X3_hasFieldsLike 5 [(0, .ref 18), (1, .int x1), (2, .ref 28), (3, .int a.1), (4, .int a.2)] [] M z.2 (Qv (some (.int z.1)) z.2) xF :=
  lp_ind (G := fun (a : (Int32 × Int32)) (M : Mem) (z : Int32 × Mem) => Lay M → VV Lay k_X3_hasFieldsLike 5 [(0, .ref 18), (1, .int x1), (2, .ref 28), (3, .int a.1), (4, .int a.2)] [] M z.2 (Qv (some (.int z.1)) z.2) xF) (fun k hk a M z h hP => b_X3_hasFieldsLike_5b  (fun a M z hP h => hk a M z h hP) hP h) n
theorem b_X3_hasFieldsLike {x1 : Int32} {M z} (hP : Lay M) (h : d_X3_hasFieldsLike x1 M = some z) : VV Lay k_X3_hasFieldsLike 0 [(0, .ref 18), (1, .int x1), (2, .ref 28)] [] M z.2 (Qv (some (.int z.1)) z.2) xF := by
  unfold d_X3_hasFieldsLike at h
  refine Y_iconst (pc := 0) (v := (1 : Int32)) dX3_hasFieldsLike_0 rfl ?_
  refine Y_istore_n (pc := 1) (lv1 := [(3, .int (1 : Int32)), (0, .ref 18), (1, .int x1), (2, .ref 28)]) dX3_hasFieldsLike_1 rfl (by decide) rfl ?_
  refine Y_iconst (pc := 2) (v := (0 : Int32)) dX3_hasFieldsLike_2 rfl ?_
  refine Y_istore (pc := 3) (lv1 := [(4, .int (0 : Int32)), (3, .int (1 : Int32)), (0, .ref 18), (1, .int x1), (2, .ref 28)]) dX3_hasFieldsLike_3 (by decide) rfl ?_
  refine VV.sub [2, 3, 4, 1, 0] rfl ?_
  exact b_X3_hasFieldsLike_5  fuel _ _ _ h hP
theorem v_X3_hasFieldsLike {x1 : Int32} {M z} (hP : Lay M) (h : d_X3_hasFieldsLike x1 M = some z) : CC Lay k_X3_hasFieldsLike [.ref 18, .int x1, .ref 28] M z.2 (Qv (some (.int z.1)) z.2) xF :=
  CC.ofVV (by decide) rfl (Nat.le_of_ble_eq_true rfl) (b_X3_hasFieldsLike hP h)
theorem b_X3_hasObjectsLike_60 {k19 : (Int32 × Int32) → Mem → Option (Int32 × Mem)} {x3 : Int32} {s0 : Int32} {M z} (hk19 : ∀ (a : (Int32 × Int32)) (M : Mem) (z : Int32 × Mem), Lay M → k19 a M = some z → VV Lay k_X3_hasObjectsLike 19 [(0, .ref 18), (1, .ref 28), (2, .int a.1), (3, .int a.2)] [] M z.2 (Qv (some (.int z.1)) z.2) xF) (hP : Lay M) (h : d_X3_hasObjectsLike_60 k19 x3 s0 M = some z) : VV Lay k_X3_hasObjectsLike 60 [(0, .ref 18), (1, .ref 28), (3, .int x3)] [.int s0] M z.2 (Qv (some (.int z.1)) z.2) xF := by
  unfold d_X3_hasObjectsLike_60 at h
  refine Y_istore_n (pc := 60) (lv1 := [(2, .int s0), (0, .ref 18), (1, .ref 28), (3, .int x3)]) dX3_hasObjectsLike_60 rfl (by decide) rfl ?_
  obtain ⟨b1, eb1, h⟩ := bndE h
  refine Y_iinc (pc := 61) (j := 3) (v := b1) (lv1 := [(3, .int b1), (2, .int s0), (0, .ref 18), (1, .ref 28)]) dX3_hasObjectsLike_61 rfl eb1.symm (by decide) rfl ?_
  refine Y_goto (pc := 64) (tgt := 19) dX3_hasObjectsLike_64 (by decide) ?_
  refine VV.sub [2, 3, 1, 0] rfl ?_
  exact hk19 _ _ _ hP h
theorem b_X3_hasObjectsLike_59 {k19 : (Int32 × Int32) → Mem → Option (Int32 × Mem)} {x3 : Int32} {M z} (hk19 : ∀ (a : (Int32 × Int32)) (M : Mem) (z : Int32 × Mem), Lay M → k19 a M = some z → VV Lay k_X3_hasObjectsLike 19 [(0, .ref 18), (1, .ref 28), (2, .int a.1), (3, .int a.2)] [] M z.2 (Qv (some (.int z.1)) z.2) xF) (hP : Lay M) (h : d_X3_hasObjectsLike_59 k19 x3 M = some z) : VV Lay k_X3_hasObjectsLike 59 [(0, .ref 18), (1, .ref 28), (3, .int x3)] [] M z.2 (Qv (some (.int z.1)) z.2) xF := by
  unfold d_X3_hasObjectsLike_59 at h
  refine Y_iconst (pc := 59) (v := (0 : Int32)) dX3_hasObjectsLike_59 rfl ?_
  refine VV.sub [0, 1, 2] rfl ?_
  exact b_X3_hasObjectsLike_60 hk19 hP h
theorem b_X3_hasObjectsLike_19b {k19 : (Int32 × Int32) → Mem → Option (Int32 × Mem)} {x2 : Int32} {x3 : Int32} {M z} (hk19 : ∀ (a : (Int32 × Int32)) (M : Mem) (z : Int32 × Mem), Lay M → k19 a M = some z → VV Lay k_X3_hasObjectsLike 19 [(0, .ref 18), (1, .ref 28), (2, .int a.1), (3, .int a.2)] [] M z.2 (Qv (some (.int z.1)) z.2) xF) (hP : Lay M) (h : d_X3_hasObjectsLike_19b k19 x2 x3 M = some z) : VV Lay k_X3_hasObjectsLike 19 [(0, .ref 18), (1, .ref 28), (2, .int x2), (3, .int x3)] [] M z.2 (Qv (some (.int z.1)) z.2) xF := by
  unfold d_X3_hasObjectsLike_19b at h
  refine Y_iload_n (pc := 19) (j := 3) dX3_hasObjectsLike_19 rfl rfl ?_
  refine Y_aload_n (pc := 20) (j := 0) dX3_hasObjectsLike_20 rfl rfl ?_
  refine Z_geti (pc := 21) dX3_hasObjectsLike_21 w1_187 (lk_18 hP) fi_4_10 ?_
  refine Y_icmp_ge (pc := 24) (tgt := 67) dX3_hasObjectsLike_24 (by decide) (fun hc1 => ?_) (fun hc1 => ?_)
  · replace h := ifT hc1 h
    refine Y_iload_n (pc := 67) (j := 2) dX3_hasObjectsLike_67 rfl rfl ?_
    obtain ⟨hb1, h⟩ := okE h
    cases h
    exact Y_iret (pc := 68) rfl (nar_bo hb1) dX3_hasObjectsLike_68 hP ⟨rfl, rfl⟩
  · replace h := ifF hc1 h
    refine Y_iload_n (pc := 27) (j := 2) dX3_hasObjectsLike_27 rfl rfl ?_
    refine Y_if_eq (pc := 28) (tgt := 59) dX3_hasObjectsLike_28 (by decide) (fun hc2 => ?_) (fun hc2 => ?_)
    · replace h := ifT hc2 h
      refine VV.sub [0, 1, 3] rfl ?_
      exact b_X3_hasObjectsLike_59 hk19 hP h
    · replace h := ifF hc2 h
      refine Y_aload_n (pc := 31) (j := 0) dX3_hasObjectsLike_31 rfl rfl ?_
      refine Z_getr (pc := 32) dX3_hasObjectsLike_32 w1_177 (lk_18 hP) fr_4_6 (lr_18_6 hP) ?_
      refine Y_iload_n (pc := 35) (j := 3) dX3_hasObjectsLike_35 rfl rfl ?_
      obtain ⟨hb2, h⟩ := okE h
      refine Y_iald (pc := 36) dX3_hasObjectsLike_36 (lk_27 hP) (ln_27 hP) hb2 ?_
      refine Y_aload_n (pc := 37) (j := 1) dX3_hasObjectsLike_37 rfl rfl ?_
      refine Z_getr (pc := 38) dX3_hasObjectsLike_38 w1_177 (lk_28 hP) fr_4_6 (lr_28_6 hP) ?_
      refine Y_iload_n (pc := 41) (j := 3) dX3_hasObjectsLike_41 rfl rfl ?_
      obtain ⟨hb3, h⟩ := okE h
      refine Y_iald (pc := 42) dX3_hasObjectsLike_42 (lk_37 hP) (ln_37 hP) hb3 ?_
      refine Y_icmp_ne (pc := 43) (tgt := 59) dX3_hasObjectsLike_43 (by decide) (fun hc3 => ?_) (fun hc3 => ?_)
      · replace h := ifF hc3 h
        refine VV.sub [0, 1, 3] rfl ?_
        exact b_X3_hasObjectsLike_59 hk19 hP h
      · replace h := ifT hc3 h
        refine Y_aload_n (pc := 46) (j := 0) dX3_hasObjectsLike_46 rfl rfl ?_
        refine Y_iload_n (pc := 47) (j := 3) dX3_hasObjectsLike_47 rfl rfl ?_
        refine Y_aload_n (pc := 48) (j := 1) dX3_hasObjectsLike_48 rfl rfl ?_
        obtain ⟨y1, qy1, h⟩ := bindE h
        have cy1 := v_X3_hasFieldsLike hP qy1
        refine C_V2r (pc := 49) (k' := k_X3_hasFieldsLike) dX3_hasObjectsLike_49 w7_9 i_X3_hasFieldsLike (lk_18 hP) ⟨Nat.le_of_ble_eq_true rfl, Nat.le_of_ble_eq_true rfl⟩ rfl (Nat.le_of_ble_eq_true rfl) (Nat.le_of_ble_eq_true rfl) (Nat.le_of_ble_eq_true rfl) (cy1) ?_
        have hPy1 := cy1.1.1
        refine Y_if_eq (pc := 52) (tgt := 59) dX3_hasObjectsLike_52 (by decide) (fun hc4 => ?_) (fun hc4 => ?_)
        · replace h := ifT hc4 h
          refine VV.sub [0, 1, 3] rfl ?_
          exact b_X3_hasObjectsLike_59 hk19 hPy1 h
        · replace h := ifF hc4 h
          refine Y_iconst (pc := 55) (v := (1 : Int32)) dX3_hasObjectsLike_55 rfl ?_
          refine Y_goto (pc := 56) (tgt := 60) dX3_hasObjectsLike_56 (by decide) ?_
          refine VV.sub [0, 1, 3] rfl ?_
          exact b_X3_hasObjectsLike_60 hk19 hPy1 h
theorem b_X3_hasObjectsLike_19 (n : Nat) : ∀ (a : (Int32 × Int32)) (M : Mem) (z : Int32 × Mem), d_X3_hasObjectsLike_19 n a M = some z → Lay M → VV Lay k_X3_hasObjectsLike 19 [(0, .ref 18), (1, .ref 28), (2, .int a.1), (3, .int a.2)] [] M z.2 (Qv (some (.int z.1)) z.2) xF :=
  lp_ind (G := fun (a : (Int32 × Int32)) (M : Mem) (z : Int32 × Mem) => Lay M → VV Lay k_X3_hasObjectsLike 19 [(0, .ref 18), (1, .ref 28), (2, .int a.1), (3, .int a.2)] [] M z.2 (Qv (some (.int z.1)) z.2) xF) (fun k hk a M z h hP => b_X3_hasObjectsLike_19b  (fun a M z hP h => hk a M z h hP) hP h) n
theorem b_X3_hasObjectsLike_16 {s0 : Int32} {M z} (hP : Lay M) (h : d_X3_hasObjectsLike_16 s0 M = some z) : VV Lay k_X3_hasObjectsLike 16 [(0, .ref 18), (1, .ref 28)] [.int s0] M z.2 (Qv (some (.int z.1)) z.2) xF := by
  unfold d_X3_hasObjectsLike_16 at h
  refine Y_istore_n (pc := 16) (lv1 := [(2, .int s0), (0, .ref 18), (1, .ref 28)]) dX3_hasObjectsLike_16 rfl (by decide) rfl ?_
  refine Y_iconst (pc := 17) (v := (0 : Int32)) dX3_hasObjectsLike_17 rfl ?_
  refine Y_istore_n (pc := 18) (lv1 := [(3, .int (0 : Int32)), (2, .int s0), (0, .ref 18), (1, .ref 28)]) dX3_hasObjectsLike_18 rfl (by decide) rfl ?_
  refine VV.sub [2, 3, 1, 0] rfl ?_
  exact b_X3_hasObjectsLike_19  fuel _ _ _ h hP
theorem b_X3_hasObjectsLike {M z} (hP : Lay M) (h : d_X3_hasObjectsLike M = some z) : VV Lay k_X3_hasObjectsLike 0 [(0, .ref 18), (1, .ref 28)] [] M z.2 (Qv (some (.int z.1)) z.2) xF := by
  unfold d_X3_hasObjectsLike at h
  refine Y_aload_n (pc := 0) (j := 0) dX3_hasObjectsLike_0 rfl rfl ?_
  refine Z_geti (pc := 1) dX3_hasObjectsLike_1 w1_187 (lk_18 hP) fi_4_10 ?_
  refine Y_aload_n (pc := 4) (j := 1) dX3_hasObjectsLike_4 rfl rfl ?_
  refine Z_geti (pc := 5) dX3_hasObjectsLike_5 w1_187 (lk_28 hP) fi_4_10 ?_
  refine Y_icmp_ne (pc := 8) (tgt := 15) dX3_hasObjectsLike_8 (by decide) (fun hc1 => ?_) (fun hc1 => ?_)
  · replace h := ifF hc1 h
    refine Y_iconst (pc := 15) (v := (0 : Int32)) dX3_hasObjectsLike_15 rfl ?_
    refine VV.sub [0, 1] rfl ?_
    exact b_X3_hasObjectsLike_16  hP h
  · replace h := ifT hc1 h
    refine Y_iconst (pc := 11) (v := (1 : Int32)) dX3_hasObjectsLike_11 rfl ?_
    refine Y_goto (pc := 12) (tgt := 16) dX3_hasObjectsLike_12 (by decide) ?_
    refine VV.sub [0, 1] rfl ?_
    exact b_X3_hasObjectsLike_16  hP h
theorem v_X3_hasObjectsLike {M z} (hP : Lay M) (h : d_X3_hasObjectsLike M = some z) : CC Lay k_X3_hasObjectsLike [.ref 18, .ref 28] M z.2 (Qv (some (.int z.1)) z.2) xF :=
  CC.ofVV (by decide) rfl (Nat.le_of_ble_eq_true rfl) (b_X3_hasObjectsLike hP h)
theorem b_X3_endedLike_70 {M z} (hP : Lay M) (h : d_X3_endedLike_70 M = some z) : VV Lay k_X3_endedLike 70 [(0, .ref 18), (1, .ref 28)] [] M z.2 (Qv (some (.int z.1)) z.2) xF := by
  unfold d_X3_endedLike_70 at h
  refine Y_aload_n (pc := 70) (j := 0) dX3_endedLike_70 rfl rfl ?_
  refine Y_aload_n (pc := 71) (j := 1) dX3_endedLike_71 rfl rfl ?_
  obtain ⟨y1, qy1, h⟩ := bindE h
  have cy1 := v_X3_hasToldLike hP qy1
  refine C_V1r (pc := 72) (k' := k_X3_hasToldLike) dX3_endedLike_72 w7_1 i_X3_hasToldLike (lk_18 hP) ⟨Nat.le_of_ble_eq_true rfl, Nat.le_of_ble_eq_true rfl⟩ rfl (Nat.le_of_ble_eq_true rfl) (Nat.le_of_ble_eq_true rfl) (Nat.le_of_ble_eq_true rfl) (cy1) ?_
  have hPy1 := cy1.1.1
  refine Y_if_eq (pc := 75) (tgt := 90) dX3_endedLike_75 (by decide) (fun hc1 => ?_) (fun hc1 => ?_)
  · replace h := ifT hc1 h
    refine Y_iconst (pc := 90) (v := (0 : Int32)) dX3_endedLike_90 rfl ?_
    cases h
    exact Y_iret (pc := 91) rfl (nar_bo (by decide)) dX3_endedLike_91 hPy1 ⟨rfl, rfl⟩
  · replace h := ifF hc1 h
    refine Y_aload_n (pc := 78) (j := 0) dX3_endedLike_78 rfl rfl ?_
    refine Y_aload_n (pc := 79) (j := 1) dX3_endedLike_79 rfl rfl ?_
    obtain ⟨y2, qy2, h⟩ := bindE h
    have cy2 := v_X3_hasObjectsLike hPy1 qy2
    refine C_V1r (pc := 80) (k' := k_X3_hasObjectsLike) dX3_endedLike_80 w7_5 i_X3_hasObjectsLike (lk_18 hPy1) ⟨Nat.le_of_ble_eq_true rfl, Nat.le_of_ble_eq_true rfl⟩ rfl (Nat.le_of_ble_eq_true rfl) (Nat.le_of_ble_eq_true rfl) (Nat.le_of_ble_eq_true rfl) (cy2) ?_
    have hPy2 := cy2.1.1
    refine Y_if_eq (pc := 83) (tgt := 90) dX3_endedLike_83 (by decide) (fun hc2 => ?_) (fun hc2 => ?_)
    · replace h := ifT hc2 h
      refine Y_iconst (pc := 90) (v := (0 : Int32)) dX3_endedLike_90 rfl ?_
      cases h
      exact Y_iret (pc := 91) rfl (nar_bo (by decide)) dX3_endedLike_91 hPy2 ⟨rfl, rfl⟩
    · replace h := ifF hc2 h
      refine Y_iconst (pc := 86) (v := (1 : Int32)) dX3_endedLike_86 rfl ?_
      refine Y_goto (pc := 87) (tgt := 91) dX3_endedLike_87 (by decide) ?_
      cases h
      exact Y_iret (pc := 91) rfl (nar_bo (by decide)) dX3_endedLike_91 hPy2 ⟨rfl, rfl⟩
theorem b_X3_endedLike {M z} (hP : Lay M) (h : d_X3_endedLike M = some z) : VV Lay k_X3_endedLike 0 [(0, .ref 18), (1, .ref 28)] [] M z.2 (Qv (some (.int z.1)) z.2) xF := by
  unfold d_X3_endedLike at h
  refine Y_aload_n (pc := 0) (j := 0) dX3_endedLike_0 rfl rfl ?_
  refine Z_geti (pc := 1) dX3_endedLike_1 w1_193 (lk_18 hP) fi_4_13 ?_
  refine Y_aload_n (pc := 4) (j := 1) dX3_endedLike_4 rfl rfl ?_
  refine Z_geti (pc := 5) dX3_endedLike_5 w1_193 (lk_28 hP) fi_4_13 ?_
  refine Y_icmp_ne (pc := 8) (tgt := 90) dX3_endedLike_8 (by decide) (fun hc1 => ?_) (fun hc1 => ?_)
  · replace h := ifF hc1 h
    refine Y_iconst (pc := 90) (v := (0 : Int32)) dX3_endedLike_90 rfl ?_
    cases h
    exact Y_iret (pc := 91) rfl (nar_bo (by decide)) dX3_endedLike_91 hP ⟨rfl, rfl⟩
  · replace h := ifT hc1 h
    refine Y_aload_n (pc := 11) (j := 0) dX3_endedLike_11 rfl rfl ?_
    refine Z_geti (pc := 12) dX3_endedLike_12 w1_195 (lk_18 hP) fi_4_14 ?_
    refine Y_aload_n (pc := 15) (j := 1) dX3_endedLike_15 rfl rfl ?_
    refine Z_geti (pc := 16) dX3_endedLike_16 w1_195 (lk_28 hP) fi_4_14 ?_
    refine Y_icmp_ne (pc := 19) (tgt := 90) dX3_endedLike_19 (by decide) (fun hc2 => ?_) (fun hc2 => ?_)
    · replace h := ifF hc2 h
      refine Y_iconst (pc := 90) (v := (0 : Int32)) dX3_endedLike_90 rfl ?_
      cases h
      exact Y_iret (pc := 91) rfl (nar_bo (by decide)) dX3_endedLike_91 hP ⟨rfl, rfl⟩
    · replace h := ifT hc2 h
      refine Y_aload_n (pc := 22) (j := 0) dX3_endedLike_22 rfl rfl ?_
      refine Z_geti (pc := 23) dX3_endedLike_23 w1_197 (lk_18 hP) fi_4_15 ?_
      refine Y_aload_n (pc := 26) (j := 1) dX3_endedLike_26 rfl rfl ?_
      refine Z_geti (pc := 27) dX3_endedLike_27 w1_197 (lk_28 hP) fi_4_15 ?_
      refine Y_icmp_ne (pc := 30) (tgt := 90) dX3_endedLike_30 (by decide) (fun hc3 => ?_) (fun hc3 => ?_)
      · replace h := ifF hc3 h
        refine Y_iconst (pc := 90) (v := (0 : Int32)) dX3_endedLike_90 rfl ?_
        cases h
        exact Y_iret (pc := 91) rfl (nar_bo (by decide)) dX3_endedLike_91 hP ⟨rfl, rfl⟩
      · replace h := ifT hc3 h
        refine Y_aload_n (pc := 33) (j := 0) dX3_endedLike_33 rfl rfl ?_
        refine Z_geti (pc := 34) dX3_endedLike_34 w1_191 (lk_18 hP) fi_4_12 ?_
        refine Y_aload_n (pc := 37) (j := 1) dX3_endedLike_37 rfl rfl ?_
        refine Z_geti (pc := 38) dX3_endedLike_38 w1_191 (lk_28 hP) fi_4_12 ?_
        refine Y_icmp_ne (pc := 41) (tgt := 90) dX3_endedLike_41 (by decide) (fun hc4 => ?_) (fun hc4 => ?_)
        · replace h := ifF hc4 h
          refine Y_iconst (pc := 90) (v := (0 : Int32)) dX3_endedLike_90 rfl ?_
          cases h
          exact Y_iret (pc := 91) rfl (nar_bo (by decide)) dX3_endedLike_91 hP ⟨rfl, rfl⟩
        · replace h := ifT hc4 h
          refine Y_aload_n (pc := 44) (j := 0) dX3_endedLike_44 rfl rfl ?_
          refine Z_geti (pc := 45) dX3_endedLike_45 w1_193 (lk_18 hP) fi_4_13 ?_
          refine Y_bipush (pc := 48) (v := (118 : Int32)) dX3_endedLike_48 rfl ?_
          refine Y_icmp_ne (pc := 50) (tgt := 70) dX3_endedLike_50 (by decide) (fun hc5 => ?_) (fun hc5 => ?_)
          · replace h := ifF hc5 h
            refine VV.sub [0, 1] rfl ?_
            exact b_X3_endedLike_70  hP h
          · replace h := ifT hc5 h
            refine Y_aload_n (pc := 53) (j := 0) dX3_endedLike_53 rfl rfl ?_
            refine Z_getr (pc := 54) dX3_endedLike_54 w1_171 (lk_18 hP) fr_4_2 (lr_18_2 hP) ?_
            refine Y_sipush (pc := 57) (v := (548 : Int32)) dX3_endedLike_57 rfl ?_
            refine Y_aload_n (pc := 60) (j := 1) dX3_endedLike_60 rfl rfl ?_
            refine Z_getr (pc := 61) dX3_endedLike_61 w1_171 (lk_28 hP) fr_4_2 (lr_28_2 hP) ?_
            obtain ⟨y1, qy1, h⟩ := bindE h
            have cy1 := v_X8_isSame hP qy1
            refine C_V2r (pc := 64) (k' := k_X8_isSame) dX3_endedLike_64 w6_234 i_X8_isSame (lk_19 hP) ⟨Nat.le_of_ble_eq_true rfl, Nat.le_of_ble_eq_true rfl⟩ rfl (Nat.le_of_ble_eq_true rfl) (Nat.le_of_ble_eq_true rfl) (Nat.le_of_ble_eq_true rfl) (cy1) ?_
            have hPy1 := cy1.1.1
            refine Y_if_eq (pc := 67) (tgt := 90) dX3_endedLike_67 (by decide) (fun hc6 => ?_) (fun hc6 => ?_)
            · replace h := ifT hc6 h
              refine Y_iconst (pc := 90) (v := (0 : Int32)) dX3_endedLike_90 rfl ?_
              cases h
              exact Y_iret (pc := 91) rfl (nar_bo (by decide)) dX3_endedLike_91 hPy1 ⟨rfl, rfl⟩
            · replace h := ifF hc6 h
              refine VV.sub [0, 1] rfl ?_
              exact b_X3_endedLike_70  hPy1 h
theorem v_X3_endedLike {M z} (hP : Lay M) (h : d_X3_endedLike M = some z) : CC Lay k_X3_endedLike [.ref 18, .ref 28] M z.2 (Qv (some (.int z.1)) z.2) xF :=
  CC.ofVV (by decide) rfl (Nat.le_of_ble_eq_true rfl) (b_X3_endedLike hP h)
theorem b_X4_bitsOf_142 {x2 : Int64} {x4 : UInt64} {x6 : Int64} {M z} (hP : Lay M) (h : d_X4_bitsOf_142 x2 x4 x6 M = some z) : VV Lay k_X4_bitsOf 142 [(2, .long x2), (4, .double x4), (6, .long x6)] [] M z.2 (Qv (some (.long z.1)) z.2) xF := by
  unfold d_X4_bitsOf_142 at h
  refine Y_dload (pc := 142) (j := 1) dX4_bitsOf_142 rfl ?_
  refine Y_d2l (pc := 144) dX4_bitsOf_144 ?_
  obtain ⟨b1, eb1, h⟩ := bndE h
  refine VV.topL eb1 ?_
  refine Y_lstore (pc := 145) (lv1 := [(8, .long b1), (2, .long x2), (4, .double x4), (6, .long x6)]) dX4_bitsOf_145 (by decide) rfl ?_
  refine Y_lload (pc := 147) (j := 0) dX4_bitsOf_147 rfl ?_
  refine Y_ldc2 (pc := 149) dX4_bitsOf_149 w7_46 ?_
  refine Y_lcmp (pc := 152) dX4_bitsOf_152 ?_
  refine Y_if_ge (pc := 153) (tgt := 161) dX4_bitsOf_153 (by decide) (fun hc1 => ?_) (fun hc1 => ?_)
  · replace h := ifT hc1 h
    refine Y_lload_n (pc := 161) (j := 1) dX4_bitsOf_161 rfl rfl ?_
    refine Y_lload (pc := 162) (j := 3) dX4_bitsOf_162 rfl ?_
    refine Y_bipush (pc := 164) (v := (52 : Int32)) dX4_bitsOf_164 rfl ?_
    refine Y_lshl (pc := 166) dX4_bitsOf_166 ?_
    refine Y_lor (pc := 167) dX4_bitsOf_167 ?_
    refine Y_lload (pc := 168) (j := 0) dX4_bitsOf_168 rfl ?_
    refine Y_ldc2 (pc := 170) dX4_bitsOf_170 w7_47 ?_
    refine Y_land (pc := 173) dX4_bitsOf_173 ?_
    refine Y_lor (pc := 174) dX4_bitsOf_174 ?_
    cases h
    exact Y_lret (pc := 175) rfl dX4_bitsOf_175 hP ⟨rfl, rfl⟩
  · replace h := ifF hc1 h
    refine Y_lload_n (pc := 156) (j := 1) dX4_bitsOf_156 rfl rfl ?_
    refine Y_lload (pc := 157) (j := 0) dX4_bitsOf_157 rfl ?_
    refine Y_lor (pc := 159) dX4_bitsOf_159 ?_
    cases h
    exact Y_lret (pc := 160) rfl dX4_bitsOf_160 hP ⟨rfl, rfl⟩
theorem b_X4_bitsOf_98b {k98 : (UInt64 × Int64 × Int32) → Mem → Option (Int64 × Mem)} {x2 : Int64} {x4 : UInt64} {x6 : Int64} {x8 : Int32} {M z} (hk98 : ∀ (a : (UInt64 × Int64 × Int32)) (M : Mem) (z : Int64 × Mem), Lay M → k98 a M = some z → VV Lay k_X4_bitsOf 98 [(2, .long x2), (4, .double a.1), (6, .long a.2.1), (8, .int a.2.2)] [] M z.2 (Qv (some (.long z.1)) z.2) xF) (hP : Lay M) (h : d_X4_bitsOf_98b k98 x2 x4 x6 x8 M = some z) : VV Lay k_X4_bitsOf 98 [(2, .long x2), (4, .double x4), (6, .long x6), (8, .int x8)] [] M z.2 (Qv (some (.long z.1)) z.2) xF := by
  unfold d_X4_bitsOf_98b at h
  refine Y_iload (pc := 98) (j := 3) dX4_bitsOf_98 rfl ?_
  refine Y_sipush (pc := 100) (v := (2000 : Int32)) dX4_bitsOf_100 rfl ?_
  refine Y_icmp_ge (pc := 103) (tgt := 142) dX4_bitsOf_103 (by decide) (fun hc1 => ?_) (fun hc1 => ?_)
  · replace h := ifT hc1 h
    refine VV.sub [0, 1, 2] rfl ?_
    exact b_X4_bitsOf_142  hP h
  · replace h := ifF hc1 h
    refine Y_dload (pc := 106) (j := 1) dX4_bitsOf_106 rfl ?_
    refine Y_ldc2d (pc := 108) (by decide) dX4_bitsOf_108 w7_45 ?_
    refine Y_dcmp (pc := 111) dX4_bitsOf_111 ?_
    refine Y_if_ge (pc := 112) (tgt := 142) dX4_bitsOf_112 (by decide) (fun hc2 => ?_) (fun hc2 => ?_)
    · replace h := ifT hc2 h
      refine VV.sub [0, 1, 2] rfl ?_
      exact b_X4_bitsOf_142  hP h
    · replace h := ifF hc2 h
      refine Y_lload (pc := 115) (j := 2) dX4_bitsOf_115 rfl ?_
      refine Y_lconst (pc := 117) (v := (1 : Int64)) dX4_bitsOf_117 rfl ?_
      refine Y_lcmp (pc := 118) dX4_bitsOf_118 ?_
      refine Y_if_le (pc := 119) (tgt := 142) dX4_bitsOf_119 (by decide) (fun hc3 => ?_) (fun hc3 => ?_)
      · replace h := ifT hc3 h
        refine VV.sub [0, 1, 2] rfl ?_
        exact b_X4_bitsOf_142  hP h
      · replace h := ifF hc3 h
        refine Y_dload (pc := 122) (j := 1) dX4_bitsOf_122 rfl ?_
        refine Y_ldc2d (pc := 124) (by decide) dX4_bitsOf_124 w6_47 ?_
        refine Y_dmul (pc := 127) dX4_bitsOf_127 ?_
        obtain ⟨b1, eb1, h⟩ := bndE h
        refine VV.topD eb1 ?_
        refine Y_dstore (pc := 128) (lv1 := [(4, .double b1), (2, .long x2), (6, .long x6), (8, .int x8)]) dX4_bitsOf_128 (by decide) rfl ?_
        refine Y_lload (pc := 130) (j := 2) dX4_bitsOf_130 rfl ?_
        refine Y_lconst (pc := 132) (v := (1 : Int64)) dX4_bitsOf_132 rfl ?_
        refine Y_lsub (pc := 133) dX4_bitsOf_133 ?_
        obtain ⟨b2, eb2, h⟩ := bndE h
        refine VV.topL eb2 ?_
        refine Y_lstore (pc := 134) (lv1 := [(6, .long b2), (4, .double b1), (2, .long x2), (8, .int x8)]) dX4_bitsOf_134 (by decide) rfl ?_
        obtain ⟨b3, eb3, h⟩ := bndE h
        refine Y_iinc (pc := 136) (j := 3) (v := b3) (lv1 := [(8, .int b3), (6, .long b2), (4, .double b1), (2, .long x2)]) dX4_bitsOf_136 rfl eb3.symm (by decide) rfl ?_
        refine Y_goto (pc := 139) (tgt := 98) dX4_bitsOf_139 (by decide) ?_
        refine VV.sub [3, 2, 1, 0] rfl ?_
        exact hk98 _ _ _ hP h
theorem b_X4_bitsOf_98 {x2 : Int64} (n : Nat) : ∀ (a : (UInt64 × Int64 × Int32)) (M : Mem) (z : Int64 × Mem), d_X4_bitsOf_98 x2 n a M = some z → Lay M → VV Lay k_X4_bitsOf 98 [(2, .long x2), (4, .double a.1), (6, .long a.2.1), (8, .int a.2.2)] [] M z.2 (Qv (some (.long z.1)) z.2) xF :=
  lp_ind (G := fun (a : (UInt64 × Int64 × Int32)) (M : Mem) (z : Int64 × Mem) => Lay M → VV Lay k_X4_bitsOf 98 [(2, .long x2), (4, .double a.1), (6, .long a.2.1), (8, .int a.2.2)] [] M z.2 (Qv (some (.long z.1)) z.2) xF) (fun k hk a M z h hP => b_X4_bitsOf_98b  (fun a M z hP h => hk a M z h hP) hP h) n
theorem b_X4_bitsOf_95 {x2 : Int64} {x4 : UInt64} {x6 : Int64} {M z} (hP : Lay M) (h : d_X4_bitsOf_95 x2 x4 x6 M = some z) : VV Lay k_X4_bitsOf 95 [(2, .long x2), (4, .double x4), (6, .long x6)] [] M z.2 (Qv (some (.long z.1)) z.2) xF := by
  unfold d_X4_bitsOf_95 at h
  refine Y_iconst (pc := 95) (v := (0 : Int32)) dX4_bitsOf_95 rfl ?_
  refine Y_istore (pc := 96) (lv1 := [(8, .int (0 : Int32)), (2, .long x2), (4, .double x4), (6, .long x6)]) dX4_bitsOf_96 (by decide) rfl ?_
  refine VV.sub [1, 2, 3, 0] rfl ?_
  exact b_X4_bitsOf_98  fuel _ _ _ h hP
theorem b_X4_bitsOf_58b {k58 : (UInt64 × Int64 × Int32) → Mem → Option (Int64 × Mem)} {x2 : Int64} {x4 : UInt64} {x6 : Int64} {x8 : Int32} {M z} (hk58 : ∀ (a : (UInt64 × Int64 × Int32)) (M : Mem) (z : Int64 × Mem), Lay M → k58 a M = some z → VV Lay k_X4_bitsOf 58 [(2, .long x2), (4, .double a.1), (6, .long a.2.1), (8, .int a.2.2)] [] M z.2 (Qv (some (.long z.1)) z.2) xF) (hP : Lay M) (h : d_X4_bitsOf_58b k58 x2 x4 x6 x8 M = some z) : VV Lay k_X4_bitsOf 58 [(2, .long x2), (4, .double x4), (6, .long x6), (8, .int x8)] [] M z.2 (Qv (some (.long z.1)) z.2) xF := by
  unfold d_X4_bitsOf_58b at h
  refine Y_iload (pc := 58) (j := 3) dX4_bitsOf_58 rfl ?_
  refine Y_sipush (pc := 60) (v := (2000 : Int32)) dX4_bitsOf_60 rfl ?_
  refine Y_icmp_ge (pc := 63) (tgt := 95) dX4_bitsOf_63 (by decide) (fun hc1 => ?_) (fun hc1 => ?_)
  · replace h := ifT hc1 h
    refine VV.sub [0, 1, 2] rfl ?_
    exact b_X4_bitsOf_95  hP h
  · replace h := ifF hc1 h
    refine Y_dload (pc := 66) (j := 1) dX4_bitsOf_66 rfl ?_
    refine Y_ldc2d (pc := 68) (by decide) dX4_bitsOf_68 w7_44 ?_
    refine Y_dcmp (pc := 71) dX4_bitsOf_71 ?_
    refine Y_if_lt (pc := 72) (tgt := 95) dX4_bitsOf_72 (by decide) (fun hc2 => ?_) (fun hc2 => ?_)
    · replace h := ifT hc2 h
      refine VV.sub [0, 1, 2] rfl ?_
      exact b_X4_bitsOf_95  hP h
    · replace h := ifF hc2 h
      refine Y_dload (pc := 75) (j := 1) dX4_bitsOf_75 rfl ?_
      refine Y_ldc2d (pc := 77) (by decide) dX4_bitsOf_77 w6_47 ?_
      refine Y_ddiv (pc := 80) dX4_bitsOf_80 ?_
      obtain ⟨b1, eb1, h⟩ := bndE h
      refine VV.topD eb1 ?_
      refine Y_dstore (pc := 81) (lv1 := [(4, .double b1), (2, .long x2), (6, .long x6), (8, .int x8)]) dX4_bitsOf_81 (by decide) rfl ?_
      refine Y_lload (pc := 83) (j := 2) dX4_bitsOf_83 rfl ?_
      refine Y_lconst (pc := 85) (v := (1 : Int64)) dX4_bitsOf_85 rfl ?_
      refine Y_ladd (pc := 86) dX4_bitsOf_86 ?_
      obtain ⟨b2, eb2, h⟩ := bndE h
      refine VV.topL eb2 ?_
      refine Y_lstore (pc := 87) (lv1 := [(6, .long b2), (4, .double b1), (2, .long x2), (8, .int x8)]) dX4_bitsOf_87 (by decide) rfl ?_
      obtain ⟨b3, eb3, h⟩ := bndE h
      refine Y_iinc (pc := 89) (j := 3) (v := b3) (lv1 := [(8, .int b3), (6, .long b2), (4, .double b1), (2, .long x2)]) dX4_bitsOf_89 rfl eb3.symm (by decide) rfl ?_
      refine Y_goto (pc := 92) (tgt := 58) dX4_bitsOf_92 (by decide) ?_
      refine VV.sub [3, 2, 1, 0] rfl ?_
      exact hk58 _ _ _ hP h
theorem b_X4_bitsOf_58 {x2 : Int64} (n : Nat) : ∀ (a : (UInt64 × Int64 × Int32)) (M : Mem) (z : Int64 × Mem), d_X4_bitsOf_58 x2 n a M = some z → Lay M → VV Lay k_X4_bitsOf 58 [(2, .long x2), (4, .double a.1), (6, .long a.2.1), (8, .int a.2.2)] [] M z.2 (Qv (some (.long z.1)) z.2) xF :=
  lp_ind (G := fun (a : (UInt64 × Int64 × Int32)) (M : Mem) (z : Int64 × Mem) => Lay M → VV Lay k_X4_bitsOf 58 [(2, .long x2), (4, .double a.1), (6, .long a.2.1), (8, .int a.2.2)] [] M z.2 (Qv (some (.long z.1)) z.2) xF) (fun k hk a M z h hP => b_X4_bitsOf_58b  (fun a M z hP h => hk a M z h hP) hP h) n
theorem b_X4_bitsOf_48 {x2 : Int64} {s0 : UInt64} {M z} (hP : Lay M) (h : d_X4_bitsOf_48 x2 s0 M = some z) : VV Lay k_X4_bitsOf 48 [(2, .long x2)] [.double s0] M z.2 (Qv (some (.long z.1)) z.2) xF := by
  unfold d_X4_bitsOf_48 at h
  refine Y_dstore (pc := 48) (lv1 := [(4, .double s0), (2, .long x2)]) dX4_bitsOf_48 (by decide) rfl ?_
  refine Y_ldc2 (pc := 50) dX4_bitsOf_50 w7_43 ?_
  obtain ⟨b1, eb1, h⟩ := bndE h
  refine VV.topL eb1 ?_
  refine Y_lstore (pc := 53) (lv1 := [(6, .long b1), (4, .double s0), (2, .long x2)]) dX4_bitsOf_53 (by decide) rfl ?_
  refine Y_iconst (pc := 55) (v := (0 : Int32)) dX4_bitsOf_55 rfl ?_
  refine Y_istore (pc := 56) (lv1 := [(8, .int (0 : Int32)), (6, .long b1), (4, .double s0), (2, .long x2)]) dX4_bitsOf_56 (by decide) rfl ?_
  refine VV.sub [3, 2, 1, 0] rfl ?_
  exact b_X4_bitsOf_58  fuel _ _ _ h hP
theorem b_X4_bitsOf_14 {x0 : UInt64} {s0 : Int64} {M z} (hP : Lay M) (h : d_X4_bitsOf_14 x0 s0 M = some z) : VV Lay k_X4_bitsOf 14 [(0, .double x0)] [.long s0] M z.2 (Qv (some (.long z.1)) z.2) xF := by
  unfold d_X4_bitsOf_14 at h
  refine Y_lstore_n (pc := 14) (lv1 := [(2, .long s0), (0, .double x0)]) dX4_bitsOf_14 rfl (by decide) rfl ?_
  refine Y_dload_n (pc := 15) (j := 1) dX4_bitsOf_15 rfl rfl ?_
  refine Y_dconst0 (pc := 16) dX4_bitsOf_16 ?_
  refine Y_dcmp (pc := 17) dX4_bitsOf_17 ?_
  refine Y_if_ne (pc := 18) (tgt := 23) dX4_bitsOf_18 (by decide) (fun hc1 => ?_) (fun hc1 => ?_)
  · replace h := ifF hc1 h
    refine Y_dload_n (pc := 23) (j := 1) dX4_bitsOf_23 rfl rfl ?_
    obtain ⟨y1, qy1, h⟩ := bindE h
    have cy1 := v_X4_isEndless hP qy1
    refine C_S1r (pc := 24) (k' := k_X4_isEndless) dX4_bitsOf_24 w6_36 i_X4_isEndless (Nat.le_of_ble_eq_true rfl) (Nat.le_of_ble_eq_true rfl) (Nat.le_of_ble_eq_true rfl) (cy1) ?_
    have hPy1 := cy1.1.1
    refine Y_if_eq (pc := 27) (tgt := 36) dX4_bitsOf_27 (by decide) (fun hc2 => ?_) (fun hc2 => ?_)
    · replace h := ifT hc2 h
      refine Y_dload_n (pc := 36) (j := 1) dX4_bitsOf_36 rfl rfl ?_
      refine Y_dconst0 (pc := 37) dX4_bitsOf_37 ?_
      refine Y_dcmp (pc := 38) dX4_bitsOf_38 ?_
      refine Y_if_ge (pc := 39) (tgt := 47) dX4_bitsOf_39 (by decide) (fun hc3 => ?_) (fun hc3 => ?_)
      · replace h := ifT hc3 h
        refine Y_dload_n (pc := 47) (j := 1) dX4_bitsOf_47 rfl rfl ?_
        refine VV.sub [0] rfl ?_
        exact b_X4_bitsOf_48  hPy1 h
      · replace h := ifF hc3 h
        refine Y_dload_n (pc := 42) (j := 1) dX4_bitsOf_42 rfl rfl ?_
        refine Y_dneg (pc := 43) dX4_bitsOf_43 ?_
        refine Y_goto (pc := 44) (tgt := 48) dX4_bitsOf_44 (by decide) ?_
        refine VV.sub [0] rfl ?_
        exact b_X4_bitsOf_48  hPy1 h
    · replace h := ifF hc2 h
      refine Y_lload_n (pc := 30) (j := 0) dX4_bitsOf_30 rfl rfl ?_
      refine Y_ldc2 (pc := 31) dX4_bitsOf_31 w7_42 ?_
      refine Y_lor (pc := 34) dX4_bitsOf_34 ?_
      cases h
      exact Y_lret (pc := 35) rfl dX4_bitsOf_35 hPy1 ⟨rfl, rfl⟩
  · replace h := ifT hc1 h
    refine Y_lload_n (pc := 21) (j := 0) dX4_bitsOf_21 rfl rfl ?_
    cases h
    exact Y_lret (pc := 22) rfl dX4_bitsOf_22 hP ⟨rfl, rfl⟩
theorem b_X4_bitsOf {x0 : UInt64} {M z} (hP : Lay M) (h : d_X4_bitsOf x0 M = some z) : VV Lay k_X4_bitsOf 0 [(0, .double x0)] [] M z.2 (Qv (some (.long z.1)) z.2) xF := by
  unfold d_X4_bitsOf at h
  refine Y_dload_n (pc := 0) (j := 0) dX4_bitsOf_0 rfl rfl ?_
  obtain ⟨y1, qy1, h⟩ := bindE h
  have cy1 := v_X4_isNegative hP qy1
  refine C_S1r (pc := 1) (k' := k_X4_isNegative) dX4_bitsOf_1 w7_40 i_X4_isNegative (Nat.le_of_ble_eq_true rfl) (Nat.le_of_ble_eq_true rfl) (Nat.le_of_ble_eq_true rfl) (cy1) ?_
  have hPy1 := cy1.1.1
  refine Y_if_eq (pc := 4) (tgt := 13) dX4_bitsOf_4 (by decide) (fun hc1 => ?_) (fun hc1 => ?_)
  · replace h := ifT hc1 h
    refine Y_lconst (pc := 13) (v := (0 : Int64)) dX4_bitsOf_13 rfl ?_
    refine VV.sub [0] rfl ?_
    exact b_X4_bitsOf_14  hPy1 h
  · replace h := ifF hc1 h
    refine Y_ldc2 (pc := 7) dX4_bitsOf_7 w7_41 ?_
    refine Y_goto (pc := 10) (tgt := 14) dX4_bitsOf_10 (by decide) ?_
    refine VV.sub [0] rfl ?_
    exact b_X4_bitsOf_14  hPy1 h
theorem v_X4_bitsOf {x0 : UInt64} {M z} (hP : Lay M) (h : d_X4_bitsOf x0 M = some z) : CC Lay k_X4_bitsOf [.double x0] M z.2 (Qv (some (.long z.1)) z.2) xF :=
  CC.ofVV (by decide) rfl (Nat.le_of_ble_eq_true rfl) (b_X4_bitsOf hP h)
set_option maxRecDepth 20000 in
theorem b_X5_init {M0 : Mem} {r0 : Nat} {M z} (hP : (Kx r0 M0) M) (h : d_X5_init r0 M = some z) : VV (Kx r0 M0) k_X5_init 0 [(0, .ref r0)] [] M z.2 (Qv (none) z.2) xF := by
  unfold d_X5_init at h
  refine Y_aload_n (pc := 0) (j := 0) dX5_init_0 rfl rfl ?_
  refine Y_oinit (pc := 1) dX5_init_1 w1_48 (Nat.le_of_ble_eq_true rfl) (Nat.le_of_ble_eq_true rfl) (Nat.le_of_ble_eq_true rfl) ?_
  refine Y_aload_n (pc := 4) (j := 0) dX5_init_4 rfl rfl ?_
  refine Y_bipush (pc := 5) (v := (8 : Int32)) dX5_init_5 rfl ?_
  obtain ⟨r_1, er_1, h⟩ := bndE h
  obtain ⟨hb1, h⟩ := okE h
  refine Y_newa (pc := 7) (a := r_1) (t := 21) (N := 8) dX5_init_7 (by decide) (by decide) rfl w1_100 (hP.free er_1) hb1 (by decide) rfl (by decide) ?_
  obtain ⟨M1, eM1, h⟩ := bndE h
  refine VV.mem eM1 ?_
  have hP1 := hP.wN er_1 (by decide) eM1
  obtain ⟨hb2, h⟩ := okE h
  refine Z_putr (pc := 9) dX5_init_9 w1_52 hb2 fr_5_0 (Or.inr ⟨rfl, rfl⟩) (Or.inr ⟨_, rfl⟩) ?_
  obtain ⟨M2, eM2, h⟩ := bndE h
  refine VV.mem eM2 ?_
  have hP2 := hP1.wR0 (by omega) eM2
  refine Y_aload_n (pc := 12) (j := 0) dX5_init_12 rfl rfl ?_
  refine Y_bipush (pc := 13) (v := (8 : Int32)) dX5_init_13 rfl ?_
  obtain ⟨r_2, er_2, h⟩ := bndE h
  obtain ⟨hb3, h⟩ := okE h
  refine Y_newa (pc := 15) (a := r_2) (t := 21) (N := 8) dX5_init_15 (by decide) (by decide) rfl w1_100 (hP2.free er_2) hb3 (by decide) rfl (by decide) ?_
  obtain ⟨M3, eM3, h⟩ := bndE h
  refine VV.mem eM3 ?_
  have hP3 := hP2.wN er_2 (by decide) eM3
  obtain ⟨hb4, h⟩ := okE h
  refine Z_putr (pc := 17) dX5_init_17 w1_56 hb4 fr_5_1 (Or.inr ⟨rfl, rfl⟩) (Or.inr ⟨_, rfl⟩) ?_
  obtain ⟨M4, eM4, h⟩ := bndE h
  refine VV.mem eM4 ?_
  have hP4 := hP3.wR0 (by omega) eM4
  refine Y_aload_n (pc := 20) (j := 0) dX5_init_20 rfl rfl ?_
  refine Y_bipush (pc := 21) (v := (8 : Int32)) dX5_init_21 rfl ?_
  obtain ⟨r_3, er_3, h⟩ := bndE h
  obtain ⟨hb5, h⟩ := okE h
  refine Y_newa (pc := 23) (a := r_3) (t := 21) (N := 8) dX5_init_23 (by decide) (by decide) rfl w1_100 (hP4.free er_3) hb5 (by decide) rfl (by decide) ?_
  obtain ⟨M5, eM5, h⟩ := bndE h
  refine VV.mem eM5 ?_
  have hP5 := hP4.wN er_3 (by decide) eM5
  obtain ⟨hb6, h⟩ := okE h
  refine Z_putr (pc := 25) dX5_init_25 w1_58 hb6 fr_5_2 (Or.inr ⟨rfl, rfl⟩) (Or.inr ⟨_, rfl⟩) ?_
  obtain ⟨M6, eM6, h⟩ := bndE h
  refine VV.mem eM6 ?_
  have hP6 := hP5.wR0 (by omega) eM6
  refine Y_aload_n (pc := 28) (j := 0) dX5_init_28 rfl rfl ?_
  refine Y_sipush (pc := 29) (v := (320 : Int32)) dX5_init_29 rfl ?_
  obtain ⟨r_4, er_4, h⟩ := bndE h
  obtain ⟨hb7, h⟩ := okE h
  refine Y_newa (pc := 32) (a := r_4) (t := 22) (N := 320) dX5_init_32 (by decide) (by decide) rfl w1_101 (hP6.free er_4) hb7 (by decide) rfl (by decide) ?_
  obtain ⟨M7, eM7, h⟩ := bndE h
  refine VV.mem eM7 ?_
  have hP7 := hP6.wN er_4 (by decide) eM7
  obtain ⟨hb8, h⟩ := okE h
  refine Z_putr (pc := 34) dX5_init_34 w1_61 hb8 fr_5_3 (Or.inr ⟨rfl, rfl⟩) (Or.inr ⟨_, rfl⟩) ?_
  obtain ⟨M8, eM8, h⟩ := bndE h
  refine VV.mem eM8 ?_
  have hP8 := hP7.wR0 (by omega) eM8
  refine Y_aload_n (pc := 37) (j := 0) dX5_init_37 rfl rfl ?_
  refine Y_sipush (pc := 38) (v := (320 : Int32)) dX5_init_38 rfl ?_
  obtain ⟨r_5, er_5, h⟩ := bndE h
  obtain ⟨hb9, h⟩ := okE h
  refine Y_newa (pc := 41) (a := r_5) (t := 21) (N := 320) dX5_init_41 (by decide) (by decide) rfl w1_100 (hP8.free er_5) hb9 (by decide) rfl (by decide) ?_
  obtain ⟨M9, eM9, h⟩ := bndE h
  refine VV.mem eM9 ?_
  have hP9 := hP8.wN er_5 (by decide) eM9
  obtain ⟨hb10, h⟩ := okE h
  refine Z_putr (pc := 43) dX5_init_43 w1_66 hb10 fr_5_4 (Or.inr ⟨rfl, rfl⟩) (Or.inr ⟨_, rfl⟩) ?_
  obtain ⟨M10, eM10, h⟩ := bndE h
  refine VV.mem eM10 ?_
  have hP10 := hP9.wR0 (by omega) eM10
  refine Y_aload_n (pc := 46) (j := 0) dX5_init_46 rfl rfl ?_
  refine Y_bipush (pc := 47) (v := (8 : Int32)) dX5_init_47 rfl ?_
  obtain ⟨r_6, er_6, h⟩ := bndE h
  obtain ⟨hb11, h⟩ := okE h
  refine Y_newa (pc := 49) (a := r_6) (t := 21) (N := 8) dX5_init_49 (by decide) (by decide) rfl w1_100 (hP10.free er_6) hb11 (by decide) rfl (by decide) ?_
  obtain ⟨M11, eM11, h⟩ := bndE h
  refine VV.mem eM11 ?_
  have hP11 := hP10.wN er_6 (by decide) eM11
  obtain ⟨hb12, h⟩ := okE h
  refine Z_putr (pc := 51) dX5_init_51 w1_69 hb12 fr_5_5 (Or.inr ⟨rfl, rfl⟩) (Or.inr ⟨_, rfl⟩) ?_
  obtain ⟨M12, eM12, h⟩ := bndE h
  refine VV.mem eM12 ?_
  have hP12 := hP11.wR0 (by omega) eM12
  refine Y_aload_n (pc := 54) (j := 0) dX5_init_54 rfl rfl ?_
  refine Y_iconst (pc := 55) (v := (5 : Int32)) dX5_init_55 rfl ?_
  obtain ⟨r_7, er_7, h⟩ := bndE h
  obtain ⟨hb13, h⟩ := okE h
  refine Y_newa (pc := 56) (a := r_7) (t := 21) (N := 5) dX5_init_56 (by decide) (by decide) rfl w1_100 (hP12.free er_7) hb13 (by decide) rfl (by decide) ?_
  obtain ⟨M13, eM13, h⟩ := bndE h
  refine VV.mem eM13 ?_
  have hP13 := hP12.wN er_7 (by decide) eM13
  obtain ⟨hb14, h⟩ := okE h
  refine Z_putr (pc := 58) dX5_init_58 w1_72 hb14 fr_5_6 (Or.inr ⟨rfl, rfl⟩) (Or.inr ⟨_, rfl⟩) ?_
  obtain ⟨M14, eM14, h⟩ := bndE h
  refine VV.mem eM14 ?_
  have hP14 := hP13.wR0 (by omega) eM14
  refine Y_aload_n (pc := 61) (j := 0) dX5_init_61 rfl rfl ?_
  refine Y_bipush (pc := 62) (v := (30 : Int32)) dX5_init_62 rfl ?_
  obtain ⟨r_8, er_8, h⟩ := bndE h
  obtain ⟨hb15, h⟩ := okE h
  refine Y_newa (pc := 64) (a := r_8) (t := 21) (N := 30) dX5_init_64 (by decide) (by decide) rfl w1_100 (hP14.free er_8) hb15 (by decide) rfl (by decide) ?_
  obtain ⟨M15, eM15, h⟩ := bndE h
  refine VV.mem eM15 ?_
  have hP15 := hP14.wN er_8 (by decide) eM15
  obtain ⟨hb16, h⟩ := okE h
  refine Z_putr (pc := 66) dX5_init_66 w1_73 hb16 fr_5_7 (Or.inr ⟨rfl, rfl⟩) (Or.inr ⟨_, rfl⟩) ?_
  obtain ⟨M16, eM16, h⟩ := bndE h
  refine VV.mem eM16 ?_
  have hP16 := hP15.wR0 (by omega) eM16
  refine Y_aload_n (pc := 69) (j := 0) dX5_init_69 rfl rfl ?_
  obtain ⟨hb17, h⟩ := okE h
  obtain ⟨r_9, er_9, h⟩ := bindE h
  refine Z_getr (pc := 70) dX5_init_70 w1_58 hb17 fr_5_2 er_9 ?_
  refine Y_iconst (pc := 73) (v := (-1 : Int32)) dX5_init_73 rfl ?_
  obtain ⟨y1, qy1, h⟩ := bindE h
  have cy1 := v_J7_fill_53178 hP16.fsh qy1
  refine C_S2o (pc := 74) (k' := k_J7_fill_53178) dX5_init_74 w1_49 i_J7_fill_53178 (Nat.le_of_ble_eq_true rfl) (Nat.le_of_ble_eq_true rfl) (Nat.le_of_ble_eq_true rfl) (cy1) ?_
  have hPy1 := hP16.jdk cy1.1.1
  refine Y_aload_n (pc := 77) (j := 0) dX5_init_77 rfl rfl ?_
  obtain ⟨hb18, h⟩ := okE h
  obtain ⟨r_10, er_10, h⟩ := bindE h
  refine Z_getr (pc := 78) dX5_init_78 w1_73 hb18 fr_5_7 er_10 ?_
  refine Y_iconst (pc := 81) (v := (-1 : Int32)) dX5_init_81 rfl ?_
  obtain ⟨y2, qy2, h⟩ := bindE h
  have cy2 := v_J7_fill_53178 hPy1.fsh qy2
  refine C_S2o (pc := 82) (k' := k_J7_fill_53178) dX5_init_82 w1_49 i_J7_fill_53178 (Nat.le_of_ble_eq_true rfl) (Nat.le_of_ble_eq_true rfl) (Nat.le_of_ble_eq_true rfl) (cy2) ?_
  have hPy2 := hPy1.jdk cy2.1.1
  cases h
  exact Y_vret (pc := 85) rfl dX5_init_85 hPy2 ⟨rfl, rfl⟩
theorem v_X5_init {r0 : Nat} {M z} (hP : Fsh M) (hr : r0 ≤ nx M) (h : d_X5_init r0 M = some z) : CC (Kx r0 M) k_X5_init [.ref r0] M z.2 (Qv (none) z.2) xF :=
  CC.ofVV (by decide) rfl (Nat.le_of_ble_eq_true rfl) (b_X5_init (Kx.refl hP hr) h)
theorem b_X5_hasFunction {x1 : Int32} {M z} (hP : Lay M) (h : d_X5_hasFunction x1 M = some z) : VV Lay k_X5_hasFunction 0 [(0, .ref 2), (1, .int x1)] [] M z.2 (Qv (some (.int z.1)) z.2) xF := by
  unfold d_X5_hasFunction at h
  refine Y_iload_n (pc := 0) (j := 1) dX5_hasFunction_0 rfl rfl ?_
  refine Y_if_lt (pc := 1) (tgt := 16) dX5_hasFunction_1 (by decide) (fun hc1 => ?_) (fun hc1 => ?_)
  · replace h := ifT hc1 h
    refine Y_iconst (pc := 16) (v := (0 : Int32)) dX5_hasFunction_16 rfl ?_
    cases h
    exact Y_iret (pc := 17) rfl (nar_bo (by decide)) dX5_hasFunction_17 hP ⟨rfl, rfl⟩
  · replace h := ifF hc1 h
    refine Y_iload_n (pc := 4) (j := 1) dX5_hasFunction_4 rfl rfl ?_
    refine Y_aload_n (pc := 5) (j := 0) dX5_hasFunction_5 rfl rfl ?_
    refine Z_geti (pc := 6) dX5_hasFunction_6 w1_75 (lk_2 hP) fi_5_8 ?_
    refine Y_icmp_ge (pc := 9) (tgt := 16) dX5_hasFunction_9 (by decide) (fun hc2 => ?_) (fun hc2 => ?_)
    · replace h := ifT hc2 h
      refine Y_iconst (pc := 16) (v := (0 : Int32)) dX5_hasFunction_16 rfl ?_
      cases h
      exact Y_iret (pc := 17) rfl (nar_bo (by decide)) dX5_hasFunction_17 hP ⟨rfl, rfl⟩
    · replace h := ifF hc2 h
      refine Y_iconst (pc := 12) (v := (1 : Int32)) dX5_hasFunction_12 rfl ?_
      refine Y_goto (pc := 13) (tgt := 17) dX5_hasFunction_13 (by decide) ?_
      cases h
      exact Y_iret (pc := 17) rfl (nar_bo (by decide)) dX5_hasFunction_17 hP ⟨rfl, rfl⟩
theorem v_X5_hasFunction {x1 : Int32} {M z} (hP : Lay M) (h : d_X5_hasFunction x1 M = some z) : CC Lay k_X5_hasFunction [.ref 2, .int x1] M z.2 (Qv (some (.int z.1)) z.2) xF :=
  CC.ofVV (by decide) rfl (Nat.le_of_ble_eq_true rfl) (b_X5_hasFunction hP h)
theorem b_X5_hasClass {x1 : Int32} {M z} (hP : Lay M) (h : d_X5_hasClass x1 M = some z) : VV Lay k_X5_hasClass 0 [(0, .ref 2), (1, .int x1)] [] M z.2 (Qv (some (.int z.1)) z.2) xF := by
  unfold d_X5_hasClass at h
  refine Y_iload_n (pc := 0) (j := 1) dX5_hasClass_0 rfl rfl ?_
  refine Y_if_lt (pc := 1) (tgt := 16) dX5_hasClass_1 (by decide) (fun hc1 => ?_) (fun hc1 => ?_)
  · replace h := ifT hc1 h
    refine Y_iconst (pc := 16) (v := (0 : Int32)) dX5_hasClass_16 rfl ?_
    cases h
    exact Y_iret (pc := 17) rfl (nar_bo (by decide)) dX5_hasClass_17 hP ⟨rfl, rfl⟩
  · replace h := ifF hc1 h
    refine Y_iload_n (pc := 4) (j := 1) dX5_hasClass_4 rfl rfl ?_
    refine Y_aload_n (pc := 5) (j := 0) dX5_hasClass_5 rfl rfl ?_
    refine Z_geti (pc := 6) dX5_hasClass_6 w1_77 (lk_2 hP) fi_5_9 ?_
    refine Y_icmp_ge (pc := 9) (tgt := 16) dX5_hasClass_9 (by decide) (fun hc2 => ?_) (fun hc2 => ?_)
    · replace h := ifT hc2 h
      refine Y_iconst (pc := 16) (v := (0 : Int32)) dX5_hasClass_16 rfl ?_
      cases h
      exact Y_iret (pc := 17) rfl (nar_bo (by decide)) dX5_hasClass_17 hP ⟨rfl, rfl⟩
    · replace h := ifF hc2 h
      refine Y_iconst (pc := 12) (v := (1 : Int32)) dX5_hasClass_12 rfl ?_
      refine Y_goto (pc := 13) (tgt := 17) dX5_hasClass_13 (by decide) ?_
      cases h
      exact Y_iret (pc := 17) rfl (nar_bo (by decide)) dX5_hasClass_17 hP ⟨rfl, rfl⟩
theorem v_X5_hasClass {x1 : Int32} {M z} (hP : Lay M) (h : d_X5_hasClass x1 M = some z) : CC Lay k_X5_hasClass [.ref 2, .int x1] M z.2 (Qv (some (.int z.1)) z.2) xF :=
  CC.ofVV (by decide) rfl (Nat.le_of_ble_eq_true rfl) (b_X5_hasClass hP h)
theorem b_X5_addFunctionWith {x1 : Int32} {M z} (hP : Lay M) (h : d_X5_addFunctionWith x1 M = some z) : VV Lay k_X5_addFunctionWith 0 [(0, .ref 2), (1, .int x1)] [] M z.2 (Qv (some (.int z.1)) z.2) xF := by
  unfold d_X5_addFunctionWith at h
  refine Y_aload_n (pc := 0) (j := 0) dX5_addFunctionWith_0 rfl rfl ?_
  refine Z_getr (pc := 1) dX5_addFunctionWith_1 w1_52 (lk_2 hP) fr_5_0 (lr_2_0 hP) ?_
  refine Y_aload_n (pc := 4) (j := 0) dX5_addFunctionWith_4 rfl rfl ?_
  refine Z_geti (pc := 5) dX5_addFunctionWith_5 w1_75 (lk_2 hP) fi_5_8 ?_
  refine Y_iload_n (pc := 8) (j := 1) dX5_addFunctionWith_8 rfl rfl ?_
  obtain ⟨hb1, h⟩ := okE h
  refine Y_iast (pc := 9) dX5_addFunctionWith_9 (lk_3 hP) (ln_3 hP) hb1 ?_
  obtain ⟨M1, eM1, h⟩ := bndE h
  refine VV.mem eM1 ?_
  have hP1 := hP.wI eM1
  refine Y_aload_n (pc := 10) (j := 0) dX5_addFunctionWith_10 rfl rfl ?_
  refine Y_dup (pc := 11) dX5_addFunctionWith_11 rfl ?_
  refine Z_geti (pc := 12) dX5_addFunctionWith_12 w1_75 (lk_2 hP1) fi_5_8 ?_
  refine Y_iconst (pc := 15) (v := (1 : Int32)) dX5_addFunctionWith_15 rfl ?_
  refine Y_iadd (pc := 16) dX5_addFunctionWith_16 ?_
  refine Z_puti (pc := 17) dX5_addFunctionWith_17 w1_75 (lk_2 hP1) fi_5_8 (Or.inl rfl) rfl ?_
  obtain ⟨M2, eM2, h⟩ := bndE h
  refine VV.mem eM2 ?_
  have hP2 := hP1.wI eM2
  refine Y_aload_n (pc := 20) (j := 0) dX5_addFunctionWith_20 rfl rfl ?_
  refine Z_geti (pc := 21) dX5_addFunctionWith_21 w1_75 (lk_2 hP2) fi_5_8 ?_
  refine Y_iconst (pc := 24) (v := (1 : Int32)) dX5_addFunctionWith_24 rfl ?_
  refine Y_isub (pc := 25) dX5_addFunctionWith_25 ?_
  cases h
  exact Y_iret (pc := 26) rfl rfl dX5_addFunctionWith_26 hP2 ⟨rfl, rfl⟩
theorem v_X5_addFunctionWith {x1 : Int32} {M z} (hP : Lay M) (h : d_X5_addFunctionWith x1 M = some z) : CC Lay k_X5_addFunctionWith [.ref 2, .int x1] M z.2 (Qv (some (.int z.1)) z.2) xF :=
  CC.ofVV (by decide) rfl (Nat.le_of_ble_eq_true rfl) (b_X5_addFunctionWith hP h)
theorem b_X5_addClassBelow {x1 : Int32} {M z} (hP : Lay M) (h : d_X5_addClassBelow x1 M = some z) : VV Lay k_X5_addClassBelow 0 [(0, .ref 2), (1, .int x1)] [] M z.2 (Qv (some (.int z.1)) z.2) xF := by
  unfold d_X5_addClassBelow at h
  refine Y_aload_n (pc := 0) (j := 0) dX5_addClassBelow_0 rfl rfl ?_
  refine Z_getr (pc := 1) dX5_addClassBelow_1 w1_72 (lk_2 hP) fr_5_6 (lr_2_6 hP) ?_
  refine Y_aload_n (pc := 4) (j := 0) dX5_addClassBelow_4 rfl rfl ?_
  refine Z_geti (pc := 5) dX5_addClassBelow_5 w1_77 (lk_2 hP) fi_5_9 ?_
  refine Y_iload_n (pc := 8) (j := 1) dX5_addClassBelow_8 rfl rfl ?_
  obtain ⟨hb1, h⟩ := okE h
  refine Y_iast (pc := 9) dX5_addClassBelow_9 (lk_9 hP) (ln_9 hP) hb1 ?_
  obtain ⟨M1, eM1, h⟩ := bndE h
  refine VV.mem eM1 ?_
  have hP1 := hP.wI eM1
  refine Y_aload_n (pc := 10) (j := 0) dX5_addClassBelow_10 rfl rfl ?_
  refine Y_dup (pc := 11) dX5_addClassBelow_11 rfl ?_
  refine Z_geti (pc := 12) dX5_addClassBelow_12 w1_77 (lk_2 hP1) fi_5_9 ?_
  refine Y_iconst (pc := 15) (v := (1 : Int32)) dX5_addClassBelow_15 rfl ?_
  refine Y_iadd (pc := 16) dX5_addClassBelow_16 ?_
  refine Z_puti (pc := 17) dX5_addClassBelow_17 w1_77 (lk_2 hP1) fi_5_9 (Or.inl rfl) rfl ?_
  obtain ⟨M2, eM2, h⟩ := bndE h
  refine VV.mem eM2 ?_
  have hP2 := hP1.wI eM2
  refine Y_aload_n (pc := 20) (j := 0) dX5_addClassBelow_20 rfl rfl ?_
  refine Z_geti (pc := 21) dX5_addClassBelow_21 w1_77 (lk_2 hP2) fi_5_9 ?_
  refine Y_iconst (pc := 24) (v := (1 : Int32)) dX5_addClassBelow_24 rfl ?_
  refine Y_isub (pc := 25) dX5_addClassBelow_25 ?_
  cases h
  exact Y_iret (pc := 26) rfl rfl dX5_addClassBelow_26 hP2 ⟨rfl, rfl⟩
theorem v_X5_addClassBelow {x1 : Int32} {M z} (hP : Lay M) (h : d_X5_addClassBelow x1 M = some z) : CC Lay k_X5_addClassBelow [.ref 2, .int x1] M z.2 (Qv (some (.int z.1)) z.2) xF :=
  CC.ofVV (by decide) rfl (Nat.le_of_ble_eq_true rfl) (b_X5_addClassBelow hP h)
theorem b_X5_append {x1 : Int32} {x2 : Int32} {x3 : Int32} {M z} (hP : Lay M) (h : d_X5_append x1 x2 x3 M = some z) : VV Lay k_X5_append 0 [(0, .ref 2), (1, .int x1), (2, .int x2), (3, .int x3)] [] M z.2 (Qv (some (.int z.1)) z.2) xF := by
  unfold d_X5_append at h
  refine Y_iload_n (pc := 0) (j := 1) dX5_append_0 rfl rfl ?_
  refine Y_aload_n (pc := 1) (j := 0) dX5_append_1 rfl rfl ?_
  refine Z_getr (pc := 2) dX5_append_2 w1_56 (lk_2 hP) fr_5_1 (lr_2_1 hP) ?_
  refine Y_iload_n (pc := 5) (j := 1) dX5_append_5 rfl rfl ?_
  obtain ⟨hb1, h⟩ := okE h
  refine Y_iald (pc := 6) dX5_append_6 (lk_4 hP) (ln_4 hP) hb1 ?_
  obtain ⟨y1, qy1, h⟩ := bindE h
  have cy1 := v_X11_siteOf hP qy1
  refine C_N2r (pc := 7) (k' := k_X11_siteOf) dX5_append_7 nl_Program_50 i_X11_siteOf (Nat.le_of_ble_eq_true rfl) (Nat.le_of_ble_eq_true rfl) (Nat.le_of_ble_eq_true rfl) (cy1) ?_
  have hPy1 := cy1.1.1
  refine Y_istore (pc := 10) (lv1 := [(4, .int y1.1), (0, .ref 2), (1, .int x1), (2, .int x2), (3, .int x3)]) dX5_append_10 (by decide) rfl ?_
  refine Y_aload_n (pc := 12) (j := 1) dX5_append_12 rfl rfl ?_
  refine Z_getr (pc := 13) dX5_append_13 w1_61 (lk_2 hPy1) fr_5_3 (lr_2_3 hPy1) ?_
  refine Y_iload (pc := 16) (j := 0) dX5_append_16 rfl ?_
  refine Y_iload_n (pc := 18) (j := 3) dX5_append_18 rfl rfl ?_
  obtain ⟨hb2, h⟩ := okE h
  obtain ⟨hb3, h⟩ := okE h
  refine Y_cast (pc := 19) dX5_append_19 (lk_6 hPy1) (ln_6 hPy1) hb2 (nar_ch hb3) ?_
  obtain ⟨M1, eM1, h⟩ := bndE h
  refine VV.mem eM1 ?_
  have hP1 := hPy1.wI eM1
  refine Y_aload_n (pc := 20) (j := 1) dX5_append_20 rfl rfl ?_
  refine Z_getr (pc := 21) dX5_append_21 w1_66 (lk_2 hP1) fr_5_4 (lr_2_4 hP1) ?_
  refine Y_iload (pc := 24) (j := 0) dX5_append_24 rfl ?_
  refine Y_iload_n (pc := 26) (j := 4) dX5_append_26 rfl rfl ?_
  obtain ⟨hb4, h⟩ := okE h
  refine Y_iast (pc := 27) dX5_append_27 (lk_7 hP1) (ln_7 hP1) hb4 ?_
  obtain ⟨M2, eM2, h⟩ := bndE h
  refine VV.mem eM2 ?_
  have hP2 := hP1.wI eM2
  refine Y_aload_n (pc := 28) (j := 1) dX5_append_28 rfl rfl ?_
  refine Z_getr (pc := 29) dX5_append_29 w1_56 (lk_2 hP2) fr_5_1 (lr_2_1 hP2) ?_
  refine Y_iload_n (pc := 32) (j := 2) dX5_append_32 rfl rfl ?_
  refine Y_dup2 (pc := 33) dX5_append_33 rfl rfl ?_
  obtain ⟨hb5, h⟩ := okE h
  refine Y_iald (pc := 34) dX5_append_34 (lk_4 hP2) (ln_4 hP2) hb5 ?_
  refine Y_iconst (pc := 35) (v := (1 : Int32)) dX5_append_35 rfl ?_
  refine Y_iadd (pc := 36) dX5_append_36 ?_
  obtain ⟨hb6, h⟩ := okE h
  refine Y_iast (pc := 37) dX5_append_37 (lk_4 hP2) (ln_4 hP2) hb6 ?_
  obtain ⟨M3, eM3, h⟩ := bndE h
  refine VV.mem eM3 ?_
  have hP3 := hP2.wI eM3
  refine Y_aload_n (pc := 38) (j := 1) dX5_append_38 rfl rfl ?_
  refine Z_getr (pc := 39) dX5_append_39 w1_56 (lk_2 hP3) fr_5_1 (lr_2_1 hP3) ?_
  refine Y_iload_n (pc := 42) (j := 2) dX5_append_42 rfl rfl ?_
  obtain ⟨hb7, h⟩ := okE h
  refine Y_iald (pc := 43) dX5_append_43 (lk_4 hP3) (ln_4 hP3) hb7 ?_
  cases h
  exact Y_iret (pc := 44) rfl rfl dX5_append_44 hP3 ⟨rfl, rfl⟩
theorem v_X5_append {x1 : Int32} {x2 : Int32} {x3 : Int32} {M z} (hP : Lay M) (h : d_X5_append x1 x2 x3 M = some z) : CC Lay k_X5_append [.ref 2, .int x1, .int x2, .int x3] M z.2 (Qv (some (.int z.1)) z.2) xF :=
  CC.ofVV (by decide) rfl (Nat.le_of_ble_eq_true rfl) (b_X5_append hP h)
set_option maxRecDepth 20000 in
theorem b_X5_operandBound {x1 : Int32} {M z} (hP : Lay M) (h : d_X5_operandBound x1 M = some z) : VV Lay k_X5_operandBound 0 [(0, .ref 2), (1, .int x1)] [] M z.2 (Qv (some (.int z.1)) z.2) xF := by
  unfold d_X5_operandBound at h
  refine Y_iload_n (pc := 0) (j := 1) dX5_operandBound_0 rfl rfl ?_
  refine Y_table (pc := 1) dX5_operandBound_1 [(99, 129), (100, 134), (101, 134), (102, 134), (103, 126), (104, 134), (105, 134), (106, 118), (107, 112), (108, 115), (109, 126), (110, 121), (111, 134), (112, 126), (113, 134), (114, 134), (115, 115), (116, 134), (117, 134), (118, 134), (119, 134), (120, 134), (121, 134), (122, 118)] 134 (by decide) (tab_ok (by decide +kernel)) (by decide) ?_ ?_
  · refine xs_cons ?_ <| xs_cons ?_ <| xs_cons ?_ <| xs_cons ?_ <| xs_cons ?_ <| xs_cons ?_ <| xs_cons ?_ <| xs_cons ?_ <| xs_cons ?_ <| xs_cons ?_ <| xs_cons ?_ <| xs_cons ?_ <| xs_cons ?_ <| xs_cons ?_ <| xs_cons ?_ <| xs_cons ?_ <| xs_cons ?_ <| xs_cons ?_ <| xs_cons ?_ <| xs_cons ?_ <| xs_cons ?_ <| xs_cons ?_ <| xs_cons ?_ <| xs_cons ?_ <| xs_nil
    · intro e9
      replace h := ifT (by rw [e9] <;> decide) h
      refine Y_aload_n (pc := 129) (j := 0) dX5_operandBound_129 rfl rfl ?_
      refine Z_geti (pc := 130) dX5_operandBound_130 w1_75 (lk_2 hP) fi_5_8 ?_
      cases h
      exact Y_iret (pc := 133) rfl rfl dX5_operandBound_133 hP ⟨rfl, rfl⟩
    · intro e9
      replace h := ifF (by rw [e9] <;> decide) h
      replace h := ifF (by rw [e9] <;> decide) h
      replace h := ifF (by rw [e9] <;> decide) h
      replace h := ifF (by rw [e9] <;> decide) h
      replace h := ifF (by rw [e9] <;> decide) h
      replace h := ifF (by rw [e9] <;> decide) h
      refine Y_iconst (pc := 134) (v := (1 : Int32)) dX5_operandBound_134 rfl ?_
      cases h
      exact Y_iret (pc := 135) rfl rfl dX5_operandBound_135 hP ⟨rfl, rfl⟩
    · intro e9
      replace h := ifF (by rw [e9] <;> decide) h
      replace h := ifF (by rw [e9] <;> decide) h
      replace h := ifF (by rw [e9] <;> decide) h
      replace h := ifF (by rw [e9] <;> decide) h
      replace h := ifF (by rw [e9] <;> decide) h
      replace h := ifF (by rw [e9] <;> decide) h
      refine Y_iconst (pc := 134) (v := (1 : Int32)) dX5_operandBound_134 rfl ?_
      cases h
      exact Y_iret (pc := 135) rfl rfl dX5_operandBound_135 hP ⟨rfl, rfl⟩
    · intro e9
      replace h := ifF (by rw [e9] <;> decide) h
      replace h := ifF (by rw [e9] <;> decide) h
      replace h := ifF (by rw [e9] <;> decide) h
      replace h := ifF (by rw [e9] <;> decide) h
      replace h := ifF (by rw [e9] <;> decide) h
      replace h := ifF (by rw [e9] <;> decide) h
      refine Y_iconst (pc := 134) (v := (1 : Int32)) dX5_operandBound_134 rfl ?_
      cases h
      exact Y_iret (pc := 135) rfl rfl dX5_operandBound_135 hP ⟨rfl, rfl⟩
    · intro e9
      replace h := ifF (by rw [e9] <;> decide) h
      replace h := ifT (by rw [e9] <;> decide) h
      refine Y_bipush (pc := 126) (v := (6 : Int32)) dX5_operandBound_126 rfl ?_
      cases h
      exact Y_iret (pc := 128) rfl rfl dX5_operandBound_128 hP ⟨rfl, rfl⟩
    · intro e9
      replace h := ifF (by rw [e9] <;> decide) h
      replace h := ifF (by rw [e9] <;> decide) h
      replace h := ifF (by rw [e9] <;> decide) h
      replace h := ifF (by rw [e9] <;> decide) h
      replace h := ifF (by rw [e9] <;> decide) h
      replace h := ifF (by rw [e9] <;> decide) h
      refine Y_iconst (pc := 134) (v := (1 : Int32)) dX5_operandBound_134 rfl ?_
      cases h
      exact Y_iret (pc := 135) rfl rfl dX5_operandBound_135 hP ⟨rfl, rfl⟩
    · intro e9
      replace h := ifF (by rw [e9] <;> decide) h
      replace h := ifF (by rw [e9] <;> decide) h
      replace h := ifF (by rw [e9] <;> decide) h
      replace h := ifF (by rw [e9] <;> decide) h
      replace h := ifF (by rw [e9] <;> decide) h
      replace h := ifF (by rw [e9] <;> decide) h
      refine Y_iconst (pc := 134) (v := (1 : Int32)) dX5_operandBound_134 rfl ?_
      cases h
      exact Y_iret (pc := 135) rfl rfl dX5_operandBound_135 hP ⟨rfl, rfl⟩
    · intro e9
      replace h := ifF (by rw [e9] <;> decide) h
      replace h := ifF (by rw [e9] <;> decide) h
      replace h := ifT (by rw [e9] <;> decide) h
      refine Y_bipush (pc := 118) (v := (40 : Int32)) dX5_operandBound_118 rfl ?_
      cases h
      exact Y_iret (pc := 120) rfl rfl dX5_operandBound_120 hP ⟨rfl, rfl⟩
    · intro e9
      replace h := ifF (by rw [e9] <;> decide) h
      replace h := ifF (by rw [e9] <;> decide) h
      replace h := ifF (by rw [e9] <;> decide) h
      replace h := ifT (by rw [e9] <;> decide) h
      refine Y_bipush (pc := 112) (v := (8 : Int32)) dX5_operandBound_112 rfl ?_
      cases h
      exact Y_iret (pc := 114) rfl rfl dX5_operandBound_114 hP ⟨rfl, rfl⟩
    · intro e9
      replace h := ifF (by rw [e9] <;> decide) h
      replace h := ifF (by rw [e9] <;> decide) h
      replace h := ifF (by rw [e9] <;> decide) h
      replace h := ifF (by rw [e9] <;> decide) h
      replace h := ifT (by rw [e9] <;> decide) h
      refine Y_bipush (pc := 115) (v := (6 : Int32)) dX5_operandBound_115 rfl ?_
      cases h
      exact Y_iret (pc := 117) rfl rfl dX5_operandBound_117 hP ⟨rfl, rfl⟩
    · intro e9
      replace h := ifF (by rw [e9] <;> decide) h
      replace h := ifT (by rw [e9] <;> decide) h
      refine Y_bipush (pc := 126) (v := (6 : Int32)) dX5_operandBound_126 rfl ?_
      cases h
      exact Y_iret (pc := 128) rfl rfl dX5_operandBound_128 hP ⟨rfl, rfl⟩
    · intro e9
      replace h := ifF (by rw [e9] <;> decide) h
      replace h := ifF (by rw [e9] <;> decide) h
      replace h := ifF (by rw [e9] <;> decide) h
      replace h := ifF (by rw [e9] <;> decide) h
      replace h := ifF (by rw [e9] <;> decide) h
      replace h := ifT (by rw [e9] <;> decide) h
      refine Y_aload_n (pc := 121) (j := 0) dX5_operandBound_121 rfl rfl ?_
      refine Z_geti (pc := 122) dX5_operandBound_122 w1_77 (lk_2 hP) fi_5_9 ?_
      cases h
      exact Y_iret (pc := 125) rfl rfl dX5_operandBound_125 hP ⟨rfl, rfl⟩
    · intro e9
      replace h := ifF (by rw [e9] <;> decide) h
      replace h := ifF (by rw [e9] <;> decide) h
      replace h := ifF (by rw [e9] <;> decide) h
      replace h := ifF (by rw [e9] <;> decide) h
      replace h := ifF (by rw [e9] <;> decide) h
      replace h := ifF (by rw [e9] <;> decide) h
      refine Y_iconst (pc := 134) (v := (1 : Int32)) dX5_operandBound_134 rfl ?_
      cases h
      exact Y_iret (pc := 135) rfl rfl dX5_operandBound_135 hP ⟨rfl, rfl⟩
    · intro e9
      replace h := ifF (by rw [e9] <;> decide) h
      replace h := ifT (by rw [e9] <;> decide) h
      refine Y_bipush (pc := 126) (v := (6 : Int32)) dX5_operandBound_126 rfl ?_
      cases h
      exact Y_iret (pc := 128) rfl rfl dX5_operandBound_128 hP ⟨rfl, rfl⟩
    · intro e9
      replace h := ifF (by rw [e9] <;> decide) h
      replace h := ifF (by rw [e9] <;> decide) h
      replace h := ifF (by rw [e9] <;> decide) h
      replace h := ifF (by rw [e9] <;> decide) h
      replace h := ifF (by rw [e9] <;> decide) h
      replace h := ifF (by rw [e9] <;> decide) h
      refine Y_iconst (pc := 134) (v := (1 : Int32)) dX5_operandBound_134 rfl ?_
      cases h
      exact Y_iret (pc := 135) rfl rfl dX5_operandBound_135 hP ⟨rfl, rfl⟩
    · intro e9
      replace h := ifF (by rw [e9] <;> decide) h
      replace h := ifF (by rw [e9] <;> decide) h
      replace h := ifF (by rw [e9] <;> decide) h
      replace h := ifF (by rw [e9] <;> decide) h
      replace h := ifF (by rw [e9] <;> decide) h
      replace h := ifF (by rw [e9] <;> decide) h
      refine Y_iconst (pc := 134) (v := (1 : Int32)) dX5_operandBound_134 rfl ?_
      cases h
      exact Y_iret (pc := 135) rfl rfl dX5_operandBound_135 hP ⟨rfl, rfl⟩
    · intro e9
      replace h := ifF (by rw [e9] <;> decide) h
      replace h := ifF (by rw [e9] <;> decide) h
      replace h := ifF (by rw [e9] <;> decide) h
      replace h := ifF (by rw [e9] <;> decide) h
      replace h := ifT (by rw [e9] <;> decide) h
      refine Y_bipush (pc := 115) (v := (6 : Int32)) dX5_operandBound_115 rfl ?_
      cases h
      exact Y_iret (pc := 117) rfl rfl dX5_operandBound_117 hP ⟨rfl, rfl⟩
    · intro e9
      replace h := ifF (by rw [e9] <;> decide) h
      replace h := ifF (by rw [e9] <;> decide) h
      replace h := ifF (by rw [e9] <;> decide) h
      replace h := ifF (by rw [e9] <;> decide) h
      replace h := ifF (by rw [e9] <;> decide) h
      replace h := ifF (by rw [e9] <;> decide) h
      refine Y_iconst (pc := 134) (v := (1 : Int32)) dX5_operandBound_134 rfl ?_
      cases h
      exact Y_iret (pc := 135) rfl rfl dX5_operandBound_135 hP ⟨rfl, rfl⟩
    · intro e9
      replace h := ifF (by rw [e9] <;> decide) h
      replace h := ifF (by rw [e9] <;> decide) h
      replace h := ifF (by rw [e9] <;> decide) h
      replace h := ifF (by rw [e9] <;> decide) h
      replace h := ifF (by rw [e9] <;> decide) h
      replace h := ifF (by rw [e9] <;> decide) h
      refine Y_iconst (pc := 134) (v := (1 : Int32)) dX5_operandBound_134 rfl ?_
      cases h
      exact Y_iret (pc := 135) rfl rfl dX5_operandBound_135 hP ⟨rfl, rfl⟩
    · intro e9
      replace h := ifF (by rw [e9] <;> decide) h
      replace h := ifF (by rw [e9] <;> decide) h
      replace h := ifF (by rw [e9] <;> decide) h
      replace h := ifF (by rw [e9] <;> decide) h
      replace h := ifF (by rw [e9] <;> decide) h
      replace h := ifF (by rw [e9] <;> decide) h
      refine Y_iconst (pc := 134) (v := (1 : Int32)) dX5_operandBound_134 rfl ?_
      cases h
      exact Y_iret (pc := 135) rfl rfl dX5_operandBound_135 hP ⟨rfl, rfl⟩
    · intro e9
      replace h := ifF (by rw [e9] <;> decide) h
      replace h := ifF (by rw [e9] <;> decide) h
      replace h := ifF (by rw [e9] <;> decide) h
      replace h := ifF (by rw [e9] <;> decide) h
      replace h := ifF (by rw [e9] <;> decide) h
      replace h := ifF (by rw [e9] <;> decide) h
      refine Y_iconst (pc := 134) (v := (1 : Int32)) dX5_operandBound_134 rfl ?_
      cases h
      exact Y_iret (pc := 135) rfl rfl dX5_operandBound_135 hP ⟨rfl, rfl⟩
    · intro e9
      replace h := ifF (by rw [e9] <;> decide) h
      replace h := ifF (by rw [e9] <;> decide) h
      replace h := ifF (by rw [e9] <;> decide) h
      replace h := ifF (by rw [e9] <;> decide) h
      replace h := ifF (by rw [e9] <;> decide) h
      replace h := ifF (by rw [e9] <;> decide) h
      refine Y_iconst (pc := 134) (v := (1 : Int32)) dX5_operandBound_134 rfl ?_
      cases h
      exact Y_iret (pc := 135) rfl rfl dX5_operandBound_135 hP ⟨rfl, rfl⟩
    · intro e9
      replace h := ifF (by rw [e9] <;> decide) h
      replace h := ifF (by rw [e9] <;> decide) h
      replace h := ifF (by rw [e9] <;> decide) h
      replace h := ifF (by rw [e9] <;> decide) h
      replace h := ifF (by rw [e9] <;> decide) h
      replace h := ifF (by rw [e9] <;> decide) h
      refine Y_iconst (pc := 134) (v := (1 : Int32)) dX5_operandBound_134 rfl ?_
      cases h
      exact Y_iret (pc := 135) rfl rfl dX5_operandBound_135 hP ⟨rfl, rfl⟩
    · intro e9
      replace h := ifF (by rw [e9] <;> decide) h
      replace h := ifF (by rw [e9] <;> decide) h
      replace h := ifT (by rw [e9] <;> decide) h
      refine Y_bipush (pc := 118) (v := (40 : Int32)) dX5_operandBound_118 rfl ?_
      cases h
      exact Y_iret (pc := 120) rfl rfl dX5_operandBound_120 hP ⟨rfl, rfl⟩
  · intro n9
    replace h := ifF (xs_no n9 (by decide : ((99 : Int32), 129) ∈ _)) h
    replace h := ifF (fun q => q.elim (xs_no n9 (by decide : ((103 : Int32), 126) ∈ _)) (fun q => q.elim (xs_no n9 (by decide : ((109 : Int32), 126) ∈ _)) (xs_no n9 (by decide : ((112 : Int32), 126) ∈ _)))) h
    replace h := ifF (fun q => q.elim (xs_no n9 (by decide : ((106 : Int32), 118) ∈ _)) (xs_no n9 (by decide : ((122 : Int32), 118) ∈ _))) h
    replace h := ifF (xs_no n9 (by decide : ((107 : Int32), 112) ∈ _)) h
    replace h := ifF (fun q => q.elim (xs_no n9 (by decide : ((108 : Int32), 115) ∈ _)) (xs_no n9 (by decide : ((115 : Int32), 115) ∈ _))) h
    replace h := ifF (xs_no n9 (by decide : ((110 : Int32), 121) ∈ _)) h
    refine Y_iconst (pc := 134) (v := (1 : Int32)) dX5_operandBound_134 rfl ?_
    cases h
    exact Y_iret (pc := 135) rfl rfl dX5_operandBound_135 hP ⟨rfl, rfl⟩
theorem v_X5_operandBound {x1 : Int32} {M z} (hP : Lay M) (h : d_X5_operandBound x1 M = some z) : CC Lay k_X5_operandBound [.ref 2, .int x1] M z.2 (Qv (some (.int z.1)) z.2) xF :=
  CC.ofVV (by decide) rfl (Nat.le_of_ble_eq_true rfl) (b_X5_operandBound hP h)
theorem b_X5_allowsOperand {x1 : Int32} {x2 : Int32} {M z} (hP : Lay M) (h : d_X5_allowsOperand x1 x2 M = some z) : VV Lay k_X5_allowsOperand 0 [(0, .ref 2), (1, .int x1), (2, .int x2)] [] M z.2 (Qv (some (.int z.1)) z.2) xF := by
  unfold d_X5_allowsOperand at h
  refine Y_iload_n (pc := 0) (j := 1) dX5_allowsOperand_0 rfl rfl ?_
  refine Y_bipush (pc := 1) (v := (105 : Int32)) dX5_allowsOperand_1 rfl ?_
  refine Y_icmp_eq (pc := 3) (tgt := 19) dX5_allowsOperand_3 (by decide) (fun hc1 => ?_) (fun hc1 => ?_)
  · replace h := ifT hc1 h
    refine Y_iconst (pc := 19) (v := (1 : Int32)) dX5_allowsOperand_19 rfl ?_
    refine Y_goto (pc := 20) (tgt := 24) dX5_allowsOperand_20 (by decide) ?_
    cases h
    exact Y_iret (pc := 24) rfl (nar_bo (by decide)) dX5_allowsOperand_24 hP ⟨rfl, rfl⟩
  · replace h := ifF hc1 h
    refine Y_iload_n (pc := 6) (j := 2) dX5_allowsOperand_6 rfl rfl ?_
    refine Y_if_lt (pc := 7) (tgt := 23) dX5_allowsOperand_7 (by decide) (fun hc2 => ?_) (fun hc2 => ?_)
    · replace h := ifT hc2 h
      refine Y_iconst (pc := 23) (v := (0 : Int32)) dX5_allowsOperand_23 rfl ?_
      cases h
      exact Y_iret (pc := 24) rfl (nar_bo (by decide)) dX5_allowsOperand_24 hP ⟨rfl, rfl⟩
    · replace h := ifF hc2 h
      refine Y_iload_n (pc := 10) (j := 2) dX5_allowsOperand_10 rfl rfl ?_
      refine Y_aload_n (pc := 11) (j := 0) dX5_allowsOperand_11 rfl rfl ?_
      refine Y_iload_n (pc := 12) (j := 1) dX5_allowsOperand_12 rfl rfl ?_
      obtain ⟨y1, qy1, h⟩ := bindE h
      have cy1 := v_X5_operandBound hP qy1
      refine C_V1r (pc := 13) (k' := k_X5_operandBound) dX5_allowsOperand_13 w4_122 i_X5_operandBound (lk_2 hP) ⟨Nat.le_of_ble_eq_true rfl, Nat.le_of_ble_eq_true rfl⟩ rfl (Nat.le_of_ble_eq_true rfl) (Nat.le_of_ble_eq_true rfl) (Nat.le_of_ble_eq_true rfl) (cy1) ?_
      have hPy1 := cy1.1.1
      refine Y_icmp_ge (pc := 16) (tgt := 23) dX5_allowsOperand_16 (by decide) (fun hc3 => ?_) (fun hc3 => ?_)
      · replace h := ifT hc3 h
        refine Y_iconst (pc := 23) (v := (0 : Int32)) dX5_allowsOperand_23 rfl ?_
        cases h
        exact Y_iret (pc := 24) rfl (nar_bo (by decide)) dX5_allowsOperand_24 hPy1 ⟨rfl, rfl⟩
      · replace h := ifF hc3 h
        refine Y_iconst (pc := 19) (v := (1 : Int32)) dX5_allowsOperand_19 rfl ?_
        refine Y_goto (pc := 20) (tgt := 24) dX5_allowsOperand_20 (by decide) ?_
        cases h
        exact Y_iret (pc := 24) rfl (nar_bo (by decide)) dX5_allowsOperand_24 hPy1 ⟨rfl, rfl⟩
theorem v_X5_allowsOperand {x1 : Int32} {x2 : Int32} {M z} (hP : Lay M) (h : d_X5_allowsOperand x1 x2 M = some z) : CC Lay k_X5_allowsOperand [.ref 2, .int x1, .int x2] M z.2 (Qv (some (.int z.1)) z.2) xF :=
  CC.ofVV (by decide) rfl (Nat.le_of_ble_eq_true rfl) (b_X5_allowsOperand hP h)
theorem b_X6_init {M0 : Mem} {r0 : Nat} {M z} (hP : (Kx r0 M0) M) (h : d_X6_init r0 M = some z) : VV (Kx r0 M0) k_X6_init 0 [(0, .ref r0)] [] M z.2 (Qv (none) z.2) xF := by
  unfold d_X6_init at h
  refine Y_aload_n (pc := 0) (j := 0) dX6_init_0 rfl rfl ?_
  refine Y_oinit (pc := 1) dX6_init_1 w2_46 (Nat.le_of_ble_eq_true rfl) (Nat.le_of_ble_eq_true rfl) (Nat.le_of_ble_eq_true rfl) ?_
  refine Y_aload_n (pc := 4) (j := 0) dX6_init_4 rfl rfl ?_
  refine Y_bipush (pc := 5) (v := (30 : Int32)) dX6_init_5 rfl ?_
  obtain ⟨r_1, er_1, h⟩ := bndE h
  obtain ⟨hb1, h⟩ := okE h
  refine Y_newa (pc := 7) (a := r_1) (t := 21) (N := 30) dX6_init_7 (by decide) (by decide) rfl w1_100 (hP.free er_1) hb1 (by decide) rfl (by decide) ?_
  obtain ⟨M1, eM1, h⟩ := bndE h
  refine VV.mem eM1 ?_
  have hP1 := hP.wN er_1 (by decide) eM1
  obtain ⟨hb2, h⟩ := okE h
  refine Z_putr (pc := 9) dX6_init_9 w2_47 hb2 fr_6_0 (Or.inr ⟨rfl, rfl⟩) (Or.inr ⟨_, rfl⟩) ?_
  obtain ⟨M2, eM2, h⟩ := bndE h
  refine VV.mem eM2 ?_
  have hP2 := hP1.wR0 (by omega) eM2
  refine Y_aload_n (pc := 12) (j := 0) dX6_init_12 rfl rfl ?_
  refine Y_bipush (pc := 13) (v := (31 : Int32)) dX6_init_13 rfl ?_
  obtain ⟨r_2, er_2, h⟩ := bndE h
  obtain ⟨hb3, h⟩ := okE h
  refine Y_newa (pc := 15) (a := r_2) (t := 21) (N := 31) dX6_init_15 (by decide) (by decide) rfl w1_100 (hP2.free er_2) hb3 (by decide) rfl (by decide) ?_
  obtain ⟨M3, eM3, h⟩ := bndE h
  refine VV.mem eM3 ?_
  have hP3 := hP2.wN er_2 (by decide) eM3
  obtain ⟨hb4, h⟩ := okE h
  refine Z_putr (pc := 17) dX6_init_17 w2_49 hb4 fr_6_1 (Or.inr ⟨rfl, rfl⟩) (Or.inr ⟨_, rfl⟩) ?_
  obtain ⟨M4, eM4, h⟩ := bndE h
  refine VV.mem eM4 ?_
  have hP4 := hP3.wR0 (by omega) eM4
  refine Y_aload_n (pc := 20) (j := 0) dX6_init_20 rfl rfl ?_
  refine Y_bipush (pc := 21) (v := (120 : Int32)) dX6_init_21 rfl ?_
  obtain ⟨r_3, er_3, h⟩ := bndE h
  obtain ⟨hb5, h⟩ := okE h
  refine Y_newa (pc := 23) (a := r_3) (t := 21) (N := 120) dX6_init_23 (by decide) (by decide) rfl w1_100 (hP4.free er_3) hb5 (by decide) rfl (by decide) ?_
  obtain ⟨M5, eM5, h⟩ := bndE h
  refine VV.mem eM5 ?_
  have hP5 := hP4.wN er_3 (by decide) eM5
  obtain ⟨hb6, h⟩ := okE h
  refine Z_putr (pc := 25) dX6_init_25 w2_51 hb6 fr_6_2 (Or.inr ⟨rfl, rfl⟩) (Or.inr ⟨_, rfl⟩) ?_
  obtain ⟨M6, eM6, h⟩ := bndE h
  refine VV.mem eM6 ?_
  have hP6 := hP5.wR0 (by omega) eM6
  refine Y_aload_n (pc := 28) (j := 0) dX6_init_28 rfl rfl ?_
  refine Y_bipush (pc := 29) (v := (120 : Int32)) dX6_init_29 rfl ?_
  obtain ⟨r_4, er_4, h⟩ := bndE h
  obtain ⟨hb7, h⟩ := okE h
  refine Y_newa (pc := 31) (a := r_4) (t := 21) (N := 120) dX6_init_31 (by decide) (by decide) rfl w1_100 (hP6.free er_4) hb7 (by decide) rfl (by decide) ?_
  obtain ⟨M7, eM7, h⟩ := bndE h
  refine VV.mem eM7 ?_
  have hP7 := hP6.wN er_4 (by decide) eM7
  obtain ⟨hb8, h⟩ := okE h
  refine Z_putr (pc := 33) dX6_init_33 w2_53 hb8 fr_6_3 (Or.inr ⟨rfl, rfl⟩) (Or.inr ⟨_, rfl⟩) ?_
  obtain ⟨M8, eM8, h⟩ := bndE h
  refine VV.mem eM8 ?_
  have hP8 := hP7.wR0 (by omega) eM8
  refine Y_aload_n (pc := 36) (j := 0) dX6_init_36 rfl rfl ?_
  refine Y_bipush (pc := 37) (v := (120 : Int32)) dX6_init_37 rfl ?_
  obtain ⟨r_5, er_5, h⟩ := bndE h
  obtain ⟨hb9, h⟩ := okE h
  refine Y_newa (pc := 39) (a := r_5) (t := 21) (N := 120) dX6_init_39 (by decide) (by decide) rfl w1_100 (hP8.free er_5) hb9 (by decide) rfl (by decide) ?_
  obtain ⟨M9, eM9, h⟩ := bndE h
  refine VV.mem eM9 ?_
  have hP9 := hP8.wN er_5 (by decide) eM9
  obtain ⟨hb10, h⟩ := okE h
  refine Z_putr (pc := 41) dX6_init_41 w2_55 hb10 fr_6_4 (Or.inr ⟨rfl, rfl⟩) (Or.inr ⟨_, rfl⟩) ?_
  obtain ⟨M10, eM10, h⟩ := bndE h
  refine VV.mem eM10 ?_
  have hP10 := hP9.wR0 (by omega) eM10
  refine Y_aload_n (pc := 44) (j := 0) dX6_init_44 rfl rfl ?_
  refine Y_bipush (pc := 45) (v := (120 : Int32)) dX6_init_45 rfl ?_
  obtain ⟨r_6, er_6, h⟩ := bndE h
  obtain ⟨hb11, h⟩ := okE h
  refine Y_newa (pc := 47) (a := r_6) (t := 21) (N := 120) dX6_init_47 (by decide) (by decide) rfl w1_100 (hP10.free er_6) hb11 (by decide) rfl (by decide) ?_
  obtain ⟨M11, eM11, h⟩ := bndE h
  refine VV.mem eM11 ?_
  have hP11 := hP10.wN er_6 (by decide) eM11
  obtain ⟨hb12, h⟩ := okE h
  refine Z_putr (pc := 49) dX6_init_49 w2_57 hb12 fr_6_5 (Or.inr ⟨rfl, rfl⟩) (Or.inr ⟨_, rfl⟩) ?_
  obtain ⟨M12, eM12, h⟩ := bndE h
  refine VV.mem eM12 ?_
  have hP12 := hP11.wR0 (by omega) eM12
  refine Y_aload_n (pc := 52) (j := 0) dX6_init_52 rfl rfl ?_
  refine Y_sipush (pc := 53) (v := (378 : Int32)) dX6_init_53 rfl ?_
  obtain ⟨r_7, er_7, h⟩ := bndE h
  obtain ⟨hb13, h⟩ := okE h
  refine Y_newa (pc := 56) (a := r_7) (t := 21) (N := 378) dX6_init_56 (by decide) (by decide) rfl w1_100 (hP12.free er_7) hb13 (by decide) rfl (by decide) ?_
  obtain ⟨M13, eM13, h⟩ := bndE h
  refine VV.mem eM13 ?_
  have hP13 := hP12.wN er_7 (by decide) eM13
  obtain ⟨hb14, h⟩ := okE h
  refine Z_putr (pc := 58) dX6_init_58 w2_59 hb14 fr_6_6 (Or.inr ⟨rfl, rfl⟩) (Or.inr ⟨_, rfl⟩) ?_
  obtain ⟨M14, eM14, h⟩ := bndE h
  refine VV.mem eM14 ?_
  have hP14 := hP13.wR0 (by omega) eM14
  cases h
  exact Y_vret (pc := 61) rfl dX6_init_61 hP14 ⟨rfl, rfl⟩
theorem v_X6_init {r0 : Nat} {M z} (hP : Fsh M) (hr : r0 ≤ nx M) (h : d_X6_init r0 M = some z) : CC (Kx r0 M) k_X6_init [.ref r0] M z.2 (Qv (none) z.2) xF :=
  CC.ofVV (by decide) rfl (Nat.le_of_ble_eq_true rfl) (b_X6_init (Kx.refl hP hr) h)
theorem b_X6_begin_28b {k28 : (Int32) → Mem → Option (Unit × Mem)} {x4 : Int32} {M z} (hk28 : ∀ (a : (Int32)) (M : Mem) (z : Unit × Mem), Lay M → k28 a M = some z → VV Lay k_X6_begin 28 [(0, .ref 48), (1, .ref 18), (4, .int a)] [] M z.2 (Qv (none) z.2) xF) (hP : Lay M) (h : d_X6_begin_28b k28 x4 M = some z) : VV Lay k_X6_begin 28 [(0, .ref 48), (1, .ref 18), (4, .int x4)] [] M z.2 (Qv (none) z.2) xF := by
  unfold d_X6_begin_28b at h
  refine Y_iload (pc := 28) (j := 2) dX6_begin_28 rfl ?_
  refine Y_sipush (pc := 30) (v := (168 : Int32)) dX6_begin_30 rfl ?_
  refine Y_icmp_ge (pc := 33) (tgt := 62) dX6_begin_33 (by decide) (fun hc1 => ?_) (fun hc1 => ?_)
  · replace h := ifT hc1 h
    refine Y_aload_n (pc := 62) (j := 0) dX6_begin_62 rfl rfl ?_
    refine Y_sipush (pc := 63) (v := (168 : Int32)) dX6_begin_63 rfl ?_
    refine Z_puti (pc := 66) dX6_begin_66 w2_65 (lk_48 hP) fi_6_9 (Or.inl rfl) rfl ?_
    obtain ⟨M1, eM1, h⟩ := bndE h
    refine VV.mem eM1 ?_
    have hP1 := hP.wI eM1
    cases h
    exact Y_vret (pc := 69) rfl dX6_begin_69 hP1 ⟨rfl, rfl⟩
  · replace h := ifF hc1 h
    refine Y_aload_n (pc := 36) (j := 1) dX6_begin_36 rfl rfl ?_
    refine Z_getr (pc := 37) dX6_begin_37 w1_172 (lk_18 hP) fr_4_2 (lr_18_2 hP) ?_
    refine Z_getr (pc := 40) dX6_begin_40 w1_156 (lk_19 hP) fr_8_3 (lr_19_3 hP) ?_
    refine Y_iload (pc := 43) (j := 2) dX6_begin_43 rfl ?_
    refine Y_iload (pc := 45) (j := 2) dX6_begin_45 rfl ?_
    obtain ⟨hb1, h⟩ := okE h
    refine Y_iast (pc := 47) dX6_begin_47 (lk_23 hP) (ln_23 hP) hb1 ?_
    obtain ⟨M2, eM2, h⟩ := bndE h
    refine VV.mem eM2 ?_
    have hP2 := hP.wI eM2
    refine Y_aload_n (pc := 48) (j := 0) dX6_begin_48 rfl rfl ?_
    refine Z_getr (pc := 49) dX6_begin_49 w2_59 (lk_48 hP2) fr_6_6 (lr_48_6 hP2) ?_
    refine Y_iload (pc := 52) (j := 2) dX6_begin_52 rfl ?_
    refine Y_iconst (pc := 54) (v := (0 : Int32)) dX6_begin_54 rfl ?_
    obtain ⟨hb2, h⟩ := okE h
    refine Y_iast (pc := 55) dX6_begin_55 (lk_55 hP2) (ln_55 hP2) hb2 ?_
    obtain ⟨M3, eM3, h⟩ := bndE h
    refine VV.mem eM3 ?_
    have hP3 := hP2.wI eM3
    obtain ⟨b1, eb1, h⟩ := bndE h
    refine Y_iinc (pc := 56) (j := 2) (v := b1) (lv1 := [(4, .int b1), (0, .ref 48), (1, .ref 18)]) dX6_begin_56 rfl eb1.symm (by decide) rfl ?_
    refine Y_goto (pc := 59) (tgt := 28) dX6_begin_59 (by decide) ?_
    refine VV.sub [1, 2, 0] rfl ?_
    exact hk28 _ _ _ hP3 h
theorem b_X6_begin_28 (n : Nat) : ∀ (a : (Int32)) (M : Mem) (z : Unit × Mem), d_X6_begin_28 n a M = some z → Lay M → VV Lay k_X6_begin 28 [(0, .ref 48), (1, .ref 18), (4, .int a)] [] M z.2 (Qv (none) z.2) xF :=
  lp_ind (G := fun (a : (Int32)) (M : Mem) (z : Unit × Mem) => Lay M → VV Lay k_X6_begin 28 [(0, .ref 48), (1, .ref 18), (4, .int a)] [] M z.2 (Qv (none) z.2) xF) (fun k hk a M z h hP => b_X6_begin_28b  (fun a M z hP h => hk a M z h hP) hP h) n
theorem b_X6_begin {x2 : Int32} {x3 : Int32} {M z} (hP : Lay M) (h : d_X6_begin x2 x3 M = some z) : VV Lay k_X6_begin 0 [(0, .ref 48), (1, .ref 18), (2, .int x2), (3, .int x3)] [] M z.2 (Qv (none) z.2) xF := by
  unfold d_X6_begin at h
  refine Y_aload_n (pc := 0) (j := 0) dX6_begin_0 rfl rfl ?_
  refine Y_iconst (pc := 1) (v := (1 : Int32)) dX6_begin_1 rfl ?_
  refine Z_putz (pc := 2) dX6_begin_2 w2_66 (lk_48 hP) fi_6_10 (Or.inl rfl) rfl (by decide) ?_
  obtain ⟨M1, eM1, h⟩ := bndE h
  refine VV.mem eM1 ?_
  have hP1 := hP.wI eM1
  refine Y_aload_n (pc := 5) (j := 0) dX6_begin_5 rfl rfl ?_
  refine Y_iload_n (pc := 6) (j := 2) dX6_begin_6 rfl rfl ?_
  refine Z_puti (pc := 7) dX6_begin_7 w2_69 (lk_48 hP1) fi_6_11 (Or.inl rfl) rfl ?_
  obtain ⟨M2, eM2, h⟩ := bndE h
  refine VV.mem eM2 ?_
  have hP2 := hP1.wI eM2
  refine Y_aload_n (pc := 10) (j := 0) dX6_begin_10 rfl rfl ?_
  refine Y_iload_n (pc := 11) (j := 3) dX6_begin_11 rfl rfl ?_
  refine Z_puti (pc := 12) dX6_begin_12 w2_71 (lk_48 hP2) fi_6_12 (Or.inl rfl) rfl ?_
  obtain ⟨M3, eM3, h⟩ := bndE h
  refine VV.mem eM3 ?_
  have hP3 := hP2.wI eM3
  refine Y_aload_n (pc := 15) (j := 0) dX6_begin_15 rfl rfl ?_
  refine Y_iconst (pc := 16) (v := (0 : Int32)) dX6_begin_16 rfl ?_
  refine Z_puti (pc := 17) dX6_begin_17 w2_61 (lk_48 hP3) fi_6_7 (Or.inl rfl) rfl ?_
  obtain ⟨M4, eM4, h⟩ := bndE h
  refine VV.mem eM4 ?_
  have hP4 := hP3.wI eM4
  refine Y_aload_n (pc := 20) (j := 0) dX6_begin_20 rfl rfl ?_
  refine Y_iconst (pc := 21) (v := (0 : Int32)) dX6_begin_21 rfl ?_
  refine Z_puti (pc := 22) dX6_begin_22 w2_64 (lk_48 hP4) fi_6_8 (Or.inl rfl) rfl ?_
  obtain ⟨M5, eM5, h⟩ := bndE h
  refine VV.mem eM5 ?_
  have hP5 := hP4.wI eM5
  refine Y_iconst (pc := 25) (v := (0 : Int32)) dX6_begin_25 rfl ?_
  refine Y_istore (pc := 26) (lv1 := [(4, .int (0 : Int32)), (0, .ref 48), (1, .ref 18), (2, .int x2), (3, .int x3)]) dX6_begin_26 (by decide) rfl ?_
  refine VV.sub [1, 2, 0] rfl ?_
  exact b_X6_begin_28  fuel _ _ _ h hP5
theorem v_X6_begin {x2 : Int32} {x3 : Int32} {M z} (hP : Lay M) (h : d_X6_begin x2 x3 M = some z) : CC Lay k_X6_begin [.ref 48, .ref 18, .int x2, .int x3] M z.2 (Qv (none) z.2) xF :=
  CC.ofVV (by decide) rfl (Nat.le_of_ble_eq_true rfl) (b_X6_begin hP h)
theorem b_X6_beginRoot {x2 : Int32} {M z} (hP : Lay M) (h : d_X6_beginRoot x2 M = some z) : VV Lay k_X6_beginRoot 0 [(0, .ref 48), (1, .ref 18), (2, .int x2)] [] M z.2 (Qv (none) z.2) xF := by
  unfold d_X6_beginRoot at h
  refine Y_aload_n (pc := 0) (j := 0) dX6_beginRoot_0 rfl rfl ?_
  refine Y_iconst (pc := 1) (v := (-1 : Int32)) dX6_beginRoot_1 rfl ?_
  refine Z_puti (pc := 2) dX6_beginRoot_2 w2_73 (lk_48 hP) fi_6_13 (Or.inl rfl) rfl ?_
  obtain ⟨M1, eM1, h⟩ := bndE h
  refine VV.mem eM1 ?_
  have hP1 := hP.wI eM1
  refine Y_aload_n (pc := 5) (j := 0) dX6_beginRoot_5 rfl rfl ?_
  refine Y_iconst (pc := 6) (v := (-1 : Int32)) dX6_beginRoot_6 rfl ?_
  refine Z_puti (pc := 7) dX6_beginRoot_7 w2_75 (lk_48 hP1) fi_6_14 (Or.inl rfl) rfl ?_
  obtain ⟨M2, eM2, h⟩ := bndE h
  refine VV.mem eM2 ?_
  have hP2 := hP1.wI eM2
  refine Y_aload_n (pc := 10) (j := 0) dX6_beginRoot_10 rfl rfl ?_
  refine Y_aload_n (pc := 11) (j := 1) dX6_beginRoot_11 rfl rfl ?_
  refine Y_iload_n (pc := 12) (j := 2) dX6_beginRoot_12 rfl rfl ?_
  refine Y_aload_n (pc := 13) (j := 1) dX6_beginRoot_13 rfl rfl ?_
  refine Z_geti (pc := 14) dX6_beginRoot_14 w1_185 (lk_18 hP2) fi_4_9 ?_
  obtain ⟨y1, qy1, h⟩ := bindE h
  have cy1 := v_X6_begin hP2 qy1
  refine C_V3o (pc := 17) (k' := k_X6_begin) dX6_beginRoot_17 w6_89 i_X6_begin (lk_48 hP2) ⟨Nat.le_of_ble_eq_true rfl, Nat.le_of_ble_eq_true rfl⟩ rfl (Nat.le_of_ble_eq_true rfl) (Nat.le_of_ble_eq_true rfl) (Nat.le_of_ble_eq_true rfl) (cy1) ?_
  have hPy1 := cy1.1.1
  cases h
  exact Y_vret (pc := 20) rfl dX6_beginRoot_20 hPy1 ⟨rfl, rfl⟩
theorem v_X6_beginRoot {x2 : Int32} {M z} (hP : Lay M) (h : d_X6_beginRoot x2 M = some z) : CC Lay k_X6_beginRoot [.ref 48, .ref 18, .int x2] M z.2 (Qv (none) z.2) xF :=
  CC.ofVV (by decide) rfl (Nat.le_of_ble_eq_true rfl) (b_X6_beginRoot hP h)
theorem b_X6_beginSide {r2 : Nat} {x3 : Int32} {x4 : Int32} {x5 : Int32} {M z} (hP : Lay M) (h : d_X6_beginSide r2 x3 x4 x5 M = some z) : VV Lay k_X6_beginSide 0 [(0, .ref 48), (1, .ref 18), (2, .ref r2), (3, .int x3), (4, .int x4), (5, .int x5)] [] M z.2 (Qv (none) z.2) xF := by
  unfold d_X6_beginSide at h
  refine Y_aload_n (pc := 0) (j := 0) dX6_beginSide_0 rfl rfl ?_
  refine Y_iload_n (pc := 1) (j := 3) dX6_beginSide_1 rfl rfl ?_
  refine Z_puti (pc := 2) dX6_beginSide_2 w2_73 (lk_48 hP) fi_6_13 (Or.inl rfl) rfl ?_
  obtain ⟨M1, eM1, h⟩ := bndE h
  refine VV.mem eM1 ?_
  have hP1 := hP.wI eM1
  refine Y_aload_n (pc := 5) (j := 0) dX6_beginSide_5 rfl rfl ?_
  refine Y_iload (pc := 6) (j := 4) dX6_beginSide_6 rfl ?_
  refine Z_puti (pc := 8) dX6_beginSide_8 w2_75 (lk_48 hP1) fi_6_14 (Or.inl rfl) rfl ?_
  obtain ⟨M2, eM2, h⟩ := bndE h
  refine VV.mem eM2 ?_
  have hP2 := hP1.wI eM2
  refine Y_aload_n (pc := 11) (j := 0) dX6_beginSide_11 rfl rfl ?_
  refine Y_aload_n (pc := 12) (j := 1) dX6_beginSide_12 rfl rfl ?_
  refine Y_aload_n (pc := 13) (j := 2) dX6_beginSide_13 rfl rfl ?_
  obtain ⟨hb1, h⟩ := okE h
  refine Z_geti (pc := 14) dX6_beginSide_14 w2_169 hb1 fi_9_13 ?_
  refine Y_iload (pc := 17) (j := 5) dX6_beginSide_17 rfl ?_
  obtain ⟨y1, qy1, h⟩ := bindE h
  have cy1 := v_X6_begin hP2 qy1
  refine C_V3o (pc := 19) (k' := k_X6_begin) dX6_beginSide_19 w6_89 i_X6_begin (lk_48 hP2) ⟨Nat.le_of_ble_eq_true rfl, Nat.le_of_ble_eq_true rfl⟩ rfl (Nat.le_of_ble_eq_true rfl) (Nat.le_of_ble_eq_true rfl) (Nat.le_of_ble_eq_true rfl) (cy1) ?_
  have hPy1 := cy1.1.1
  cases h
  exact Y_vret (pc := 22) rfl dX6_beginSide_22 hPy1 ⟨rfl, rfl⟩
theorem v_X6_beginSide {r2 : Nat} {x3 : Int32} {x4 : Int32} {x5 : Int32} {M z} (hP : Lay M) (h : d_X6_beginSide r2 x3 x4 x5 M = some z) : CC Lay k_X6_beginSide [.ref 48, .ref 18, .ref r2, .int x3, .int x4, .int x5] M z.2 (Qv (none) z.2) xF :=
  CC.ofVV (by decide) rfl (Nat.le_of_ble_eq_true rfl) (b_X6_beginSide hP h)
theorem b_X6_isFull {M z} (hP : Lay M) (h : d_X6_isFull M = some z) : VV Lay k_X6_isFull 0 [(0, .ref 48)] [] M z.2 (Qv (some (.int z.1)) z.2) xF := by
  unfold d_X6_isFull at h
  refine Y_aload_n (pc := 0) (j := 0) dX6_isFull_0 rfl rfl ?_
  refine Z_geti (pc := 1) dX6_isFull_1 w2_61 (lk_48 hP) fi_6_7 ?_
  refine Y_bipush (pc := 4) (v := (30 : Int32)) dX6_isFull_4 rfl ?_
  refine Y_icmp_lt (pc := 6) (tgt := 13) dX6_isFull_6 (by decide) (fun hc1 => ?_) (fun hc1 => ?_)
  · replace h := ifT hc1 h
    refine Y_iconst (pc := 13) (v := (0 : Int32)) dX6_isFull_13 rfl ?_
    cases h
    exact Y_iret (pc := 14) rfl (nar_bo (by decide)) dX6_isFull_14 hP ⟨rfl, rfl⟩
  · replace h := ifF hc1 h
    refine Y_iconst (pc := 9) (v := (1 : Int32)) dX6_isFull_9 rfl ?_
    refine Y_goto (pc := 10) (tgt := 14) dX6_isFull_10 (by decide) ?_
    cases h
    exact Y_iret (pc := 14) rfl (nar_bo (by decide)) dX6_isFull_14 hP ⟨rfl, rfl⟩
theorem v_X6_isFull {M z} (hP : Lay M) (h : d_X6_isFull M = some z) : CC Lay k_X6_isFull [.ref 48] M z.2 (Qv (some (.int z.1)) z.2) xF :=
  CC.ofVV (by decide) rfl (Nat.le_of_ble_eq_true rfl) (b_X6_isFull hP h)
theorem b_X6_isClosedBy {M z} (hP : Lay M) (h : d_X6_isClosedBy M = some z) : VV Lay k_X6_isClosedBy 0 [(0, .ref 48), (1, .ref 18)] [] M z.2 (Qv (some (.int z.1)) z.2) xF := by
  unfold d_X6_isClosedBy at h
  refine Y_aload_n (pc := 0) (j := 1) dX6_isClosedBy_0 rfl rfl ?_
  refine Z_geti (pc := 1) dX6_isClosedBy_1 w1_185 (lk_18 hP) fi_4_9 ?_
  refine Y_aload_n (pc := 4) (j := 0) dX6_isClosedBy_4 rfl rfl ?_
  refine Z_geti (pc := 5) dX6_isClosedBy_5 w2_71 (lk_48 hP) fi_6_12 ?_
  refine Y_icmp_ne (pc := 8) (tgt := 26) dX6_isClosedBy_8 (by decide) (fun hc1 => ?_) (fun hc1 => ?_)
  · replace h := ifF hc1 h
    refine Y_iconst (pc := 26) (v := (0 : Int32)) dX6_isClosedBy_26 rfl ?_
    cases h
    exact Y_iret (pc := 27) rfl (nar_bo (by decide)) dX6_isClosedBy_27 hP ⟨rfl, rfl⟩
  · replace h := ifT hc1 h
    refine Y_aload_n (pc := 11) (j := 1) dX6_isClosedBy_11 rfl rfl ?_
    obtain ⟨y1, qy1, h⟩ := bindE h
    have cy1 := v_X3_siteAhead (Or.inl rfl) hP qy1
    refine C_V0r (pc := 12) (k' := k_X3_siteAhead) dX6_isClosedBy_12 w6_208 i_X3_siteAhead (lk_18 hP) ⟨Nat.le_of_ble_eq_true rfl, Nat.le_of_ble_eq_true rfl⟩ rfl (Nat.le_of_ble_eq_true rfl) (Nat.le_of_ble_eq_true rfl) (Nat.le_of_ble_eq_true rfl) (cy1) ?_
    have hPy1 := cy1.1.1
    refine Y_aload_n (pc := 15) (j := 0) dX6_isClosedBy_15 rfl rfl ?_
    refine Z_geti (pc := 16) dX6_isClosedBy_16 w2_69 (lk_48 hPy1) fi_6_11 ?_
    refine Y_icmp_ne (pc := 19) (tgt := 26) dX6_isClosedBy_19 (by decide) (fun hc2 => ?_) (fun hc2 => ?_)
    · replace h := ifF hc2 h
      refine Y_iconst (pc := 26) (v := (0 : Int32)) dX6_isClosedBy_26 rfl ?_
      cases h
      exact Y_iret (pc := 27) rfl (nar_bo (by decide)) dX6_isClosedBy_27 hPy1 ⟨rfl, rfl⟩
    · replace h := ifT hc2 h
      refine Y_iconst (pc := 22) (v := (1 : Int32)) dX6_isClosedBy_22 rfl ?_
      refine Y_goto (pc := 23) (tgt := 27) dX6_isClosedBy_23 (by decide) ?_
      cases h
      exact Y_iret (pc := 27) rfl (nar_bo (by decide)) dX6_isClosedBy_27 hPy1 ⟨rfl, rfl⟩
theorem v_X6_isClosedBy {M z} (hP : Lay M) (h : d_X6_isClosedBy M = some z) : CC Lay k_X6_isClosedBy [.ref 48, .ref 18] M z.2 (Qv (some (.int z.1)) z.2) xF :=
  CC.ofVV (by decide) rfl (Nat.le_of_ble_eq_true rfl) (b_X6_isClosedBy hP h)
theorem b_X6_isKnown {x2 : Int32} {x3 : Int32} {M z} (hP : Lay M) (h : d_X6_isKnown x2 x3 M = some z) : VV Lay k_X6_isKnown 0 [(0, .ref 48), (1, .ref 18), (2, .int x2), (3, .int x3)] [] M z.2 (Qv (some (.int z.1)) z.2) xF := by
  unfold d_X6_isKnown at h
  refine Y_aload_n (pc := 0) (j := 0) dX6_isKnown_0 rfl rfl ?_
  refine Z_getr (pc := 1) dX6_isKnown_1 w2_59 (lk_48 hP) fr_6_6 (lr_48_6 hP) ?_
  refine Y_aload_n (pc := 4) (j := 1) dX6_isKnown_4 rfl rfl ?_
  refine Z_getr (pc := 5) dX6_isKnown_5 w1_172 (lk_18 hP) fr_4_2 (lr_18_2 hP) ?_
  refine Z_getr (pc := 8) dX6_isKnown_8 w1_156 (lk_19 hP) fr_8_3 (lr_19_3 hP) ?_
  refine Y_aload_n (pc := 11) (j := 1) dX6_isKnown_11 rfl rfl ?_
  refine Y_iload_n (pc := 12) (j := 2) dX6_isKnown_12 rfl rfl ?_
  obtain ⟨y1, qy1, h⟩ := bindE h
  have cy1 := v_X3_fromTop (Or.inl rfl) hP qy1
  refine C_V1r (pc := 13) (k' := k_X3_fromTop) dX6_isKnown_13 w6_148 i_X3_fromTop (lk_18 hP) ⟨Nat.le_of_ble_eq_true rfl, Nat.le_of_ble_eq_true rfl⟩ rfl (Nat.le_of_ble_eq_true rfl) (Nat.le_of_ble_eq_true rfl) (Nat.le_of_ble_eq_true rfl) (cy1) ?_
  have hPy1 := cy1.1.1
  obtain ⟨hb1, h⟩ := okE h
  refine Y_iald (pc := 16) dX6_isKnown_16 (lk_23 hPy1) (ln_23 hPy1) hb1 ?_
  obtain ⟨hb2, h⟩ := okE h
  refine Y_iald (pc := 17) dX6_isKnown_17 (lk_55 hPy1) (ln_55 hPy1) hb2 ?_
  refine Y_iload_n (pc := 18) (j := 3) dX6_isKnown_18 rfl rfl ?_
  refine Y_iand (pc := 19) dX6_isKnown_19 ?_
  refine Y_if_eq (pc := 20) (tgt := 27) dX6_isKnown_20 (by decide) (fun hc1 => ?_) (fun hc1 => ?_)
  · replace h := ifT hc1 h
    refine Y_iconst (pc := 27) (v := (0 : Int32)) dX6_isKnown_27 rfl ?_
    cases h
    exact Y_iret (pc := 28) rfl (nar_bo (by decide)) dX6_isKnown_28 hPy1 ⟨rfl, rfl⟩
  · replace h := ifF hc1 h
    refine Y_iconst (pc := 23) (v := (1 : Int32)) dX6_isKnown_23 rfl ?_
    refine Y_goto (pc := 24) (tgt := 28) dX6_isKnown_24 (by decide) ?_
    cases h
    exact Y_iret (pc := 28) rfl (nar_bo (by decide)) dX6_isKnown_28 hPy1 ⟨rfl, rfl⟩
theorem v_X6_isKnown {x2 : Int32} {x3 : Int32} {M z} (hP : Lay M) (h : d_X6_isKnown x2 x3 M = some z) : CC Lay k_X6_isKnown [.ref 48, .ref 18, .int x2, .int x3] M z.2 (Qv (some (.int z.1)) z.2) xF :=
  CC.ofVV (by decide) rfl (Nat.le_of_ble_eq_true rfl) (b_X6_isKnown hP h)
theorem b_X6_madeOf {x1 : Int32} {M z} (hP : Lay M) (h : d_X6_madeOf x1 M = some z) : VV Lay k_X6_madeOf 0 [(0, .ref 48), (1, .int x1)] [] M z.2 (Qv (some (.int z.1)) z.2) xF := by
  unfold d_X6_madeOf at h
  refine Y_iload_n (pc := 0) (j := 1) dX6_madeOf_0 rfl rfl ?_
  refine Y_if_eq (pc := 1) (tgt := 9) dX6_madeOf_1 (by decide) (fun hc1 => ?_) (fun hc1 => ?_)
  · replace h := ifT hc1 h
    refine Y_iconst (pc := 9) (v := (1 : Int32)) dX6_madeOf_9 rfl ?_
    cases h
    exact Y_iret (pc := 10) rfl rfl dX6_madeOf_10 hP ⟨rfl, rfl⟩
  · replace h := ifF hc1 h
    refine Y_bipush (pc := 4) (v := (7 : Int32)) dX6_madeOf_4 rfl ?_
    refine Y_goto (pc := 6) (tgt := 10) dX6_madeOf_6 (by decide) ?_
    cases h
    exact Y_iret (pc := 10) rfl rfl dX6_madeOf_10 hP ⟨rfl, rfl⟩
theorem v_X6_madeOf {x1 : Int32} {M z} (hP : Lay M) (h : d_X6_madeOf x1 M = some z) : CC Lay k_X6_madeOf [.ref 48, .int x1] M z.2 (Qv (some (.int z.1)) z.2) xF :=
  CC.ofVV (by decide) rfl (Nat.le_of_ble_eq_true rfl) (b_X6_madeOf hP h)
theorem b_X6_ask {x1 : Int32} {x2 : Int32} {x3 : Int32} {M z} (hP : Lay M) (h : d_X6_ask x1 x2 x3 M = some z) : VV Lay k_X6_ask 0 [(0, .ref 48), (1, .int x1), (2, .int x2), (3, .int x3)] [] M z.2 (Qv (none) z.2) xF := by
  unfold d_X6_ask at h
  refine Y_aload_n (pc := 0) (j := 0) dX6_ask_0 rfl rfl ?_
  refine Z_getr (pc := 1) dX6_ask_1 w2_51 (lk_48 hP) fr_6_2 (lr_48_2 hP) ?_
  refine Y_aload_n (pc := 4) (j := 0) dX6_ask_4 rfl rfl ?_
  refine Z_geti (pc := 5) dX6_ask_5 w2_64 (lk_48 hP) fi_6_8 ?_
  refine Y_iload_n (pc := 8) (j := 1) dX6_ask_8 rfl rfl ?_
  obtain ⟨hb1, h⟩ := okE h
  refine Y_iast (pc := 9) dX6_ask_9 (lk_51 hP) (ln_51 hP) hb1 ?_
  obtain ⟨M1, eM1, h⟩ := bndE h
  refine VV.mem eM1 ?_
  have hP1 := hP.wI eM1
  refine Y_aload_n (pc := 10) (j := 0) dX6_ask_10 rfl rfl ?_
  refine Z_getr (pc := 11) dX6_ask_11 w2_53 (lk_48 hP1) fr_6_3 (lr_48_3 hP1) ?_
  refine Y_aload_n (pc := 14) (j := 0) dX6_ask_14 rfl rfl ?_
  refine Z_geti (pc := 15) dX6_ask_15 w2_64 (lk_48 hP1) fi_6_8 ?_
  refine Y_aload_n (pc := 18) (j := 0) dX6_ask_18 rfl rfl ?_
  refine Z_geti (pc := 19) dX6_ask_19 w2_61 (lk_48 hP1) fi_6_7 ?_
  obtain ⟨hb2, h⟩ := okE h
  refine Y_iast (pc := 22) dX6_ask_22 (lk_52 hP1) (ln_52 hP1) hb2 ?_
  obtain ⟨M2, eM2, h⟩ := bndE h
  refine VV.mem eM2 ?_
  have hP2 := hP1.wI eM2
  refine Y_aload_n (pc := 23) (j := 0) dX6_ask_23 rfl rfl ?_
  refine Z_getr (pc := 24) dX6_ask_24 w2_55 (lk_48 hP2) fr_6_4 (lr_48_4 hP2) ?_
  refine Y_aload_n (pc := 27) (j := 0) dX6_ask_27 rfl rfl ?_
  refine Z_geti (pc := 28) dX6_ask_28 w2_64 (lk_48 hP2) fi_6_8 ?_
  refine Y_iload_n (pc := 31) (j := 2) dX6_ask_31 rfl rfl ?_
  obtain ⟨hb3, h⟩ := okE h
  refine Y_iast (pc := 32) dX6_ask_32 (lk_53 hP2) (ln_53 hP2) hb3 ?_
  obtain ⟨M3, eM3, h⟩ := bndE h
  refine VV.mem eM3 ?_
  have hP3 := hP2.wI eM3
  refine Y_aload_n (pc := 33) (j := 0) dX6_ask_33 rfl rfl ?_
  refine Z_getr (pc := 34) dX6_ask_34 w2_57 (lk_48 hP3) fr_6_5 (lr_48_5 hP3) ?_
  refine Y_aload_n (pc := 37) (j := 0) dX6_ask_37 rfl rfl ?_
  refine Z_geti (pc := 38) dX6_ask_38 w2_64 (lk_48 hP3) fi_6_8 ?_
  refine Y_iload_n (pc := 41) (j := 3) dX6_ask_41 rfl rfl ?_
  obtain ⟨hb4, h⟩ := okE h
  refine Y_iast (pc := 42) dX6_ask_42 (lk_54 hP3) (ln_54 hP3) hb4 ?_
  obtain ⟨M4, eM4, h⟩ := bndE h
  refine VV.mem eM4 ?_
  have hP4 := hP3.wI eM4
  refine Y_aload_n (pc := 43) (j := 0) dX6_ask_43 rfl rfl ?_
  refine Y_dup (pc := 44) dX6_ask_44 rfl ?_
  refine Z_geti (pc := 45) dX6_ask_45 w2_64 (lk_48 hP4) fi_6_8 ?_
  refine Y_iconst (pc := 48) (v := (1 : Int32)) dX6_ask_48 rfl ?_
  refine Y_iadd (pc := 49) dX6_ask_49 ?_
  refine Z_puti (pc := 50) dX6_ask_50 w2_64 (lk_48 hP4) fi_6_8 (Or.inl rfl) rfl ?_
  obtain ⟨M5, eM5, h⟩ := bndE h
  refine VV.mem eM5 ?_
  have hP5 := hP4.wI eM5
  cases h
  exact Y_vret (pc := 53) rfl dX6_ask_53 hP5 ⟨rfl, rfl⟩
theorem v_X6_ask {x1 : Int32} {x2 : Int32} {x3 : Int32} {M z} (hP : Lay M) (h : d_X6_ask x1 x2 x3 M = some z) : CC Lay k_X6_ask [.ref 48, .int x1, .int x2, .int x3] M z.2 (Qv (none) z.2) xF :=
  CC.ofVV (by decide) rfl (Nat.le_of_ble_eq_true rfl) (b_X6_ask hP h)
theorem b_X6_learn {x2 : Int32} {x3 : Int32} {M z} (hP : Lay M) (h : d_X6_learn x2 x3 M = some z) : VV Lay k_X6_learn 0 [(0, .ref 48), (1, .ref 18), (2, .int x2), (3, .int x3)] [] M z.2 (Qv (none) z.2) xF := by
  unfold d_X6_learn at h
  refine Y_aload_n (pc := 0) (j := 0) dX6_learn_0 rfl rfl ?_
  refine Z_getr (pc := 1) dX6_learn_1 w2_59 (lk_48 hP) fr_6_6 (lr_48_6 hP) ?_
  refine Y_aload_n (pc := 4) (j := 1) dX6_learn_4 rfl rfl ?_
  refine Z_getr (pc := 5) dX6_learn_5 w1_172 (lk_18 hP) fr_4_2 (lr_18_2 hP) ?_
  refine Z_getr (pc := 8) dX6_learn_8 w1_156 (lk_19 hP) fr_8_3 (lr_19_3 hP) ?_
  refine Y_aload_n (pc := 11) (j := 1) dX6_learn_11 rfl rfl ?_
  refine Y_iload_n (pc := 12) (j := 2) dX6_learn_12 rfl rfl ?_
  obtain ⟨y1, qy1, h⟩ := bindE h
  have cy1 := v_X3_fromTop (Or.inl rfl) hP qy1
  refine C_V1r (pc := 13) (k' := k_X3_fromTop) dX6_learn_13 w6_148 i_X3_fromTop (lk_18 hP) ⟨Nat.le_of_ble_eq_true rfl, Nat.le_of_ble_eq_true rfl⟩ rfl (Nat.le_of_ble_eq_true rfl) (Nat.le_of_ble_eq_true rfl) (Nat.le_of_ble_eq_true rfl) (cy1) ?_
  have hPy1 := cy1.1.1
  obtain ⟨hb1, h⟩ := okE h
  refine Y_iald (pc := 16) dX6_learn_16 (lk_23 hPy1) (ln_23 hPy1) hb1 ?_
  refine Y_dup2 (pc := 17) dX6_learn_17 rfl rfl ?_
  obtain ⟨hb2, h⟩ := okE h
  refine Y_iald (pc := 18) dX6_learn_18 (lk_55 hPy1) (ln_55 hPy1) hb2 ?_
  refine Y_iload_n (pc := 19) (j := 3) dX6_learn_19 rfl rfl ?_
  refine Y_ior (pc := 20) dX6_learn_20 ?_
  obtain ⟨hb3, h⟩ := okE h
  refine Y_iast (pc := 21) dX6_learn_21 (lk_55 hPy1) (ln_55 hPy1) hb3 ?_
  obtain ⟨M1, eM1, h⟩ := bndE h
  refine VV.mem eM1 ?_
  have hP1 := hPy1.wI eM1
  cases h
  exact Y_vret (pc := 22) rfl dX6_learn_22 hP1 ⟨rfl, rfl⟩
theorem v_X6_learn {x2 : Int32} {x3 : Int32} {M z} (hP : Lay M) (h : d_X6_learn x2 x3 M = some z) : CC Lay k_X6_learn [.ref 48, .ref 18, .int x2, .int x3] M z.2 (Qv (none) z.2) xF :=
  CC.ofVV (by decide) rfl (Nat.le_of_ble_eq_true rfl) (b_X6_learn hP h)
theorem b_X6_askKind {x2 : Int32} {M z} (hP : Lay M) (h : d_X6_askKind x2 M = some z) : VV Lay k_X6_askKind 0 [(0, .ref 48), (1, .ref 18), (2, .int x2)] [] M z.2 (Qv (none) z.2) xF := by
  unfold d_X6_askKind at h
  refine Y_aload_n (pc := 0) (j := 0) dX6_askKind_0 rfl rfl ?_
  refine Y_aload_n (pc := 1) (j := 1) dX6_askKind_1 rfl rfl ?_
  refine Y_iload_n (pc := 2) (j := 2) dX6_askKind_2 rfl rfl ?_
  refine Y_iconst (pc := 3) (v := (1 : Int32)) dX6_askKind_3 rfl ?_
  obtain ⟨y1, qy1, h⟩ := bindE h
  have cy1 := v_X6_isKnown hP qy1
  refine C_V3r (pc := 4) (k' := k_X6_isKnown) dX6_askKind_4 w6_144 i_X6_isKnown (lk_48 hP) ⟨Nat.le_of_ble_eq_true rfl, Nat.le_of_ble_eq_true rfl⟩ rfl (Nat.le_of_ble_eq_true rfl) (Nat.le_of_ble_eq_true rfl) (Nat.le_of_ble_eq_true rfl) (cy1) ?_
  have hPy1 := cy1.1.1
  refine Y_if_ne (pc := 7) (tgt := 50) dX6_askKind_7 (by decide) (fun hc1 => ?_) (fun hc1 => ?_)
  · replace h := ifF hc1 h
    cases h
    exact Y_vret (pc := 50) rfl dX6_askKind_50 hPy1 ⟨rfl, rfl⟩
  · replace h := ifT hc1 h
    refine Y_aload_n (pc := 10) (j := 0) dX6_askKind_10 rfl rfl ?_
    refine Y_bipush (pc := 11) (v := (107 : Int32)) dX6_askKind_11 rfl ?_
    refine Y_iload_n (pc := 13) (j := 2) dX6_askKind_13 rfl rfl ?_
    refine Y_aload_n (pc := 14) (j := 1) dX6_askKind_14 rfl rfl ?_
    refine Y_bipush (pc := 15) (v := (107 : Int32)) dX6_askKind_15 rfl ?_
    refine Y_iload_n (pc := 17) (j := 2) dX6_askKind_17 rfl rfl ?_
    obtain ⟨y2, qy2, h⟩ := bindE h
    have cy2 := v_X3_answerTo (Or.inl rfl) hPy1 qy2
    refine C_V2r (pc := 18) (k' := k_X3_answerTo) dX6_askKind_18 w6_157 i_X3_answerTo (lk_18 hPy1) ⟨Nat.le_of_ble_eq_true rfl, Nat.le_of_ble_eq_true rfl⟩ rfl (Nat.le_of_ble_eq_true rfl) (Nat.le_of_ble_eq_true rfl) (Nat.le_of_ble_eq_true rfl) (cy2) ?_
    have hPy2 := cy2.1.1
    obtain ⟨y3, qy3, h⟩ := bindE h
    have cy3 := v_X6_ask hPy2 qy3
    refine C_V3o (pc := 21) (k' := k_X6_ask) dX6_askKind_21 w6_158 i_X6_ask (lk_48 hPy2) ⟨Nat.le_of_ble_eq_true rfl, Nat.le_of_ble_eq_true rfl⟩ rfl (Nat.le_of_ble_eq_true rfl) (Nat.le_of_ble_eq_true rfl) (Nat.le_of_ble_eq_true rfl) (cy3) ?_
    have hPy3 := cy3.1.1
    refine Y_aload_n (pc := 24) (j := 0) dX6_askKind_24 rfl rfl ?_
    refine Y_aload_n (pc := 25) (j := 1) dX6_askKind_25 rfl rfl ?_
    refine Y_iload_n (pc := 26) (j := 2) dX6_askKind_26 rfl rfl ?_
    refine Y_aload_n (pc := 27) (j := 1) dX6_askKind_27 rfl rfl ?_
    refine Z_getr (pc := 28) dX6_askKind_28 w1_172 (lk_18 hPy3) fr_4_2 (lr_18_2 hPy3) ?_
    refine Y_aload_n (pc := 31) (j := 1) dX6_askKind_31 rfl rfl ?_
    refine Y_iload_n (pc := 32) (j := 2) dX6_askKind_32 rfl rfl ?_
    obtain ⟨y4, qy4, h⟩ := bindE h
    have cy4 := v_X3_fromTop (Or.inl rfl) hPy3 qy4
    refine C_V1r (pc := 33) (k' := k_X3_fromTop) dX6_askKind_33 w6_148 i_X3_fromTop (lk_18 hPy3) ⟨Nat.le_of_ble_eq_true rfl, Nat.le_of_ble_eq_true rfl⟩ rfl (Nat.le_of_ble_eq_true rfl) (Nat.le_of_ble_eq_true rfl) (Nat.le_of_ble_eq_true rfl) (cy4) ?_
    have hPy4 := cy4.1.1
    obtain ⟨y5, qy5, h⟩ := bindE h
    have cy5 := v_X8_isNumber (Or.inl rfl) hPy4 qy5
    refine C_V1r (pc := 36) (k' := k_X8_isNumber) dX6_askKind_36 w6_162 i_X8_isNumber (lk_19 hPy4) ⟨Nat.le_of_ble_eq_true rfl, Nat.le_of_ble_eq_true rfl⟩ rfl (Nat.le_of_ble_eq_true rfl) (Nat.le_of_ble_eq_true rfl) (Nat.le_of_ble_eq_true rfl) (cy5) ?_
    have hPy5 := cy5.1.1
    refine Y_if_eq (pc := 39) (tgt := 46) dX6_askKind_39 (by decide) (fun hc2 => ?_) (fun hc2 => ?_)
    · replace h := ifT hc2 h
      refine Y_iconst (pc := 46) (v := (3 : Int32)) dX6_askKind_46 rfl ?_
      obtain ⟨y6, qy6, h⟩ := bindE h
      have cy6 := v_X6_learn hPy5 qy6
      refine C_V3o (pc := 47) (k' := k_X6_learn) dX6_askKind_47 w6_163 i_X6_learn (lk_48 hPy5) ⟨Nat.le_of_ble_eq_true rfl, Nat.le_of_ble_eq_true rfl⟩ rfl (Nat.le_of_ble_eq_true rfl) (Nat.le_of_ble_eq_true rfl) (Nat.le_of_ble_eq_true rfl) (cy6) ?_
      have hPy6 := cy6.1.1
      cases h
      exact Y_vret (pc := 50) rfl dX6_askKind_50 hPy6 ⟨rfl, rfl⟩
    · replace h := ifF hc2 h
      refine Y_iconst (pc := 42) (v := (1 : Int32)) dX6_askKind_42 rfl ?_
      refine Y_goto (pc := 43) (tgt := 47) dX6_askKind_43 (by decide) ?_
      obtain ⟨y7, qy7, h⟩ := bindE h
      have cy7 := v_X6_learn hPy5 qy7
      refine C_V3o (pc := 47) (k' := k_X6_learn) dX6_askKind_47 w6_163 i_X6_learn (lk_48 hPy5) ⟨Nat.le_of_ble_eq_true rfl, Nat.le_of_ble_eq_true rfl⟩ rfl (Nat.le_of_ble_eq_true rfl) (Nat.le_of_ble_eq_true rfl) (Nat.le_of_ble_eq_true rfl) (cy7) ?_
      have hPy7 := cy7.1.1
      cases h
      exact Y_vret (pc := 50) rfl dX6_askKind_50 hPy7 ⟨rfl, rfl⟩
theorem v_X6_askKind {x2 : Int32} {M z} (hP : Lay M) (h : d_X6_askKind x2 M = some z) : CC Lay k_X6_askKind [.ref 48, .ref 18, .int x2] M z.2 (Qv (none) z.2) xF :=
  CC.ofVV (by decide) rfl (Nat.le_of_ble_eq_true rfl) (b_X6_askKind hP h)
theorem b_X6_askNullness {x2 : Int32} {M z} (hP : Lay M) (h : d_X6_askNullness x2 M = some z) : VV Lay k_X6_askNullness 0 [(0, .ref 48), (1, .ref 18), (2, .int x2)] [] M z.2 (Qv (none) z.2) xF := by
  unfold d_X6_askNullness at h
  refine Y_aload_n (pc := 0) (j := 0) dX6_askNullness_0 rfl rfl ?_
  refine Y_aload_n (pc := 1) (j := 1) dX6_askNullness_1 rfl rfl ?_
  refine Y_iconst (pc := 2) (v := (1 : Int32)) dX6_askNullness_2 rfl ?_
  refine Y_iconst (pc := 3) (v := (2 : Int32)) dX6_askNullness_3 rfl ?_
  obtain ⟨y1, qy1, h⟩ := bindE h
  have cy1 := v_X6_isKnown hP qy1
  refine C_V3r (pc := 4) (k' := k_X6_isKnown) dX6_askNullness_4 w6_144 i_X6_isKnown (lk_48 hP) ⟨Nat.le_of_ble_eq_true rfl, Nat.le_of_ble_eq_true rfl⟩ rfl (Nat.le_of_ble_eq_true rfl) (Nat.le_of_ble_eq_true rfl) (Nat.le_of_ble_eq_true rfl) (cy1) ?_
  have hPy1 := cy1.1.1
  refine Y_if_ne (pc := 7) (tgt := 29) dX6_askNullness_7 (by decide) (fun hc1 => ?_) (fun hc1 => ?_)
  · replace h := ifF hc1 h
    cases h
    exact Y_vret (pc := 29) rfl dX6_askNullness_29 hPy1 ⟨rfl, rfl⟩
  · replace h := ifT hc1 h
    refine Y_aload_n (pc := 10) (j := 0) dX6_askNullness_10 rfl rfl ?_
    refine Y_iload_n (pc := 11) (j := 2) dX6_askNullness_11 rfl rfl ?_
    refine Y_iconst (pc := 12) (v := (1 : Int32)) dX6_askNullness_12 rfl ?_
    refine Y_aload_n (pc := 13) (j := 1) dX6_askNullness_13 rfl rfl ?_
    refine Y_iload_n (pc := 14) (j := 2) dX6_askNullness_14 rfl rfl ?_
    refine Y_iconst (pc := 15) (v := (1 : Int32)) dX6_askNullness_15 rfl ?_
    obtain ⟨y2, qy2, h⟩ := bindE h
    have cy2 := v_X3_answerTo (Or.inl rfl) hPy1 qy2
    refine C_V2r (pc := 16) (k' := k_X3_answerTo) dX6_askNullness_16 w6_157 i_X3_answerTo (lk_18 hPy1) ⟨Nat.le_of_ble_eq_true rfl, Nat.le_of_ble_eq_true rfl⟩ rfl (Nat.le_of_ble_eq_true rfl) (Nat.le_of_ble_eq_true rfl) (Nat.le_of_ble_eq_true rfl) (cy2) ?_
    have hPy2 := cy2.1.1
    obtain ⟨y3, qy3, h⟩ := bindE h
    have cy3 := v_X6_ask hPy2 qy3
    refine C_V3o (pc := 19) (k' := k_X6_ask) dX6_askNullness_19 w6_158 i_X6_ask (lk_48 hPy2) ⟨Nat.le_of_ble_eq_true rfl, Nat.le_of_ble_eq_true rfl⟩ rfl (Nat.le_of_ble_eq_true rfl) (Nat.le_of_ble_eq_true rfl) (Nat.le_of_ble_eq_true rfl) (cy3) ?_
    have hPy3 := cy3.1.1
    refine Y_aload_n (pc := 22) (j := 0) dX6_askNullness_22 rfl rfl ?_
    refine Y_aload_n (pc := 23) (j := 1) dX6_askNullness_23 rfl rfl ?_
    refine Y_iconst (pc := 24) (v := (1 : Int32)) dX6_askNullness_24 rfl ?_
    refine Y_iconst (pc := 25) (v := (2 : Int32)) dX6_askNullness_25 rfl ?_
    obtain ⟨y4, qy4, h⟩ := bindE h
    have cy4 := v_X6_learn hPy3 qy4
    refine C_V3o (pc := 26) (k' := k_X6_learn) dX6_askNullness_26 w6_163 i_X6_learn (lk_48 hPy3) ⟨Nat.le_of_ble_eq_true rfl, Nat.le_of_ble_eq_true rfl⟩ rfl (Nat.le_of_ble_eq_true rfl) (Nat.le_of_ble_eq_true rfl) (Nat.le_of_ble_eq_true rfl) (cy4) ?_
    have hPy4 := cy4.1.1
    cases h
    exact Y_vret (pc := 29) rfl dX6_askNullness_29 hPy4 ⟨rfl, rfl⟩
theorem v_X6_askNullness {x2 : Int32} {M z} (hP : Lay M) (h : d_X6_askNullness x2 M = some z) : CC Lay k_X6_askNullness [.ref 48, .ref 18, .int x2] M z.2 (Qv (none) z.2) xF :=
  CC.ofVV (by decide) rfl (Nat.le_of_ble_eq_true rfl) (b_X6_askNullness hP h)
theorem b_X6_askShape {x2 : Int32} {M z} (hP : Lay M) (h : d_X6_askShape x2 M = some z) : VV Lay k_X6_askShape 0 [(0, .ref 48), (1, .ref 18), (2, .int x2)] [] M z.2 (Qv (none) z.2) xF := by
  unfold d_X6_askShape at h
  refine Y_aload_n (pc := 0) (j := 0) dX6_askShape_0 rfl rfl ?_
  refine Y_aload_n (pc := 1) (j := 1) dX6_askShape_1 rfl rfl ?_
  refine Y_iload_n (pc := 2) (j := 2) dX6_askShape_2 rfl rfl ?_
  refine Y_bipush (pc := 3) (v := (8 : Int32)) dX6_askShape_3 rfl ?_
  obtain ⟨y1, qy1, h⟩ := bindE h
  have cy1 := v_X6_isKnown hP qy1
  refine C_V3r (pc := 5) (k' := k_X6_isKnown) dX6_askShape_5 w6_144 i_X6_isKnown (lk_48 hP) ⟨Nat.le_of_ble_eq_true rfl, Nat.le_of_ble_eq_true rfl⟩ rfl (Nat.le_of_ble_eq_true rfl) (Nat.le_of_ble_eq_true rfl) (Nat.le_of_ble_eq_true rfl) (cy1) ?_
  have hPy1 := cy1.1.1
  refine Y_if_ne (pc := 8) (tgt := 33) dX6_askShape_8 (by decide) (fun hc1 => ?_) (fun hc1 => ?_)
  · replace h := ifF hc1 h
    cases h
    exact Y_vret (pc := 33) rfl dX6_askShape_33 hPy1 ⟨rfl, rfl⟩
  · replace h := ifT hc1 h
    refine Y_aload_n (pc := 11) (j := 0) dX6_askShape_11 rfl rfl ?_
    refine Y_bipush (pc := 12) (v := (115 : Int32)) dX6_askShape_12 rfl ?_
    refine Y_iload_n (pc := 14) (j := 2) dX6_askShape_14 rfl rfl ?_
    refine Y_aload_n (pc := 15) (j := 1) dX6_askShape_15 rfl rfl ?_
    refine Y_bipush (pc := 16) (v := (115 : Int32)) dX6_askShape_16 rfl ?_
    refine Y_iload_n (pc := 18) (j := 2) dX6_askShape_18 rfl rfl ?_
    obtain ⟨y2, qy2, h⟩ := bindE h
    have cy2 := v_X3_answerTo (Or.inl rfl) hPy1 qy2
    refine C_V2r (pc := 19) (k' := k_X3_answerTo) dX6_askShape_19 w6_157 i_X3_answerTo (lk_18 hPy1) ⟨Nat.le_of_ble_eq_true rfl, Nat.le_of_ble_eq_true rfl⟩ rfl (Nat.le_of_ble_eq_true rfl) (Nat.le_of_ble_eq_true rfl) (Nat.le_of_ble_eq_true rfl) (cy2) ?_
    have hPy2 := cy2.1.1
    obtain ⟨y3, qy3, h⟩ := bindE h
    have cy3 := v_X6_ask hPy2 qy3
    refine C_V3o (pc := 22) (k' := k_X6_ask) dX6_askShape_22 w6_158 i_X6_ask (lk_48 hPy2) ⟨Nat.le_of_ble_eq_true rfl, Nat.le_of_ble_eq_true rfl⟩ rfl (Nat.le_of_ble_eq_true rfl) (Nat.le_of_ble_eq_true rfl) (Nat.le_of_ble_eq_true rfl) (cy3) ?_
    have hPy3 := cy3.1.1
    refine Y_aload_n (pc := 25) (j := 0) dX6_askShape_25 rfl rfl ?_
    refine Y_aload_n (pc := 26) (j := 1) dX6_askShape_26 rfl rfl ?_
    refine Y_iload_n (pc := 27) (j := 2) dX6_askShape_27 rfl rfl ?_
    refine Y_bipush (pc := 28) (v := (11 : Int32)) dX6_askShape_28 rfl ?_
    obtain ⟨y4, qy4, h⟩ := bindE h
    have cy4 := v_X6_learn hPy3 qy4
    refine C_V3o (pc := 30) (k' := k_X6_learn) dX6_askShape_30 w6_163 i_X6_learn (lk_48 hPy3) ⟨Nat.le_of_ble_eq_true rfl, Nat.le_of_ble_eq_true rfl⟩ rfl (Nat.le_of_ble_eq_true rfl) (Nat.le_of_ble_eq_true rfl) (Nat.le_of_ble_eq_true rfl) (cy4) ?_
    have hPy4 := cy4.1.1
    cases h
    exact Y_vret (pc := 33) rfl dX6_askShape_33 hPy4 ⟨rfl, rfl⟩
theorem v_X6_askShape {x2 : Int32} {M z} (hP : Lay M) (h : d_X6_askShape x2 M = some z) : CC Lay k_X6_askShape [.ref 48, .ref 18, .int x2] M z.2 (Qv (none) z.2) xF :=
  CC.ofVV (by decide) rfl (Nat.le_of_ble_eq_true rfl) (b_X6_askShape hP h)
theorem b_X6_forgetOtherShapes_22b {k22 : (Int32) → Mem → Option (Unit × Mem)} {x2 : Int32} {M z} (hk22 : ∀ (a : (Int32)) (M : Mem) (z : Unit × Mem), Lay M → k22 a M = some z → VV Lay k_X6_forgetOtherShapes 22 [(0, .ref 48), (1, .ref 18), (2, .int a)] [] M z.2 (Qv (none) z.2) xF) (hP : Lay M) (h : d_X6_forgetOtherShapes_22b k22 x2 M = some z) : VV Lay k_X6_forgetOtherShapes 22 [(0, .ref 48), (1, .ref 18), (2, .int x2)] [] M z.2 (Qv (none) z.2) xF := by
  unfold d_X6_forgetOtherShapes_22b at h
  refine Y_iload_n (pc := 22) (j := 2) dX6_forgetOtherShapes_22 rfl rfl ?_
  refine Y_aload_n (pc := 23) (j := 0) dX6_forgetOtherShapes_23 rfl rfl ?_
  refine Z_geti (pc := 24) dX6_forgetOtherShapes_24 w2_65 (lk_48 hP) fi_6_9 ?_
  refine Y_icmp_ge (pc := 27) (tgt := 47) dX6_forgetOtherShapes_27 (by decide) (fun hc1 => ?_) (fun hc1 => ?_)
  · replace h := ifT hc1 h
    refine Y_aload_n (pc := 47) (j := 0) dX6_forgetOtherShapes_47 rfl rfl ?_
    refine Y_aload_n (pc := 48) (j := 1) dX6_forgetOtherShapes_48 rfl rfl ?_
    refine Y_iconst (pc := 49) (v := (2 : Int32)) dX6_forgetOtherShapes_49 rfl ?_
    refine Y_bipush (pc := 50) (v := (8 : Int32)) dX6_forgetOtherShapes_50 rfl ?_
    obtain ⟨y1, qy1, h⟩ := bindE h
    have cy1 := v_X6_learn hP qy1
    refine C_V3o (pc := 52) (k' := k_X6_learn) dX6_forgetOtherShapes_52 w6_163 i_X6_learn (lk_48 hP) ⟨Nat.le_of_ble_eq_true rfl, Nat.le_of_ble_eq_true rfl⟩ rfl (Nat.le_of_ble_eq_true rfl) (Nat.le_of_ble_eq_true rfl) (Nat.le_of_ble_eq_true rfl) (cy1) ?_
    have hPy1 := cy1.1.1
    cases h
    exact Y_vret (pc := 55) rfl dX6_forgetOtherShapes_55 hPy1 ⟨rfl, rfl⟩
  · replace h := ifF hc1 h
    refine Y_aload_n (pc := 30) (j := 0) dX6_forgetOtherShapes_30 rfl rfl ?_
    refine Z_getr (pc := 31) dX6_forgetOtherShapes_31 w2_59 (lk_48 hP) fr_6_6 (lr_48_6 hP) ?_
    refine Y_iload_n (pc := 34) (j := 2) dX6_forgetOtherShapes_34 rfl rfl ?_
    refine Y_dup2 (pc := 35) dX6_forgetOtherShapes_35 rfl rfl ?_
    obtain ⟨hb1, h⟩ := okE h
    refine Y_iald (pc := 36) dX6_forgetOtherShapes_36 (lk_55 hP) (ln_55 hP) hb1 ?_
    refine Y_bipush (pc := 37) (v := (-9 : Int32)) dX6_forgetOtherShapes_37 rfl ?_
    refine Y_iand (pc := 39) dX6_forgetOtherShapes_39 ?_
    obtain ⟨hb2, h⟩ := okE h
    refine Y_iast (pc := 40) dX6_forgetOtherShapes_40 (lk_55 hP) (ln_55 hP) hb2 ?_
    obtain ⟨M1, eM1, h⟩ := bndE h
    refine VV.mem eM1 ?_
    have hP1 := hP.wI eM1
    obtain ⟨b1, eb1, h⟩ := bndE h
    refine Y_iinc (pc := 41) (j := 2) (v := b1) (lv1 := [(2, .int b1), (0, .ref 48), (1, .ref 18)]) dX6_forgetOtherShapes_41 rfl eb1.symm (by decide) rfl ?_
    refine Y_goto (pc := 44) (tgt := 22) dX6_forgetOtherShapes_44 (by decide) ?_
    refine VV.sub [1, 2, 0] rfl ?_
    exact hk22 _ _ _ hP1 h
theorem b_X6_forgetOtherShapes_22 (n : Nat) : ∀ (a : (Int32)) (M : Mem) (z : Unit × Mem), d_X6_forgetOtherShapes_22 n a M = some z → Lay M → VV Lay k_X6_forgetOtherShapes 22 [(0, .ref 48), (1, .ref 18), (2, .int a)] [] M z.2 (Qv (none) z.2) xF :=
  lp_ind (G := fun (a : (Int32)) (M : Mem) (z : Unit × Mem) => Lay M → VV Lay k_X6_forgetOtherShapes 22 [(0, .ref 48), (1, .ref 18), (2, .int a)] [] M z.2 (Qv (none) z.2) xF) (fun k hk a M z h hP => b_X6_forgetOtherShapes_22b  (fun a M z hP h => hk a M z h hP) hP h) n
theorem b_X6_forgetOtherShapes {M z} (hP : Lay M) (h : d_X6_forgetOtherShapes M = some z) : VV Lay k_X6_forgetOtherShapes 0 [(0, .ref 48), (1, .ref 18)] [] M z.2 (Qv (none) z.2) xF := by
  unfold d_X6_forgetOtherShapes at h
  refine Y_aload_n (pc := 0) (j := 1) dX6_forgetOtherShapes_0 rfl rfl ?_
  refine Z_getr (pc := 1) dX6_forgetOtherShapes_1 w1_170 (lk_18 hP) fr_4_1 (lr_18_1 hP) ?_
  refine Y_aload_n (pc := 4) (j := 1) dX6_forgetOtherShapes_4 rfl rfl ?_
  refine Y_iconst (pc := 5) (v := (2 : Int32)) dX6_forgetOtherShapes_5 rfl ?_
  obtain ⟨y1, qy1, h⟩ := bindE h
  have cy1 := v_X3_shapeFromTop (Or.inl rfl) hP qy1
  refine C_V1r (pc := 6) (k' := k_X3_shapeFromTop) dX6_forgetOtherShapes_6 w6_179 i_X3_shapeFromTop (lk_18 hP) ⟨Nat.le_of_ble_eq_true rfl, Nat.le_of_ble_eq_true rfl⟩ rfl (Nat.le_of_ble_eq_true rfl) (Nat.le_of_ble_eq_true rfl) (Nat.le_of_ble_eq_true rfl) (cy1) ?_
  have hPy1 := cy1.1.1
  refine Y_aload_n (pc := 9) (j := 1) dX6_forgetOtherShapes_9 rfl rfl ?_
  refine Z_geti (pc := 10) dX6_forgetOtherShapes_10 w1_182 (lk_18 hPy1) fi_4_8 ?_
  obtain ⟨y2, qy2, h⟩ := bindE h
  have cy2 := v_X7_has hPy1 qy2
  refine C_V2r (pc := 13) (k' := k_X7_has) dX6_forgetOtherShapes_13 w6_180 i_X7_has (lk_11 hPy1) ⟨Nat.le_of_ble_eq_true rfl, Nat.le_of_ble_eq_true rfl⟩ rfl (Nat.le_of_ble_eq_true rfl) (Nat.le_of_ble_eq_true rfl) (Nat.le_of_ble_eq_true rfl) (cy2) ?_
  have hPy2 := cy2.1.1
  refine Y_if_eq (pc := 16) (tgt := 20) dX6_forgetOtherShapes_16 (by decide) (fun hc1 => ?_) (fun hc1 => ?_)
  · replace h := ifT hc1 h
    refine Y_iconst (pc := 20) (v := (0 : Int32)) dX6_forgetOtherShapes_20 rfl ?_
    refine Y_istore_n (pc := 21) (lv1 := [(2, .int (0 : Int32)), (0, .ref 48), (1, .ref 18)]) dX6_forgetOtherShapes_21 rfl (by decide) rfl ?_
    refine VV.sub [1, 2, 0] rfl ?_
    exact b_X6_forgetOtherShapes_22  fuel _ _ _ h hPy2
  · replace h := ifF hc1 h
    cases h
    exact Y_vret (pc := 19) rfl dX6_forgetOtherShapes_19 hPy2 ⟨rfl, rfl⟩
theorem v_X6_forgetOtherShapes {M z} (hP : Lay M) (h : d_X6_forgetOtherShapes M = some z) : CC Lay k_X6_forgetOtherShapes [.ref 48, .ref 18] M z.2 (Qv (none) z.2) xF :=
  CC.ofVV (by decide) rfl (Nat.le_of_ble_eq_true rfl) (b_X6_forgetOtherShapes hP h)
theorem b_X6_noteTwoValues_102 {x2 : Int32} {M z} (hP : Lay M) (h : d_X6_noteTwoValues_102 x2 M = some z) : VV Lay k_X6_noteTwoValues 102 [(0, .ref 48), (1, .ref 18), (2, .int x2)] [] M z.2 (Qv (none) z.2) xF := by
  unfold d_X6_noteTwoValues_102 at h
  refine Y_ldcS (pc := 102) (i := 4) dX6_noteTwoValues_102 rfl ?_
  refine Y_iload_n (pc := 104) (j := 2) dX6_noteTwoValues_104 rfl rfl ?_
  refine Y_indexOf (pc := 105) dX6_noteTwoValues_105 w6_186 (i := 4) (by decide) (Nat.le_of_ble_eq_true rfl) (Nat.le_of_ble_eq_true rfl) (Nat.le_of_ble_eq_true rfl) ?_
  refine Y_if_lt (pc := 108) (tgt := 125) dX6_noteTwoValues_108 (by decide) (fun hc1 => ?_) (fun hc1 => ?_)
  · replace h := ifT hc1 h
    cases h
    exact Y_vret (pc := 125) rfl dX6_noteTwoValues_125 hP ⟨rfl, rfl⟩
  · replace h := ifF hc1 h
    refine Y_aload_n (pc := 111) (j := 0) dX6_noteTwoValues_111 rfl rfl ?_
    refine Y_bipush (pc := 112) (v := (111 : Int32)) dX6_noteTwoValues_112 rfl ?_
    refine Y_iconst (pc := 114) (v := (2 : Int32)) dX6_noteTwoValues_114 rfl ?_
    refine Y_aload_n (pc := 115) (j := 1) dX6_noteTwoValues_115 rfl rfl ?_
    refine Y_bipush (pc := 116) (v := (111 : Int32)) dX6_noteTwoValues_116 rfl ?_
    refine Y_iconst (pc := 118) (v := (2 : Int32)) dX6_noteTwoValues_118 rfl ?_
    obtain ⟨y1, qy1, h⟩ := bindE h
    have cy1 := v_X3_answerTo (Or.inl rfl) hP qy1
    refine C_V2r (pc := 119) (k' := k_X3_answerTo) dX6_noteTwoValues_119 w6_157 i_X3_answerTo (lk_18 hP) ⟨Nat.le_of_ble_eq_true rfl, Nat.le_of_ble_eq_true rfl⟩ rfl (Nat.le_of_ble_eq_true rfl) (Nat.le_of_ble_eq_true rfl) (Nat.le_of_ble_eq_true rfl) (cy1) ?_
    have hPy1 := cy1.1.1
    obtain ⟨y2, qy2, h⟩ := bindE h
    have cy2 := v_X6_ask hPy1 qy2
    refine C_V3o (pc := 122) (k' := k_X6_ask) dX6_noteTwoValues_122 w6_158 i_X6_ask (lk_48 hPy1) ⟨Nat.le_of_ble_eq_true rfl, Nat.le_of_ble_eq_true rfl⟩ rfl (Nat.le_of_ble_eq_true rfl) (Nat.le_of_ble_eq_true rfl) (Nat.le_of_ble_eq_true rfl) (cy2) ?_
    have hPy2 := cy2.1.1
    cases h
    exact Y_vret (pc := 125) rfl dX6_noteTwoValues_125 hPy2 ⟨rfl, rfl⟩
theorem b_X6_noteTwoValues_95 {x2 : Int32} {M z} (hP : Lay M) (h : d_X6_noteTwoValues_95 x2 M = some z) : VV Lay k_X6_noteTwoValues 95 [(0, .ref 48), (1, .ref 18), (2, .int x2)] [] M z.2 (Qv (none) z.2) xF := by
  unfold d_X6_noteTwoValues_95 at h
  refine Y_aload_n (pc := 95) (j := 0) dX6_noteTwoValues_95 rfl rfl ?_
  refine Y_aload_n (pc := 96) (j := 1) dX6_noteTwoValues_96 rfl rfl ?_
  refine Y_bipush (pc := 97) (v := (122 : Int32)) dX6_noteTwoValues_97 rfl ?_
  obtain ⟨y1, qy1, h⟩ := bindE h
  have cy1 := v_X6_askNullness hP qy1
  refine C_V2o (pc := 99) (k' := k_X6_askNullness) dX6_noteTwoValues_99 w6_167 i_X6_askNullness (lk_48 hP) ⟨Nat.le_of_ble_eq_true rfl, Nat.le_of_ble_eq_true rfl⟩ rfl (Nat.le_of_ble_eq_true rfl) (Nat.le_of_ble_eq_true rfl) (Nat.le_of_ble_eq_true rfl) (cy1) ?_
  have hPy1 := cy1.1.1
  refine VV.sub [0, 1, 2] rfl ?_
  exact b_X6_noteTwoValues_102  hPy1 h
theorem b_X6_noteTwoValues_35 {x2 : Int32} {s0 : Int32} {M z} (hP : Lay M) (h : d_X6_noteTwoValues_35 x2 s0 M = some z) : VV Lay k_X6_noteTwoValues 35 [(0, .ref 48), (1, .ref 18), (2, .int x2)] [.int s0] M z.2 (Qv (none) z.2) xF := by
  unfold d_X6_noteTwoValues_35 at h
  refine Y_istore_n (pc := 35) (lv1 := [(3, .int s0), (0, .ref 48), (1, .ref 18), (2, .int x2)]) dX6_noteTwoValues_35 rfl (by decide) rfl ?_
  refine Y_aload_n (pc := 36) (j := 1) dX6_noteTwoValues_36 rfl rfl ?_
  refine Y_aload_n (pc := 37) (j := 1) dX6_noteTwoValues_37 rfl rfl ?_
  refine Y_iload_n (pc := 38) (j := 0) dX6_noteTwoValues_38 rfl rfl ?_
  obtain ⟨y1, qy1, h⟩ := bindE h
  have cy1 := v_X6_madeOf hP qy1
  refine C_V1r (pc := 39) (k' := k_X6_madeOf) dX6_noteTwoValues_39 w6_149 i_X6_madeOf (lk_48 hP) ⟨Nat.le_of_ble_eq_true rfl, Nat.le_of_ble_eq_true rfl⟩ rfl (Nat.le_of_ble_eq_true rfl) (Nat.le_of_ble_eq_true rfl) (Nat.le_of_ble_eq_true rfl) (cy1) ?_
  have hPy1 := cy1.1.1
  refine Z_puti (pc := 42) dX6_noteTwoValues_42 w2_77 (lk_48 hPy1) fi_6_15 (Or.inl rfl) rfl ?_
  obtain ⟨M1, eM1, h⟩ := bndE h
  refine VV.mem eM1 ?_
  have hP1 := hPy1.wI eM1
  refine Y_iload_n (pc := 45) (j := 0) dX6_noteTwoValues_45 rfl rfl ?_
  refine Y_if_eq (pc := 46) (tgt := 50) dX6_noteTwoValues_46 (by decide) (fun hc1 => ?_) (fun hc1 => ?_)
  · replace h := ifT hc1 h
    refine Y_aload_n (pc := 50) (j := 1) dX6_noteTwoValues_50 rfl rfl ?_
    refine Y_aload_n (pc := 51) (j := 2) dX6_noteTwoValues_51 rfl rfl ?_
    refine Y_iconst (pc := 52) (v := (2 : Int32)) dX6_noteTwoValues_52 rfl ?_
    obtain ⟨y2, qy2, h⟩ := bindE h
    have cy2 := v_X6_askKind hP1 qy2
    refine C_V2o (pc := 53) (k' := k_X6_askKind) dX6_noteTwoValues_53 w6_153 i_X6_askKind (lk_48 hP1) ⟨Nat.le_of_ble_eq_true rfl, Nat.le_of_ble_eq_true rfl⟩ rfl (Nat.le_of_ble_eq_true rfl) (Nat.le_of_ble_eq_true rfl) (Nat.le_of_ble_eq_true rfl) (cy2) ?_
    have hPy2 := cy2.1.1
    refine Y_aload_n (pc := 56) (j := 1) dX6_noteTwoValues_56 rfl rfl ?_
    refine Y_aload_n (pc := 57) (j := 2) dX6_noteTwoValues_57 rfl rfl ?_
    refine Y_iconst (pc := 58) (v := (1 : Int32)) dX6_noteTwoValues_58 rfl ?_
    obtain ⟨y3, qy3, h⟩ := bindE h
    have cy3 := v_X6_askKind hPy2 qy3
    refine C_V2o (pc := 59) (k' := k_X6_askKind) dX6_noteTwoValues_59 w6_153 i_X6_askKind (lk_48 hPy2) ⟨Nat.le_of_ble_eq_true rfl, Nat.le_of_ble_eq_true rfl⟩ rfl (Nat.le_of_ble_eq_true rfl) (Nat.le_of_ble_eq_true rfl) (Nat.le_of_ble_eq_true rfl) (cy3) ?_
    have hPy3 := cy3.1.1
    refine Y_aload_n (pc := 62) (j := 2) dX6_noteTwoValues_62 rfl rfl ?_
    refine Z_getr (pc := 63) dX6_noteTwoValues_63 w1_172 (lk_18 hPy3) fr_4_2 (lr_18_2 hPy3) ?_
    refine Y_aload_n (pc := 66) (j := 2) dX6_noteTwoValues_66 rfl rfl ?_
    refine Y_iconst (pc := 67) (v := (2 : Int32)) dX6_noteTwoValues_67 rfl ?_
    obtain ⟨y4, qy4, h⟩ := bindE h
    have cy4 := v_X3_fromTop (Or.inl rfl) hPy3 qy4
    refine C_V1r (pc := 68) (k' := k_X3_fromTop) dX6_noteTwoValues_68 w6_148 i_X3_fromTop (lk_18 hPy3) ⟨Nat.le_of_ble_eq_true rfl, Nat.le_of_ble_eq_true rfl⟩ rfl (Nat.le_of_ble_eq_true rfl) (Nat.le_of_ble_eq_true rfl) (Nat.le_of_ble_eq_true rfl) (cy4) ?_
    have hPy4 := cy4.1.1
    refine Y_aload_n (pc := 71) (j := 2) dX6_noteTwoValues_71 rfl rfl ?_
    refine Y_iconst (pc := 72) (v := (1 : Int32)) dX6_noteTwoValues_72 rfl ?_
    obtain ⟨y5, qy5, h⟩ := bindE h
    have cy5 := v_X3_fromTop (Or.inl rfl) hPy4 qy5
    refine C_V1r (pc := 73) (k' := k_X3_fromTop) dX6_noteTwoValues_73 w6_148 i_X3_fromTop (lk_18 hPy4) ⟨Nat.le_of_ble_eq_true rfl, Nat.le_of_ble_eq_true rfl⟩ rfl (Nat.le_of_ble_eq_true rfl) (Nat.le_of_ble_eq_true rfl) (Nat.le_of_ble_eq_true rfl) (cy5) ?_
    have hPy5 := cy5.1.1
    obtain ⟨y6, qy6, h⟩ := bindE h
    have cy6 := v_X8_areIntegers (Or.inl rfl) hPy5 qy6
    refine C_V2r (pc := 76) (k' := k_X8_areIntegers) dX6_noteTwoValues_76 w6_187 i_X8_areIntegers (lk_19 hPy5) ⟨Nat.le_of_ble_eq_true rfl, Nat.le_of_ble_eq_true rfl⟩ rfl (Nat.le_of_ble_eq_true rfl) (Nat.le_of_ble_eq_true rfl) (Nat.le_of_ble_eq_true rfl) (cy6) ?_
    have hPy6 := cy6.1.1
    refine Y_if_ne (pc := 79) (tgt := 83) dX6_noteTwoValues_79 (by decide) (fun hc2 => ?_) (fun hc2 => ?_)
    · replace h := ifF hc2 h
      refine Y_iload_n (pc := 83) (j := 3) dX6_noteTwoValues_83 rfl rfl ?_
      refine Y_bipush (pc := 84) (v := (47 : Int32)) dX6_noteTwoValues_84 rfl ?_
      refine Y_icmp_eq (pc := 86) (tgt := 95) dX6_noteTwoValues_86 (by decide) (fun hc3 => ?_) (fun hc3 => ?_)
      · replace h := ifT hc3 h
        refine VV.sub [1, 2, 3] rfl ?_
        exact b_X6_noteTwoValues_95  hPy6 h
      · replace h := ifF hc3 h
        refine Y_iload_n (pc := 89) (j := 3) dX6_noteTwoValues_89 rfl rfl ?_
        refine Y_bipush (pc := 90) (v := (37 : Int32)) dX6_noteTwoValues_90 rfl ?_
        refine Y_icmp_ne (pc := 92) (tgt := 102) dX6_noteTwoValues_92 (by decide) (fun hc4 => ?_) (fun hc4 => ?_)
        · replace h := ifF hc4 h
          refine VV.sub [1, 2, 3] rfl ?_
          exact b_X6_noteTwoValues_102  hPy6 h
        · replace h := ifT hc4 h
          refine VV.sub [1, 2, 3] rfl ?_
          exact b_X6_noteTwoValues_95  hPy6 h
    · replace h := ifT hc2 h
      cases h
      exact Y_vret (pc := 82) rfl dX6_noteTwoValues_82 hPy6 ⟨rfl, rfl⟩
  · replace h := ifF hc1 h
    cases h
    exact Y_vret (pc := 49) rfl dX6_noteTwoValues_49 hP1 ⟨rfl, rfl⟩
theorem b_X6_noteTwoValues_34 {x2 : Int32} {M z} (hP : Lay M) (h : d_X6_noteTwoValues_34 x2 M = some z) : VV Lay k_X6_noteTwoValues 34 [(0, .ref 48), (1, .ref 18), (2, .int x2)] [] M z.2 (Qv (none) z.2) xF := by
  unfold d_X6_noteTwoValues_34 at h
  refine Y_iconst (pc := 34) (v := (0 : Int32)) dX6_noteTwoValues_34 rfl ?_
  refine VV.sub [0, 1, 2] rfl ?_
  exact b_X6_noteTwoValues_35  hP h
theorem b_X6_noteTwoValues {x2 : Int32} {M z} (hP : Lay M) (h : d_X6_noteTwoValues x2 M = some z) : VV Lay k_X6_noteTwoValues 0 [(0, .ref 48), (1, .ref 18), (2, .int x2)] [] M z.2 (Qv (none) z.2) xF := by
  unfold d_X6_noteTwoValues at h
  refine Y_ldcS (pc := 0) (i := 3) dX6_noteTwoValues_0 rfl ?_
  refine Y_iload_n (pc := 2) (j := 2) dX6_noteTwoValues_2 rfl rfl ?_
  refine Y_indexOf (pc := 3) dX6_noteTwoValues_3 w6_186 (i := 3) (by decide) (Nat.le_of_ble_eq_true rfl) (Nat.le_of_ble_eq_true rfl) (Nat.le_of_ble_eq_true rfl) ?_
  refine Y_if_ge (pc := 6) (tgt := 10) dX6_noteTwoValues_6 (by decide) (fun hc1 => ?_) (fun hc1 => ?_)
  · replace h := ifT hc1 h
    refine Y_aload_n (pc := 10) (j := 0) dX6_noteTwoValues_10 rfl rfl ?_
    refine Y_aload_n (pc := 11) (j := 1) dX6_noteTwoValues_11 rfl rfl ?_
    refine Y_iconst (pc := 12) (v := (2 : Int32)) dX6_noteTwoValues_12 rfl ?_
    refine Y_iconst (pc := 13) (v := (4 : Int32)) dX6_noteTwoValues_13 rfl ?_
    obtain ⟨y1, qy1, h⟩ := bindE h
    have cy1 := v_X6_isKnown hP qy1
    refine C_V3r (pc := 14) (k' := k_X6_isKnown) dX6_noteTwoValues_14 w6_144 i_X6_isKnown (lk_48 hP) ⟨Nat.le_of_ble_eq_true rfl, Nat.le_of_ble_eq_true rfl⟩ rfl (Nat.le_of_ble_eq_true rfl) (Nat.le_of_ble_eq_true rfl) (Nat.le_of_ble_eq_true rfl) (cy1) ?_
    have hPy1 := cy1.1.1
    refine Y_if_eq (pc := 17) (tgt := 34) dX6_noteTwoValues_17 (by decide) (fun hc2 => ?_) (fun hc2 => ?_)
    · replace h := ifT hc2 h
      refine VV.sub [0, 1, 2] rfl ?_
      exact b_X6_noteTwoValues_34  hPy1 h
    · replace h := ifF hc2 h
      refine Y_aload_n (pc := 20) (j := 0) dX6_noteTwoValues_20 rfl rfl ?_
      refine Y_aload_n (pc := 21) (j := 1) dX6_noteTwoValues_21 rfl rfl ?_
      refine Y_iconst (pc := 22) (v := (1 : Int32)) dX6_noteTwoValues_22 rfl ?_
      refine Y_iconst (pc := 23) (v := (4 : Int32)) dX6_noteTwoValues_23 rfl ?_
      obtain ⟨y2, qy2, h⟩ := bindE h
      have cy2 := v_X6_isKnown hPy1 qy2
      refine C_V3r (pc := 24) (k' := k_X6_isKnown) dX6_noteTwoValues_24 w6_144 i_X6_isKnown (lk_48 hPy1) ⟨Nat.le_of_ble_eq_true rfl, Nat.le_of_ble_eq_true rfl⟩ rfl (Nat.le_of_ble_eq_true rfl) (Nat.le_of_ble_eq_true rfl) (Nat.le_of_ble_eq_true rfl) (cy2) ?_
      have hPy2 := cy2.1.1
      refine Y_if_eq (pc := 27) (tgt := 34) dX6_noteTwoValues_27 (by decide) (fun hc3 => ?_) (fun hc3 => ?_)
      · replace h := ifT hc3 h
        refine VV.sub [0, 1, 2] rfl ?_
        exact b_X6_noteTwoValues_34  hPy2 h
      · replace h := ifF hc3 h
        refine Y_iconst (pc := 30) (v := (1 : Int32)) dX6_noteTwoValues_30 rfl ?_
        refine Y_goto (pc := 31) (tgt := 35) dX6_noteTwoValues_31 (by decide) ?_
        refine VV.sub [0, 1, 2] rfl ?_
        exact b_X6_noteTwoValues_35  hPy2 h
  · replace h := ifF hc1 h
    cases h
    exact Y_vret (pc := 9) rfl dX6_noteTwoValues_9 hP ⟨rfl, rfl⟩
theorem v_X6_noteTwoValues {x2 : Int32} {M z} (hP : Lay M) (h : d_X6_noteTwoValues x2 M = some z) : CC Lay k_X6_noteTwoValues [.ref 48, .ref 18, .int x2] M z.2 (Qv (none) z.2) xF :=
  CC.ofVV (by decide) rfl (Nat.le_of_ble_eq_true rfl) (b_X6_noteTwoValues hP h)
end VCR

