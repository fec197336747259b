/-! ===== what the methods reckon (printed by a program) ===== -/
section VCR
set_option maxRecDepth 20000 in
theorem b_X3_pushes {o : Nat} {x1 : Int32} {M z} (ho : o = 18 ∨ o = 28) (hP : Lay M) (h : d_X3_pushes o x1 M = some z) : VV Lay k_X3_pushes 0 [(0, .ref o), (1, .int x1)] [] M z.2 (Qv (some (.int z.1)) z.2) xF := by
  unfold d_X3_pushes at h
  refine Y_iload_n (pc := 0) (j := 1) dX3_pushes_0 rfl rfl ?_
  refine Y_table (pc := 1) dX3_pushes_1 [(99, 112), (100, 112), (101, 116), (102, 116), (103, 116), (104, 116), (105, 116), (106, 112), (107, 116), (108, 116), (109, 112), (110, 116), (111, 116), (112, 112), (113, 116), (114, 112), (115, 112), (116, 112), (117, 114), (118, 116), (119, 116), (120, 116), (121, 116), (122, 112)] 116 (by decide) (tab_ok (by decide +kernel)) (by decide) ?_ ?_
  · refine xs_cons ?_ <| xs_cons ?_ <| xs_cons ?_ <| xs_cons ?_ <| xs_cons ?_ <| xs_cons ?_ <| xs_cons ?_ <| xs_cons ?_ <| xs_cons ?_ <| xs_cons ?_ <| xs_cons ?_ <| xs_cons ?_ <| xs_cons ?_ <| xs_cons ?_ <| xs_cons ?_ <| xs_cons ?_ <| xs_cons ?_ <| xs_cons ?_ <| xs_cons ?_ <| xs_cons ?_ <| xs_cons ?_ <| xs_cons ?_ <| xs_cons ?_ <| xs_cons ?_ <| xs_nil
    · intro e9
      replace h := ifT (by rw [e9] <;> decide) h
      refine Y_iconst (pc := 112) (v := (0 : Int32)) dX3_pushes_112 rfl ?_
      cases h
      exact Y_iret (pc := 113) rfl rfl dX3_pushes_113 hP ⟨rfl, rfl⟩
    · intro e9
      replace h := ifT (by rw [e9] <;> decide) h
      refine Y_iconst (pc := 112) (v := (0 : Int32)) dX3_pushes_112 rfl ?_
      cases h
      exact Y_iret (pc := 113) rfl rfl dX3_pushes_113 hP ⟨rfl, rfl⟩
    · intro e9
      replace h := ifF (by rw [e9] <;> decide) h
      replace h := ifF (by rw [e9] <;> decide) h
      refine Y_iconst (pc := 116) (v := (1 : Int32)) dX3_pushes_116 rfl ?_
      cases h
      exact Y_iret (pc := 117) rfl rfl dX3_pushes_117 hP ⟨rfl, rfl⟩
    · intro e9
      replace h := ifF (by rw [e9] <;> decide) h
      replace h := ifF (by rw [e9] <;> decide) h
      refine Y_iconst (pc := 116) (v := (1 : Int32)) dX3_pushes_116 rfl ?_
      cases h
      exact Y_iret (pc := 117) rfl rfl dX3_pushes_117 hP ⟨rfl, rfl⟩
    · intro e9
      replace h := ifF (by rw [e9] <;> decide) h
      replace h := ifF (by rw [e9] <;> decide) h
      refine Y_iconst (pc := 116) (v := (1 : Int32)) dX3_pushes_116 rfl ?_
      cases h
      exact Y_iret (pc := 117) rfl rfl dX3_pushes_117 hP ⟨rfl, rfl⟩
    · intro e9
      replace h := ifF (by rw [e9] <;> decide) h
      replace h := ifF (by rw [e9] <;> decide) h
      refine Y_iconst (pc := 116) (v := (1 : Int32)) dX3_pushes_116 rfl ?_
      cases h
      exact Y_iret (pc := 117) rfl rfl dX3_pushes_117 hP ⟨rfl, rfl⟩
    · intro e9
      replace h := ifF (by rw [e9] <;> decide) h
      replace h := ifF (by rw [e9] <;> decide) h
      refine Y_iconst (pc := 116) (v := (1 : Int32)) dX3_pushes_116 rfl ?_
      cases h
      exact Y_iret (pc := 117) rfl rfl dX3_pushes_117 hP ⟨rfl, rfl⟩
    · intro e9
      replace h := ifT (by rw [e9] <;> decide) h
      refine Y_iconst (pc := 112) (v := (0 : Int32)) dX3_pushes_112 rfl ?_
      cases h
      exact Y_iret (pc := 113) rfl rfl dX3_pushes_113 hP ⟨rfl, rfl⟩
    · intro e9
      replace h := ifF (by rw [e9] <;> decide) h
      replace h := ifF (by rw [e9] <;> decide) h
      refine Y_iconst (pc := 116) (v := (1 : Int32)) dX3_pushes_116 rfl ?_
      cases h
      exact Y_iret (pc := 117) rfl rfl dX3_pushes_117 hP ⟨rfl, rfl⟩
    · intro e9
      replace h := ifF (by rw [e9] <;> decide) h
      replace h := ifF (by rw [e9] <;> decide) h
      refine Y_iconst (pc := 116) (v := (1 : Int32)) dX3_pushes_116 rfl ?_
      cases h
      exact Y_iret (pc := 117) rfl rfl dX3_pushes_117 hP ⟨rfl, rfl⟩
    · intro e9
      replace h := ifT (by rw [e9] <;> decide) h
      refine Y_iconst (pc := 112) (v := (0 : Int32)) dX3_pushes_112 rfl ?_
      cases h
      exact Y_iret (pc := 113) rfl rfl dX3_pushes_113 hP ⟨rfl, rfl⟩
    · intro e9
      replace h := ifF (by rw [e9] <;> decide) h
      replace h := ifF (by rw [e9] <;> decide) h
      refine Y_iconst (pc := 116) (v := (1 : Int32)) dX3_pushes_116 rfl ?_
      cases h
      exact Y_iret (pc := 117) rfl rfl dX3_pushes_117 hP ⟨rfl, rfl⟩
    · intro e9
      replace h := ifF (by rw [e9] <;> decide) h
      replace h := ifF (by rw [e9] <;> decide) h
      refine Y_iconst (pc := 116) (v := (1 : Int32)) dX3_pushes_116 rfl ?_
      cases h
      exact Y_iret (pc := 117) rfl rfl dX3_pushes_117 hP ⟨rfl, rfl⟩
    · intro e9
      replace h := ifT (by rw [e9] <;> decide) h
      refine Y_iconst (pc := 112) (v := (0 : Int32)) dX3_pushes_112 rfl ?_
      cases h
      exact Y_iret (pc := 113) rfl rfl dX3_pushes_113 hP ⟨rfl, rfl⟩
    · intro e9
      replace h := ifF (by rw [e9] <;> decide) h
      replace h := ifF (by rw [e9] <;> decide) h
      refine Y_iconst (pc := 116) (v := (1 : Int32)) dX3_pushes_116 rfl ?_
      cases h
      exact Y_iret (pc := 117) rfl rfl dX3_pushes_117 hP ⟨rfl, rfl⟩
    · intro e9
      replace h := ifT (by rw [e9] <;> decide) h
      refine Y_iconst (pc := 112) (v := (0 : Int32)) dX3_pushes_112 rfl ?_
      cases h
      exact Y_iret (pc := 113) rfl rfl dX3_pushes_113 hP ⟨rfl, rfl⟩
    · intro e9
      replace h := ifT (by rw [e9] <;> decide) h
      refine Y_iconst (pc := 112) (v := (0 : Int32)) dX3_pushes_112 rfl ?_
      cases h
      exact Y_iret (pc := 113) rfl rfl dX3_pushes_113 hP ⟨rfl, rfl⟩
    · intro e9
      replace h := ifT (by rw [e9] <;> decide) h
      refine Y_iconst (pc := 112) (v := (0 : Int32)) dX3_pushes_112 rfl ?_
      cases h
      exact Y_iret (pc := 113) rfl rfl dX3_pushes_113 hP ⟨rfl, rfl⟩
    · intro e9
      replace h := ifF (by rw [e9] <;> decide) h
      replace h := ifT (by rw [e9] <;> decide) h
      refine Y_iconst (pc := 114) (v := (2 : Int32)) dX3_pushes_114 rfl ?_
      cases h
      exact Y_iret (pc := 115) rfl rfl dX3_pushes_115 hP ⟨rfl, rfl⟩
    · intro e9
      replace h := ifF (by rw [e9] <;> decide) h
      replace h := ifF (by rw [e9] <;> decide) h
      refine Y_iconst (pc := 116) (v := (1 : Int32)) dX3_pushes_116 rfl ?_
      cases h
      exact Y_iret (pc := 117) rfl rfl dX3_pushes_117 hP ⟨rfl, rfl⟩
    · intro e9
      replace h := ifF (by rw [e9] <;> decide) h
      replace h := ifF (by rw [e9] <;> decide) h
      refine Y_iconst (pc := 116) (v := (1 : Int32)) dX3_pushes_116 rfl ?_
      cases h
      exact Y_iret (pc := 117) rfl rfl dX3_pushes_117 hP ⟨rfl, rfl⟩
    · intro e9
      replace h := ifF (by rw [e9] <;> decide) h
      replace h := ifF (by rw [e9] <;> decide) h
      refine Y_iconst (pc := 116) (v := (1 : Int32)) dX3_pushes_116 rfl ?_
      cases h
      exact Y_iret (pc := 117) rfl rfl dX3_pushes_117 hP ⟨rfl, rfl⟩
    · intro e9
      replace h := ifF (by rw [e9] <;> decide) h
      replace h := ifF (by rw [e9] <;> decide) h
      refine Y_iconst (pc := 116) (v := (1 : Int32)) dX3_pushes_116 rfl ?_
      cases h
      exact Y_iret (pc := 117) rfl rfl dX3_pushes_117 hP ⟨rfl, rfl⟩
    · intro e9
      replace h := ifT (by rw [e9] <;> decide) h
      refine Y_iconst (pc := 112) (v := (0 : Int32)) dX3_pushes_112 rfl ?_
      cases h
      exact Y_iret (pc := 113) rfl rfl dX3_pushes_113 hP ⟨rfl, rfl⟩
  · intro n9
    replace h := ifF (fun q => q.elim (xs_no n9 (by decide : ((99 : Int32), 112) ∈ _)) (fun q => q.elim (xs_no n9 (by decide : ((100 : Int32), 112) ∈ _)) (fun q => q.elim (xs_no n9 (by decide : ((106 : Int32), 112) ∈ _)) (fun q => q.elim (xs_no n9 (by decide : ((109 : Int32), 112) ∈ _)) (fun q => q.elim (xs_no n9 (by decide : ((112 : Int32), 112) ∈ _)) (fun q => q.elim (xs_no n9 (by decide : ((114 : Int32), 112) ∈ _)) (fun q => q.elim (xs_no n9 (by decide : ((115 : Int32), 112) ∈ _)) (fun q => q.elim (xs_no n9 (by decide : ((116 : Int32), 112) ∈ _)) (xs_no n9 (by decide : ((122 : Int32), 112) ∈ _)))))))))) h
    replace h := ifF (xs_no n9 (by decide : ((117 : Int32), 114) ∈ _)) h
    refine Y_iconst (pc := 116) (v := (1 : Int32)) dX3_pushes_116 rfl ?_
    cases h
    exact Y_iret (pc := 117) rfl rfl dX3_pushes_117 hP ⟨rfl, rfl⟩
theorem v_X3_pushes {o : Nat} {x1 : Int32} {M z} (ho : o = 18 ∨ o = 28) (hP : Lay M) (h : d_X3_pushes o x1 M = some z) : CC Lay k_X3_pushes [.ref o, .int x1] M z.2 (Qv (some (.int z.1)) z.2) xF :=
  CC.ofVV (by decide) rfl (Nat.le_of_ble_eq_true rfl) (b_X3_pushes ho hP h)
theorem b_X3_failsByStack {o : Nat} {x1 : Int32} {x2 : Int32} {M z} (ho : o = 18 ∨ o = 28) (hP : Lay M) (h : d_X3_failsByStack o x1 x2 M = some z) : VV Lay k_X3_failsByStack 0 [(0, .ref o), (1, .int x1), (2, .int x2)] [] M z.2 (Qv (some (.int z.1)) z.2) xF := by
  unfold d_X3_failsByStack at h
  refine Y_aload_n (pc := 0) (j := 0) dX3_failsByStack_0 rfl rfl ?_
  refine Z_getr (pc := 1) dX3_failsByStack_1 w1_176 (lo_0 hP ho) fr_4_5 (lor_0_5 hP ho) ?_
  refine Y_aload_n (pc := 4) (j := 0) dX3_failsByStack_4 rfl rfl ?_
  refine Z_geti (pc := 5) dX3_failsByStack_5 w1_184 (lo_0 hP ho) fi_4_9 ?_
  refine Y_iconst (pc := 8) (v := (1 : Int32)) dX3_failsByStack_8 rfl ?_
  refine Y_isub (pc := 9) dX3_failsByStack_9 ?_
  obtain ⟨hb1, h⟩ := okE h
  refine Y_iald (pc := 10) dX3_failsByStack_10 (lo_8 hP ho) (lon_8 hP ho) hb1 ?_
  obtain ⟨b1, eb1, h⟩ := bndE h
  refine VV.topI eb1 ?_
  refine Y_istore_n (pc := 11) (lv1 := [(3, .int b1), (0, .ref o), (1, .int x1), (2, .int x2)]) dX3_failsByStack_11 rfl (by decide) rfl ?_
  refine Y_aload_n (pc := 12) (j := 1) dX3_failsByStack_12 rfl rfl ?_
  refine Y_iload_n (pc := 13) (j := 2) dX3_failsByStack_13 rfl rfl ?_
  refine Y_iload_n (pc := 14) (j := 3) dX3_failsByStack_14 rfl rfl ?_
  obtain ⟨y1, qy1, h⟩ := bindE h
  have cy1 := v_X3_takes ho hP qy1
  refine C_V2r (pc := 15) (k' := k_X3_takes) dX3_failsByStack_15 w5_92 i_X3_takes (lo_0 hP ho) ⟨Nat.le_of_ble_eq_true rfl, Nat.le_of_ble_eq_true rfl⟩ rfl (Nat.le_of_ble_eq_true rfl) (Nat.le_of_ble_eq_true rfl) (Nat.le_of_ble_eq_true rfl) (cy1) ?_
  have hPy1 := cy1.1.1
  refine Y_istore (pc := 18) (lv1 := [(4, .int y1.1), (3, .int b1), (0, .ref o), (1, .int x1), (2, .int x2)]) dX3_failsByStack_18 (by decide) rfl ?_
  refine Y_iload_n (pc := 20) (j := 1) dX3_failsByStack_20 rfl rfl ?_
  refine Y_iload (pc := 21) (j := 0) dX3_failsByStack_21 rfl ?_
  refine Y_icmp_lt (pc := 23) (tgt := 41) dX3_failsByStack_23 (by decide) (fun hc1 => ?_) (fun hc1 => ?_)
  · replace h := ifT hc1 h
    refine Y_iconst (pc := 41) (v := (1 : Int32)) dX3_failsByStack_41 rfl ?_
    cases h
    exact Y_iret (pc := 42) rfl (nar_bo (by decide)) dX3_failsByStack_42 hPy1 ⟨rfl, rfl⟩
  · replace h := ifF hc1 h
    refine Y_iload_n (pc := 26) (j := 1) dX3_failsByStack_26 rfl rfl ?_
    refine Y_iload (pc := 27) (j := 0) dX3_failsByStack_27 rfl ?_
    refine Y_isub (pc := 29) dX3_failsByStack_29 ?_
    refine Y_aload_n (pc := 30) (j := 2) dX3_failsByStack_30 rfl rfl ?_
    refine Y_iload_n (pc := 31) (j := 3) dX3_failsByStack_31 rfl rfl ?_
    obtain ⟨y2, qy2, h⟩ := bindE h
    have cy2 := v_X3_pushes ho hPy1 qy2
    refine C_V1r (pc := 32) (k' := k_X3_pushes) dX3_failsByStack_32 w5_98 i_X3_pushes (lo_0 hPy1 ho) ⟨Nat.le_of_ble_eq_true rfl, Nat.le_of_ble_eq_true rfl⟩ rfl (Nat.le_of_ble_eq_true rfl) (Nat.le_of_ble_eq_true rfl) (Nat.le_of_ble_eq_true rfl) (cy2) ?_
    have hPy2 := cy2.1.1
    refine Y_iadd (pc := 35) dX3_failsByStack_35 ?_
    refine Y_bipush (pc := 36) (v := (8 : Int32)) dX3_failsByStack_36 rfl ?_
    refine Y_icmp_le (pc := 38) (tgt := 43) dX3_failsByStack_38 (by decide) (fun hc2 => ?_) (fun hc2 => ?_)
    · replace h := ifT hc2 h
      refine Y_iload_n (pc := 43) (j := 3) dX3_failsByStack_43 rfl rfl ?_
      refine Y_bipush (pc := 44) (v := (114 : Int32)) dX3_failsByStack_44 rfl ?_
      refine Y_icmp_ne (pc := 46) (tgt := 77) dX3_failsByStack_46 (by decide) (fun hc3 => ?_) (fun hc3 => ?_)
      · replace h := ifF hc3 h
        refine Y_iconst (pc := 77) (v := (0 : Int32)) dX3_failsByStack_77 rfl ?_
        cases h
        exact Y_iret (pc := 78) rfl (nar_bo (by decide)) dX3_failsByStack_78 hPy2 ⟨rfl, rfl⟩
      · replace h := ifT hc3 h
        refine Y_aload_n (pc := 49) (j := 2) dX3_failsByStack_49 rfl rfl ?_
        refine Z_geti (pc := 50) dX3_failsByStack_50 w1_184 (lo_0 hPy2 ho) fi_4_9 ?_
        refine Y_iconst (pc := 53) (v := (1 : Int32)) dX3_failsByStack_53 rfl ?_
        refine Y_icmp_le (pc := 54) (tgt := 77) dX3_failsByStack_54 (by decide) (fun hc4 => ?_) (fun hc4 => ?_)
        · replace h := ifT hc4 h
          refine Y_iconst (pc := 77) (v := (0 : Int32)) dX3_failsByStack_77 rfl ?_
          cases h
          exact Y_iret (pc := 78) rfl (nar_bo (by decide)) dX3_failsByStack_78 hPy2 ⟨rfl, rfl⟩
        · replace h := ifF hc4 h
          refine Y_aload_n (pc := 57) (j := 2) dX3_failsByStack_57 rfl rfl ?_
          refine Z_getr (pc := 58) dX3_failsByStack_58 w1_176 (lo_0 hPy2 ho) fr_4_5 (lor_0_5 hPy2 ho) ?_
          refine Y_aload_n (pc := 61) (j := 2) dX3_failsByStack_61 rfl rfl ?_
          refine Z_geti (pc := 62) dX3_failsByStack_62 w1_184 (lo_0 hPy2 ho) fi_4_9 ?_
          refine Y_iconst (pc := 65) (v := (2 : Int32)) dX3_failsByStack_65 rfl ?_
          refine Y_isub (pc := 66) dX3_failsByStack_66 ?_
          obtain ⟨hb2, h⟩ := okE h
          refine Y_iald (pc := 67) dX3_failsByStack_67 (lo_8 hPy2 ho) (lon_8 hPy2 ho) hb2 ?_
          refine Y_bipush (pc := 68) (v := (8 : Int32)) dX3_failsByStack_68 rfl ?_
          refine Y_icmp_lt (pc := 70) (tgt := 77) dX3_failsByStack_70 (by decide) (fun hc5 => ?_) (fun hc5 => ?_)
          · replace h := ifT hc5 h
            refine Y_iconst (pc := 77) (v := (0 : Int32)) dX3_failsByStack_77 rfl ?_
            cases h
            exact Y_iret (pc := 78) rfl (nar_bo (by decide)) dX3_failsByStack_78 hPy2 ⟨rfl, rfl⟩
          · replace h := ifF hc5 h
            refine Y_iconst (pc := 73) (v := (1 : Int32)) dX3_failsByStack_73 rfl ?_
            refine Y_goto (pc := 74) (tgt := 78) dX3_failsByStack_74 (by decide) ?_
            cases h
            exact Y_iret (pc := 78) rfl (nar_bo (by decide)) dX3_failsByStack_78 hPy2 ⟨rfl, rfl⟩
    · replace h := ifF hc2 h
      refine Y_iconst (pc := 41) (v := (1 : Int32)) dX3_failsByStack_41 rfl ?_
      cases h
      exact Y_iret (pc := 42) rfl (nar_bo (by decide)) dX3_failsByStack_42 hPy2 ⟨rfl, rfl⟩
theorem v_X3_failsByStack {o : Nat} {x1 : Int32} {x2 : Int32} {M z} (ho : o = 18 ∨ o = 28) (hP : Lay M) (h : d_X3_failsByStack o x1 x2 M = some z) : CC Lay k_X3_failsByStack [.ref o, .int x1, .int x2] M z.2 (Qv (some (.int z.1)) z.2) xF :=
  CC.ofVV (by decide) rfl (Nat.le_of_ble_eq_true rfl) (b_X3_failsByStack ho hP h)
theorem b_X3_fromTop {o : Nat} {x1 : Int32} {M z} (ho : o = 18 ∨ o = 28) (hP : Lay M) (h : d_X3_fromTop o x1 M = some z) : VV Lay k_X3_fromTop 0 [(0, .ref o), (1, .int x1)] [] M z.2 (Qv (some (.int z.1)) z.2) xF := by
  unfold d_X3_fromTop at h
  refine Y_aload_n (pc := 0) (j := 0) dX3_fromTop_0 rfl rfl ?_
  refine Z_geti (pc := 1) dX3_fromTop_1 w1_184 (lo_0 hP ho) fi_4_9 ?_
  refine Y_iconst (pc := 4) (v := (1 : Int32)) dX3_fromTop_4 rfl ?_
  refine Y_isub (pc := 5) dX3_fromTop_5 ?_
  obtain ⟨b1, eb1, h⟩ := bndE h
  refine VV.topI eb1 ?_
  refine Y_istore_n (pc := 6) (lv1 := [(2, .int b1), (0, .ref o), (1, .int x1)]) dX3_fromTop_6 rfl (by decide) rfl ?_
  refine Y_iload_n (pc := 7) (j := 0) dX3_fromTop_7 rfl rfl ?_
  refine Y_bipush (pc := 8) (v := (14 : Int32)) dX3_fromTop_8 rfl ?_
  refine Y_imul (pc := 10) dX3_fromTop_10 ?_
  refine Y_bipush (pc := 11) (v := (6 : Int32)) dX3_fromTop_11 rfl ?_
  refine Y_iadd (pc := 13) dX3_fromTop_13 ?_
  refine Y_aload_n (pc := 14) (j := 1) dX3_fromTop_14 rfl rfl ?_
  refine Z_getr (pc := 15) dX3_fromTop_15 w1_176 (lo_0 hP ho) fr_4_5 (lor_0_5 hP ho) ?_
  refine Y_iload_n (pc := 18) (j := 0) dX3_fromTop_18 rfl rfl ?_
  obtain ⟨hb1, h⟩ := okE h
  refine Y_iald (pc := 19) dX3_fromTop_19 (lo_8 hP ho) (lon_8 hP ho) hb1 ?_
  refine Y_iadd (pc := 20) dX3_fromTop_20 ?_
  refine Y_iload_n (pc := 21) (j := 2) dX3_fromTop_21 rfl rfl ?_
  refine Y_isub (pc := 22) dX3_fromTop_22 ?_
  cases h
  exact Y_iret (pc := 23) rfl rfl dX3_fromTop_23 hP ⟨rfl, rfl⟩
theorem v_X3_fromTop {o : Nat} {x1 : Int32} {M z} (ho : o = 18 ∨ o = 28) (hP : Lay M) (h : d_X3_fromTop o x1 M = some z) : CC Lay k_X3_fromTop [.ref o, .int x1] M z.2 (Qv (some (.int z.1)) z.2) xF :=
  CC.ofVV (by decide) rfl (Nat.le_of_ble_eq_true rfl) (b_X3_fromTop ho hP h)
theorem b_X8_isNumber {o : Nat} {x1 : Int32} {M z} (ho : o = 18 ∨ o = 28) (hP : Lay M) (h : d_X8_isNumber o x1 M = some z) : VV Lay k_X8_isNumber 0 [(0, .ref (o + 1)), (1, .int x1)] [] M z.2 (Qv (some (.int z.1)) z.2) xF := by
  unfold d_X8_isNumber at h
  refine Y_aload_n (pc := 0) (j := 0) dX8_isNumber_0 rfl rfl ?_
  refine Z_getr (pc := 1) dX8_isNumber_1 w1_149 (lo_1 hP ho) fr_8_0 (lor_1_0 hP ho) ?_
  refine Y_iload_n (pc := 4) (j := 1) dX8_isNumber_4 rfl rfl ?_
  obtain ⟨hb1, h⟩ := okE h
  refine Y_cald (pc := 5) dX8_isNumber_5 (lo_2 hP ho) (lon_2 hP ho) hb1 ?_
  refine Y_bipush (pc := 6) (v := (105 : Int32)) dX8_isNumber_6 rfl ?_
  refine Y_icmp_eq (pc := 8) (tgt := 22) dX8_isNumber_8 (by decide) (fun hc1 => ?_) (fun hc1 => ?_)
  · replace h := ifT hc1 h
    refine Y_iconst (pc := 22) (v := (1 : Int32)) dX8_isNumber_22 rfl ?_
    refine Y_goto (pc := 23) (tgt := 27) dX8_isNumber_23 (by decide) ?_
    cases h
    exact Y_iret (pc := 27) rfl (nar_bo (by decide)) dX8_isNumber_27 hP ⟨rfl, rfl⟩
  · replace h := ifF hc1 h
    refine Y_aload_n (pc := 11) (j := 0) dX8_isNumber_11 rfl rfl ?_
    refine Z_getr (pc := 12) dX8_isNumber_12 w1_149 (lo_1 hP ho) fr_8_0 (lor_1_0 hP ho) ?_
    refine Y_iload_n (pc := 15) (j := 1) dX8_isNumber_15 rfl rfl ?_
    obtain ⟨hb2, h⟩ := okE h
    refine Y_cald (pc := 16) dX8_isNumber_16 (lo_2 hP ho) (lon_2 hP ho) hb2 ?_
    refine Y_bipush (pc := 17) (v := (102 : Int32)) dX8_isNumber_17 rfl ?_
    refine Y_icmp_ne (pc := 19) (tgt := 26) dX8_isNumber_19 (by decide) (fun hc2 => ?_) (fun hc2 => ?_)
    · replace h := ifF hc2 h
      refine Y_iconst (pc := 26) (v := (0 : Int32)) dX8_isNumber_26 rfl ?_
      cases h
      exact Y_iret (pc := 27) rfl (nar_bo (by decide)) dX8_isNumber_27 hP ⟨rfl, rfl⟩
    · replace h := ifT hc2 h
      refine Y_iconst (pc := 22) (v := (1 : Int32)) dX8_isNumber_22 rfl ?_
      refine Y_goto (pc := 23) (tgt := 27) dX8_isNumber_23 (by decide) ?_
      cases h
      exact Y_iret (pc := 27) rfl (nar_bo (by decide)) dX8_isNumber_27 hP ⟨rfl, rfl⟩
theorem v_X8_isNumber {o : Nat} {x1 : Int32} {M z} (ho : o = 18 ∨ o = 28) (hP : Lay M) (h : d_X8_isNumber o x1 M = some z) : CC Lay k_X8_isNumber [.ref (o + 1), .int x1] M z.2 (Qv (some (.int z.1)) z.2) xF :=
  CC.ofVV (by decide) rfl (Nat.le_of_ble_eq_true rfl) (b_X8_isNumber ho hP h)
set_option maxRecDepth 20000 in
theorem b_X3_failsByKind {o : Nat} {x1 : Int32} {M z} (ho : o = 18 ∨ o = 28) (hP : Lay M) (h : d_X3_failsByKind o x1 M = some z) : VV Lay k_X3_failsByKind 0 [(0, .ref o), (1, .int x1)] [] M z.2 (Qv (some (.int z.1)) z.2) xF := by
  unfold d_X3_failsByKind at h
  refine Y_iload_n (pc := 0) (j := 1) dX3_failsByKind_0 rfl rfl ?_
  refine Y_lookup (pc := 1) dX3_failsByKind_1 (by decide) [(103, 65), (109, 65), (112, 89), (119, 44)] 113 (by decide) (by decide) ?_ ?_
  · refine xs_cons ?_ <| xs_cons ?_ <| xs_cons ?_ <| xs_cons ?_ <| xs_nil
    · intro e9
      replace h := ifT (by rw [e9] <;> decide) h
      refine Y_aload_n (pc := 65) (j := 0) dX3_failsByKind_65 rfl rfl ?_
      refine Z_getr (pc := 66) dX3_failsByKind_66 w1_171 (lo_0 hP ho) fr_4_2 (lor_0_2 hP ho) ?_
      refine Z_getr (pc := 69) dX3_failsByKind_69 w1_151 (lo_1 hP ho) fr_8_0 (lor_1_0 hP ho) ?_
      refine Y_aload_n (pc := 72) (j := 0) dX3_failsByKind_72 rfl rfl ?_
      refine Y_iconst (pc := 73) (v := (1 : Int32)) dX3_failsByKind_73 rfl ?_
      obtain ⟨y1, qy1, h⟩ := bindE h
      have cy1 := v_X3_fromTop ho hP qy1
      refine C_V1r (pc := 74) (k' := k_X3_fromTop) dX3_failsByKind_74 w5_106 i_X3_fromTop (lo_0 hP ho) ⟨Nat.le_of_ble_eq_true rfl, Nat.le_of_ble_eq_true rfl⟩ rfl (Nat.le_of_ble_eq_true rfl) (Nat.le_of_ble_eq_true rfl) (Nat.le_of_ble_eq_true rfl) (cy1) ?_
      have hPy1 := cy1.1.1
      obtain ⟨hb1, h⟩ := okE h
      refine Y_cald (pc := 77) dX3_failsByKind_77 (lo_2 hPy1 ho) (lon_2 hPy1 ho) hb1 ?_
      refine Y_bipush (pc := 78) (v := (111 : Int32)) dX3_failsByKind_78 rfl ?_
      refine Y_icmp_eq (pc := 80) (tgt := 87) dX3_failsByKind_80 (by decide) (fun hc1 => ?_) (fun hc1 => ?_)
      · replace h := ifT hc1 h
        refine Y_iconst (pc := 87) (v := (0 : Int32)) dX3_failsByKind_87 rfl ?_
        cases h
        exact Y_iret (pc := 88) rfl (nar_bo (by decide)) dX3_failsByKind_88 hPy1 ⟨rfl, rfl⟩
      · replace h := ifF hc1 h
        refine Y_iconst (pc := 83) (v := (1 : Int32)) dX3_failsByKind_83 rfl ?_
        refine Y_goto (pc := 84) (tgt := 88) dX3_failsByKind_84 (by decide) ?_
        cases h
        exact Y_iret (pc := 88) rfl (nar_bo (by decide)) dX3_failsByKind_88 hPy1 ⟨rfl, rfl⟩
    · intro e9
      replace h := ifT (by rw [e9] <;> decide) h
      refine Y_aload_n (pc := 65) (j := 0) dX3_failsByKind_65 rfl rfl ?_
      refine Z_getr (pc := 66) dX3_failsByKind_66 w1_171 (lo_0 hP ho) fr_4_2 (lor_0_2 hP ho) ?_
      refine Z_getr (pc := 69) dX3_failsByKind_69 w1_151 (lo_1 hP ho) fr_8_0 (lor_1_0 hP ho) ?_
      refine Y_aload_n (pc := 72) (j := 0) dX3_failsByKind_72 rfl rfl ?_
      refine Y_iconst (pc := 73) (v := (1 : Int32)) dX3_failsByKind_73 rfl ?_
      obtain ⟨y1, qy1, h⟩ := bindE h
      have cy1 := v_X3_fromTop ho hP qy1
      refine C_V1r (pc := 74) (k' := k_X3_fromTop) dX3_failsByKind_74 w5_106 i_X3_fromTop (lo_0 hP ho) ⟨Nat.le_of_ble_eq_true rfl, Nat.le_of_ble_eq_true rfl⟩ rfl (Nat.le_of_ble_eq_true rfl) (Nat.le_of_ble_eq_true rfl) (Nat.le_of_ble_eq_true rfl) (cy1) ?_
      have hPy1 := cy1.1.1
      obtain ⟨hb1, h⟩ := okE h
      refine Y_cald (pc := 77) dX3_failsByKind_77 (lo_2 hPy1 ho) (lon_2 hPy1 ho) hb1 ?_
      refine Y_bipush (pc := 78) (v := (111 : Int32)) dX3_failsByKind_78 rfl ?_
      refine Y_icmp_eq (pc := 80) (tgt := 87) dX3_failsByKind_80 (by decide) (fun hc1 => ?_) (fun hc1 => ?_)
      · replace h := ifT hc1 h
        refine Y_iconst (pc := 87) (v := (0 : Int32)) dX3_failsByKind_87 rfl ?_
        cases h
        exact Y_iret (pc := 88) rfl (nar_bo (by decide)) dX3_failsByKind_88 hPy1 ⟨rfl, rfl⟩
      · replace h := ifF hc1 h
        refine Y_iconst (pc := 83) (v := (1 : Int32)) dX3_failsByKind_83 rfl ?_
        refine Y_goto (pc := 84) (tgt := 88) dX3_failsByKind_84 (by decide) ?_
        cases h
        exact Y_iret (pc := 88) rfl (nar_bo (by decide)) dX3_failsByKind_88 hPy1 ⟨rfl, rfl⟩
    · intro e9
      replace h := ifF (by rw [e9] <;> decide) h
      replace h := ifT (by rw [e9] <;> decide) h
      refine Y_aload_n (pc := 89) (j := 0) dX3_failsByKind_89 rfl rfl ?_
      refine Z_getr (pc := 90) dX3_failsByKind_90 w1_171 (lo_0 hP ho) fr_4_2 (lor_0_2 hP ho) ?_
      refine Z_getr (pc := 93) dX3_failsByKind_93 w1_151 (lo_1 hP ho) fr_8_0 (lor_1_0 hP ho) ?_
      refine Y_aload_n (pc := 96) (j := 0) dX3_failsByKind_96 rfl rfl ?_
      refine Y_iconst (pc := 97) (v := (2 : Int32)) dX3_failsByKind_97 rfl ?_
      obtain ⟨y2, qy2, h⟩ := bindE h
      have cy2 := v_X3_fromTop ho hP qy2
      refine C_V1r (pc := 98) (k' := k_X3_fromTop) dX3_failsByKind_98 w5_106 i_X3_fromTop (lo_0 hP ho) ⟨Nat.le_of_ble_eq_true rfl, Nat.le_of_ble_eq_true rfl⟩ rfl (Nat.le_of_ble_eq_true rfl) (Nat.le_of_ble_eq_true rfl) (Nat.le_of_ble_eq_true rfl) (cy2) ?_
      have hPy2 := cy2.1.1
      obtain ⟨hb2, h⟩ := okE h
      refine Y_cald (pc := 101) dX3_failsByKind_101 (lo_2 hPy2 ho) (lon_2 hPy2 ho) hb2 ?_
      refine Y_bipush (pc := 102) (v := (111 : Int32)) dX3_failsByKind_102 rfl ?_
      refine Y_icmp_eq (pc := 104) (tgt := 111) dX3_failsByKind_104 (by decide) (fun hc2 => ?_) (fun hc2 => ?_)
      · replace h := ifT hc2 h
        refine Y_iconst (pc := 111) (v := (0 : Int32)) dX3_failsByKind_111 rfl ?_
        cases h
        exact Y_iret (pc := 112) rfl (nar_bo (by decide)) dX3_failsByKind_112 hPy2 ⟨rfl, rfl⟩
      · replace h := ifF hc2 h
        refine Y_iconst (pc := 107) (v := (1 : Int32)) dX3_failsByKind_107 rfl ?_
        refine Y_goto (pc := 108) (tgt := 112) dX3_failsByKind_108 (by decide) ?_
        cases h
        exact Y_iret (pc := 112) rfl (nar_bo (by decide)) dX3_failsByKind_112 hPy2 ⟨rfl, rfl⟩
    · intro e9
      replace h := ifF (by rw [e9] <;> decide) h
      replace h := ifF (by rw [e9] <;> decide) h
      replace h := ifT (by rw [e9] <;> decide) h
      refine Y_aload_n (pc := 44) (j := 0) dX3_failsByKind_44 rfl rfl ?_
      refine Z_getr (pc := 45) dX3_failsByKind_45 w1_171 (lo_0 hP ho) fr_4_2 (lor_0_2 hP ho) ?_
      refine Y_aload_n (pc := 48) (j := 0) dX3_failsByKind_48 rfl rfl ?_
      refine Y_iconst (pc := 49) (v := (1 : Int32)) dX3_failsByKind_49 rfl ?_
      obtain ⟨y3, qy3, h⟩ := bindE h
      have cy3 := v_X3_fromTop ho hP qy3
      refine C_V1r (pc := 50) (k' := k_X3_fromTop) dX3_failsByKind_50 w5_106 i_X3_fromTop (lo_0 hP ho) ⟨Nat.le_of_ble_eq_true rfl, Nat.le_of_ble_eq_true rfl⟩ rfl (Nat.le_of_ble_eq_true rfl) (Nat.le_of_ble_eq_true rfl) (Nat.le_of_ble_eq_true rfl) (cy3) ?_
      have hPy3 := cy3.1.1
      obtain ⟨y4, qy4, h⟩ := bindE h
      have cy4 := v_X8_isNumber ho hPy3 qy4
      refine C_V1r (pc := 53) (k' := k_X8_isNumber) dX3_failsByKind_53 w5_110 i_X8_isNumber (lo_1 hPy3 ho) ⟨Nat.le_of_ble_eq_true rfl, Nat.le_of_ble_eq_true rfl⟩ rfl (Nat.le_of_ble_eq_true rfl) (Nat.le_of_ble_eq_true rfl) (Nat.le_of_ble_eq_true rfl) (cy4) ?_
      have hPy4 := cy4.1.1
      refine Y_if_ne (pc := 56) (tgt := 63) dX3_failsByKind_56 (by decide) (fun hc3 => ?_) (fun hc3 => ?_)
      · replace h := ifF hc3 h
        refine Y_iconst (pc := 63) (v := (0 : Int32)) dX3_failsByKind_63 rfl ?_
        cases h
        exact Y_iret (pc := 64) rfl (nar_bo (by decide)) dX3_failsByKind_64 hPy4 ⟨rfl, rfl⟩
      · replace h := ifT hc3 h
        refine Y_iconst (pc := 59) (v := (1 : Int32)) dX3_failsByKind_59 rfl ?_
        refine Y_goto (pc := 60) (tgt := 64) dX3_failsByKind_60 (by decide) ?_
        cases h
        exact Y_iret (pc := 64) rfl (nar_bo (by decide)) dX3_failsByKind_64 hPy4 ⟨rfl, rfl⟩
  · intro n9
    replace h := ifF (fun q => q.elim (xs_no n9 (by decide : ((103 : Int32), 65) ∈ _)) (xs_no n9 (by decide : ((109 : Int32), 65) ∈ _))) h
    replace h := ifF (xs_no n9 (by decide : ((112 : Int32), 89) ∈ _)) h
    replace h := ifF (xs_no n9 (by decide : ((119 : Int32), 44) ∈ _)) h
    refine Y_ldcS (pc := 113) (i := 2) dX3_failsByKind_113 rfl ?_
    refine Y_iload_n (pc := 115) (j := 1) dX3_failsByKind_115 rfl rfl ?_
    refine Y_indexOf (pc := 116) dX3_failsByKind_116 w5_97 (i := 2) (by decide) (Nat.le_of_ble_eq_true rfl) (Nat.le_of_ble_eq_true rfl) (Nat.le_of_ble_eq_true rfl) ?_
    refine Y_if_lt (pc := 119) (tgt := 156) dX3_failsByKind_119 (by decide) (fun hc4 => ?_) (fun hc4 => ?_)
    · replace h := ifT hc4 h
      refine Y_iconst (pc := 156) (v := (0 : Int32)) dX3_failsByKind_156 rfl ?_
      cases h
      exact Y_iret (pc := 157) rfl (nar_bo (by decide)) dX3_failsByKind_157 hP ⟨rfl, rfl⟩
    · replace h := ifF hc4 h
      refine Y_aload_n (pc := 122) (j := 0) dX3_failsByKind_122 rfl rfl ?_
      refine Z_getr (pc := 123) dX3_failsByKind_123 w1_171 (lo_0 hP ho) fr_4_2 (lor_0_2 hP ho) ?_
      refine Y_aload_n (pc := 126) (j := 0) dX3_failsByKind_126 rfl rfl ?_
      refine Y_iconst (pc := 127) (v := (2 : Int32)) dX3_failsByKind_127 rfl ?_
      obtain ⟨y5, qy5, h⟩ := bindE h
      have cy5 := v_X3_fromTop ho hP qy5
      refine C_V1r (pc := 128) (k' := k_X3_fromTop) dX3_failsByKind_128 w5_106 i_X3_fromTop (lo_0 hP ho) ⟨Nat.le_of_ble_eq_true rfl, Nat.le_of_ble_eq_true rfl⟩ rfl (Nat.le_of_ble_eq_true rfl) (Nat.le_of_ble_eq_true rfl) (Nat.le_of_ble_eq_true rfl) (cy5) ?_
      have hPy5 := cy5.1.1
      obtain ⟨y6, qy6, h⟩ := bindE h
      have cy6 := v_X8_isNumber ho hPy5 qy6
      refine C_V1r (pc := 131) (k' := k_X8_isNumber) dX3_failsByKind_131 w5_110 i_X8_isNumber (lo_1 hPy5 ho) ⟨Nat.le_of_ble_eq_true rfl, Nat.le_of_ble_eq_true rfl⟩ rfl (Nat.le_of_ble_eq_true rfl) (Nat.le_of_ble_eq_true rfl) (Nat.le_of_ble_eq_true rfl) (cy6) ?_
      have hPy6 := cy6.1.1
      refine Y_if_eq (pc := 134) (tgt := 152) dX3_failsByKind_134 (by decide) (fun hc5 => ?_) (fun hc5 => ?_)
      · replace h := ifT hc5 h
        refine Y_iconst (pc := 152) (v := (1 : Int32)) dX3_failsByKind_152 rfl ?_
        refine Y_goto (pc := 153) (tgt := 157) dX3_failsByKind_153 (by decide) ?_
        cases h
        exact Y_iret (pc := 157) rfl (nar_bo (by decide)) dX3_failsByKind_157 hPy6 ⟨rfl, rfl⟩
      · replace h := ifF hc5 h
        refine Y_aload_n (pc := 137) (j := 0) dX3_failsByKind_137 rfl rfl ?_
        refine Z_getr (pc := 138) dX3_failsByKind_138 w1_171 (lo_0 hPy6 ho) fr_4_2 (lor_0_2 hPy6 ho) ?_
        refine Y_aload_n (pc := 141) (j := 0) dX3_failsByKind_141 rfl rfl ?_
        refine Y_iconst (pc := 142) (v := (1 : Int32)) dX3_failsByKind_142 rfl ?_
        obtain ⟨y7, qy7, h⟩ := bindE h
        have cy7 := v_X3_fromTop ho hPy6 qy7
        refine C_V1r (pc := 143) (k' := k_X3_fromTop) dX3_failsByKind_143 w5_106 i_X3_fromTop (lo_0 hPy6 ho) ⟨Nat.le_of_ble_eq_true rfl, Nat.le_of_ble_eq_true rfl⟩ rfl (Nat.le_of_ble_eq_true rfl) (Nat.le_of_ble_eq_true rfl) (Nat.le_of_ble_eq_true rfl) (cy7) ?_
        have hPy7 := cy7.1.1
        obtain ⟨y8, qy8, h⟩ := bindE h
        have cy8 := v_X8_isNumber ho hPy7 qy8
        refine C_V1r (pc := 146) (k' := k_X8_isNumber) dX3_failsByKind_146 w5_110 i_X8_isNumber (lo_1 hPy7 ho) ⟨Nat.le_of_ble_eq_true rfl, Nat.le_of_ble_eq_true rfl⟩ rfl (Nat.le_of_ble_eq_true rfl) (Nat.le_of_ble_eq_true rfl) (Nat.le_of_ble_eq_true rfl) (cy8) ?_
        have hPy8 := cy8.1.1
        refine Y_if_ne (pc := 149) (tgt := 156) dX3_failsByKind_149 (by decide) (fun hc6 => ?_) (fun hc6 => ?_)
        · replace h := ifF hc6 h
          refine Y_iconst (pc := 156) (v := (0 : Int32)) dX3_failsByKind_156 rfl ?_
          cases h
          exact Y_iret (pc := 157) rfl (nar_bo (by decide)) dX3_failsByKind_157 hPy8 ⟨rfl, rfl⟩
        · replace h := ifT hc6 h
          refine Y_iconst (pc := 152) (v := (1 : Int32)) dX3_failsByKind_152 rfl ?_
          refine Y_goto (pc := 153) (tgt := 157) dX3_failsByKind_153 (by decide) ?_
          cases h
          exact Y_iret (pc := 157) rfl (nar_bo (by decide)) dX3_failsByKind_157 hPy8 ⟨rfl, rfl⟩
theorem v_X3_failsByKind {o : Nat} {x1 : Int32} {M z} (ho : o = 18 ∨ o = 28) (hP : Lay M) (h : d_X3_failsByKind o x1 M = some z) : CC Lay k_X3_failsByKind [.ref o, .int x1] M z.2 (Qv (some (.int z.1)) z.2) xF :=
  CC.ofVV (by decide) rfl (Nat.le_of_ble_eq_true rfl) (b_X3_failsByKind ho hP h)
theorem b_X8_areIntegers {o : Nat} {x1 : Int32} {x2 : Int32} {M z} (ho : o = 18 ∨ o = 28) (hP : Lay M) (h : d_X8_areIntegers o x1 x2 M = some z) : VV Lay k_X8_areIntegers 0 [(0, .ref (o + 1)), (1, .int x1), (2, .int x2)] [] M z.2 (Qv (some (.int z.1)) z.2) xF := by
  unfold d_X8_areIntegers at h
  refine Y_aload_n (pc := 0) (j := 0) dX8_areIntegers_0 rfl rfl ?_
  refine Z_getr (pc := 1) dX8_areIntegers_1 w1_149 (lo_1 hP ho) fr_8_0 (lor_1_0 hP ho) ?_
  refine Y_iload_n (pc := 4) (j := 1) dX8_areIntegers_4 rfl rfl ?_
  obtain ⟨hb1, h⟩ := okE h
  refine Y_cald (pc := 5) dX8_areIntegers_5 (lo_2 hP ho) (lon_2 hP ho) hb1 ?_
  refine Y_bipush (pc := 6) (v := (105 : Int32)) dX8_areIntegers_6 rfl ?_
  refine Y_icmp_ne (pc := 8) (tgt := 26) dX8_areIntegers_8 (by decide) (fun hc1 => ?_) (fun hc1 => ?_)
  · replace h := ifF hc1 h
    refine Y_iconst (pc := 26) (v := (0 : Int32)) dX8_areIntegers_26 rfl ?_
    cases h
    exact Y_iret (pc := 27) rfl (nar_bo (by decide)) dX8_areIntegers_27 hP ⟨rfl, rfl⟩
  · replace h := ifT hc1 h
    refine Y_aload_n (pc := 11) (j := 0) dX8_areIntegers_11 rfl rfl ?_
    refine Z_getr (pc := 12) dX8_areIntegers_12 w1_149 (lo_1 hP ho) fr_8_0 (lor_1_0 hP ho) ?_
    refine Y_iload_n (pc := 15) (j := 2) dX8_areIntegers_15 rfl rfl ?_
    obtain ⟨hb2, h⟩ := okE h
    refine Y_cald (pc := 16) dX8_areIntegers_16 (lo_2 hP ho) (lon_2 hP ho) hb2 ?_
    refine Y_bipush (pc := 17) (v := (105 : Int32)) dX8_areIntegers_17 rfl ?_
    refine Y_icmp_ne (pc := 19) (tgt := 26) dX8_areIntegers_19 (by decide) (fun hc2 => ?_) (fun hc2 => ?_)
    · replace h := ifF hc2 h
      refine Y_iconst (pc := 26) (v := (0 : Int32)) dX8_areIntegers_26 rfl ?_
      cases h
      exact Y_iret (pc := 27) rfl (nar_bo (by decide)) dX8_areIntegers_27 hP ⟨rfl, rfl⟩
    · replace h := ifT hc2 h
      refine Y_iconst (pc := 22) (v := (1 : Int32)) dX8_areIntegers_22 rfl ?_
      refine Y_goto (pc := 23) (tgt := 27) dX8_areIntegers_23 (by decide) ?_
      cases h
      exact Y_iret (pc := 27) rfl (nar_bo (by decide)) dX8_areIntegers_27 hP ⟨rfl, rfl⟩
theorem v_X8_areIntegers {o : Nat} {x1 : Int32} {x2 : Int32} {M z} (ho : o = 18 ∨ o = 28) (hP : Lay M) (h : d_X8_areIntegers o x1 x2 M = some z) : CC Lay k_X8_areIntegers [.ref (o + 1), .int x1, .int x2] M z.2 (Qv (some (.int z.1)) z.2) xF :=
  CC.ofVV (by decide) rfl (Nat.le_of_ble_eq_true rfl) (b_X8_areIntegers ho hP h)
theorem b_X3_dividesByZero {o : Nat} {M z} (ho : o = 18 ∨ o = 28) (hP : Lay M) (h : d_X3_dividesByZero o M = some z) : VV Lay k_X3_dividesByZero 0 [(0, .ref o)] [] M z.2 (Qv (some (.int z.1)) z.2) xF := by
  unfold d_X3_dividesByZero at h
  refine Y_aload_n (pc := 0) (j := 0) dX3_dividesByZero_0 rfl rfl ?_
  refine Z_getr (pc := 1) dX3_dividesByZero_1 w1_171 (lo_0 hP ho) fr_4_2 (lor_0_2 hP ho) ?_
  refine Y_aload_n (pc := 4) (j := 0) dX3_dividesByZero_4 rfl rfl ?_
  refine Y_iconst (pc := 5) (v := (2 : Int32)) dX3_dividesByZero_5 rfl ?_
  obtain ⟨y1, qy1, h⟩ := bindE h
  have cy1 := v_X3_fromTop ho hP qy1
  refine C_V1r (pc := 6) (k' := k_X3_fromTop) dX3_dividesByZero_6 w5_106 i_X3_fromTop (lo_0 hP ho) ⟨Nat.le_of_ble_eq_true rfl, Nat.le_of_ble_eq_true rfl⟩ rfl (Nat.le_of_ble_eq_true rfl) (Nat.le_of_ble_eq_true rfl) (Nat.le_of_ble_eq_true rfl) (cy1) ?_
  have hPy1 := cy1.1.1
  refine Y_aload_n (pc := 9) (j := 0) dX3_dividesByZero_9 rfl rfl ?_
  refine Y_iconst (pc := 10) (v := (1 : Int32)) dX3_dividesByZero_10 rfl ?_
  obtain ⟨y2, qy2, h⟩ := bindE h
  have cy2 := v_X3_fromTop ho hPy1 qy2
  refine C_V1r (pc := 11) (k' := k_X3_fromTop) dX3_dividesByZero_11 w5_106 i_X3_fromTop (lo_0 hPy1 ho) ⟨Nat.le_of_ble_eq_true rfl, Nat.le_of_ble_eq_true rfl⟩ rfl (Nat.le_of_ble_eq_true rfl) (Nat.le_of_ble_eq_true rfl) (Nat.le_of_ble_eq_true rfl) (cy2) ?_
  have hPy2 := cy2.1.1
  obtain ⟨y3, qy3, h⟩ := bindE h
  have cy3 := v_X8_areIntegers ho hPy2 qy3
  refine C_V2r (pc := 14) (k' := k_X8_areIntegers) dX3_dividesByZero_14 w5_123 i_X8_areIntegers (lo_1 hPy2 ho) ⟨Nat.le_of_ble_eq_true rfl, Nat.le_of_ble_eq_true rfl⟩ rfl (Nat.le_of_ble_eq_true rfl) (Nat.le_of_ble_eq_true rfl) (Nat.le_of_ble_eq_true rfl) (cy3) ?_
  have hPy3 := cy3.1.1
  refine Y_if_eq (pc := 17) (tgt := 40) dX3_dividesByZero_17 (by decide) (fun hc1 => ?_) (fun hc1 => ?_)
  · replace h := ifT hc1 h
    refine Y_iconst (pc := 40) (v := (0 : Int32)) dX3_dividesByZero_40 rfl ?_
    cases h
    exact Y_iret (pc := 41) rfl (nar_bo (by decide)) dX3_dividesByZero_41 hPy3 ⟨rfl, rfl⟩
  · replace h := ifF hc1 h
    refine Y_aload_n (pc := 20) (j := 0) dX3_dividesByZero_20 rfl rfl ?_
    refine Z_getr (pc := 21) dX3_dividesByZero_21 w1_171 (lo_0 hPy3 ho) fr_4_2 (lor_0_2 hPy3 ho) ?_
    refine Z_getr (pc := 24) dX3_dividesByZero_24 w1_153 (lo_1 hPy3 ho) fr_8_1 (lor_1_1 hPy3 ho) ?_
    refine Y_aload_n (pc := 27) (j := 0) dX3_dividesByZero_27 rfl rfl ?_
    refine Y_iconst (pc := 28) (v := (1 : Int32)) dX3_dividesByZero_28 rfl ?_
    obtain ⟨y4, qy4, h⟩ := bindE h
    have cy4 := v_X3_fromTop ho hPy3 qy4
    refine C_V1r (pc := 29) (k' := k_X3_fromTop) dX3_dividesByZero_29 w5_106 i_X3_fromTop (lo_0 hPy3 ho) ⟨Nat.le_of_ble_eq_true rfl, Nat.le_of_ble_eq_true rfl⟩ rfl (Nat.le_of_ble_eq_true rfl) (Nat.le_of_ble_eq_true rfl) (Nat.le_of_ble_eq_true rfl) (cy4) ?_
    have hPy4 := cy4.1.1
    obtain ⟨hb1, h⟩ := okE h
    refine Y_iald (pc := 32) dX3_dividesByZero_32 (lo_3 hPy4 ho) (lon_3 hPy4 ho) hb1 ?_
    refine Y_if_ne (pc := 33) (tgt := 40) dX3_dividesByZero_33 (by decide) (fun hc2 => ?_) (fun hc2 => ?_)
    · replace h := ifF hc2 h
      refine Y_iconst (pc := 40) (v := (0 : Int32)) dX3_dividesByZero_40 rfl ?_
      cases h
      exact Y_iret (pc := 41) rfl (nar_bo (by decide)) dX3_dividesByZero_41 hPy4 ⟨rfl, rfl⟩
    · replace h := ifT hc2 h
      refine Y_iconst (pc := 36) (v := (1 : Int32)) dX3_dividesByZero_36 rfl ?_
      refine Y_goto (pc := 37) (tgt := 41) dX3_dividesByZero_37 (by decide) ?_
      cases h
      exact Y_iret (pc := 41) rfl (nar_bo (by decide)) dX3_dividesByZero_41 hPy4 ⟨rfl, rfl⟩
theorem v_X3_dividesByZero {o : Nat} {M z} (ho : o = 18 ∨ o = 28) (hP : Lay M) (h : d_X3_dividesByZero o M = some z) : CC Lay k_X3_dividesByZero [.ref o] M z.2 (Qv (some (.int z.1)) z.2) xF :=
  CC.ofVV (by decide) rfl (Nat.le_of_ble_eq_true rfl) (b_X3_dividesByZero ho hP h)
theorem b_X8_isUndefined {o : Nat} {x1 : Int32} {M z} (ho : o = 18 ∨ o = 28) (hP : Lay M) (h : d_X8_isUndefined o x1 M = some z) : VV Lay k_X8_isUndefined 0 [(0, .ref (o + 1)), (1, .int x1)] [] M z.2 (Qv (some (.int z.1)) z.2) xF := by
  unfold d_X8_isUndefined at h
  refine Y_aload_n (pc := 0) (j := 0) dX8_isUndefined_0 rfl rfl ?_
  refine Z_getr (pc := 1) dX8_isUndefined_1 w1_149 (lo_1 hP ho) fr_8_0 (lor_1_0 hP ho) ?_
  refine Y_iload_n (pc := 4) (j := 1) dX8_isUndefined_4 rfl rfl ?_
  obtain ⟨hb1, h⟩ := okE h
  refine Y_cald (pc := 5) dX8_isUndefined_5 (lo_2 hP ho) (lon_2 hP ho) hb1 ?_
  refine Y_bipush (pc := 6) (v := (102 : Int32)) dX8_isUndefined_6 rfl ?_
  refine Y_icmp_ne (pc := 8) (tgt := 25) dX8_isUndefined_8 (by decide) (fun hc1 => ?_) (fun hc1 => ?_)
  · replace h := ifF hc1 h
    refine Y_iconst (pc := 25) (v := (0 : Int32)) dX8_isUndefined_25 rfl ?_
    cases h
    exact Y_iret (pc := 26) rfl (nar_bo (by decide)) dX8_isUndefined_26 hP ⟨rfl, rfl⟩
  · replace h := ifT hc1 h
    refine Y_aload_n (pc := 11) (j := 0) dX8_isUndefined_11 rfl rfl ?_
    refine Z_getr (pc := 12) dX8_isUndefined_12 w1_152 (lo_1 hP ho) fr_8_1 (lor_1_1 hP ho) ?_
    refine Y_iload_n (pc := 15) (j := 1) dX8_isUndefined_15 rfl rfl ?_
    obtain ⟨hb2, h⟩ := okE h
    refine Y_iald (pc := 16) dX8_isUndefined_16 (lo_3 hP ho) (lon_3 hP ho) hb2 ?_
    refine Y_iconst (pc := 17) (v := (1 : Int32)) dX8_isUndefined_17 rfl ?_
    refine Y_icmp_ne (pc := 18) (tgt := 25) dX8_isUndefined_18 (by decide) (fun hc2 => ?_) (fun hc2 => ?_)
    · replace h := ifF hc2 h
      refine Y_iconst (pc := 25) (v := (0 : Int32)) dX8_isUndefined_25 rfl ?_
      cases h
      exact Y_iret (pc := 26) rfl (nar_bo (by decide)) dX8_isUndefined_26 hP ⟨rfl, rfl⟩
    · replace h := ifT hc2 h
      refine Y_iconst (pc := 21) (v := (1 : Int32)) dX8_isUndefined_21 rfl ?_
      refine Y_goto (pc := 22) (tgt := 26) dX8_isUndefined_22 (by decide) ?_
      cases h
      exact Y_iret (pc := 26) rfl (nar_bo (by decide)) dX8_isUndefined_26 hP ⟨rfl, rfl⟩
theorem v_X8_isUndefined {o : Nat} {x1 : Int32} {M z} (ho : o = 18 ∨ o = 28) (hP : Lay M) (h : d_X8_isUndefined o x1 M = some z) : CC Lay k_X8_isUndefined [.ref (o + 1), .int x1] M z.2 (Qv (some (.int z.1)) z.2) xF :=
  CC.ofVV (by decide) rfl (Nat.le_of_ble_eq_true rfl) (b_X8_isUndefined ho hP h)
theorem b_X4_hasNearest {x0 : UInt64} {M z} (hP : Lay M) (h : d_X4_hasNearest x0 M = some z) : VV Lay k_X4_hasNearest 0 [(0, .double x0)] [] M z.2 (Qv (some (.int z.1)) z.2) xF := by
  unfold d_X4_hasNearest at h
  refine Y_dload_n (pc := 0) (j := 0) dX4_hasNearest_0 rfl rfl ?_
  refine Y_ldc2d (pc := 1) (by decide) dX4_hasNearest_1 w5_138 ?_
  refine Y_dcmp (pc := 4) dX4_hasNearest_4 ?_
  refine Y_if_lt (pc := 5) (tgt := 20) dX4_hasNearest_5 (by decide) (fun hc1 => ?_) (fun hc1 => ?_)
  · replace h := ifT hc1 h
    refine Y_iconst (pc := 20) (v := (0 : Int32)) dX4_hasNearest_20 rfl ?_
    cases h
    exact Y_iret (pc := 21) rfl (nar_bo (by decide)) dX4_hasNearest_21 hP ⟨rfl, rfl⟩
  · replace h := ifF hc1 h
    refine Y_dload_n (pc := 8) (j := 0) dX4_hasNearest_8 rfl rfl ?_
    refine Y_ldc2d (pc := 9) (by decide) dX4_hasNearest_9 w5_139 ?_
    refine Y_dcmp (pc := 12) dX4_hasNearest_12 ?_
    refine Y_if_ge (pc := 13) (tgt := 20) dX4_hasNearest_13 (by decide) (fun hc2 => ?_) (fun hc2 => ?_)
    · replace h := ifT hc2 h
      refine Y_iconst (pc := 20) (v := (0 : Int32)) dX4_hasNearest_20 rfl ?_
      cases h
      exact Y_iret (pc := 21) rfl (nar_bo (by decide)) dX4_hasNearest_21 hP ⟨rfl, rfl⟩
    · replace h := ifF hc2 h
      refine Y_iconst (pc := 16) (v := (1 : Int32)) dX4_hasNearest_16 rfl ?_
      refine Y_goto (pc := 17) (tgt := 21) dX4_hasNearest_17 (by decide) ?_
      cases h
      exact Y_iret (pc := 21) rfl (nar_bo (by decide)) dX4_hasNearest_21 hP ⟨rfl, rfl⟩
theorem v_X4_hasNearest {x0 : UInt64} {M z} (hP : Lay M) (h : d_X4_hasNearest x0 M = some z) : CC Lay k_X4_hasNearest [.double x0] M z.2 (Qv (some (.int z.1)) z.2) xF :=
  CC.ofVV (by decide) rfl (Nat.le_of_ble_eq_true rfl) (b_X4_hasNearest hP h)
theorem b_X8_hasNearest {o : Nat} {x1 : Int32} {M z} (ho : o = 18 ∨ o = 28) (hP : Lay M) (h : d_X8_hasNearest o x1 M = some z) : VV Lay k_X8_hasNearest 0 [(0, .ref (o + 1)), (1, .int x1)] [] M z.2 (Qv (some (.int z.1)) z.2) xF := by
  unfold d_X8_hasNearest at h
  refine Y_aload_n (pc := 0) (j := 0) dX8_hasNearest_0 rfl rfl ?_
  refine Z_getr (pc := 1) dX8_hasNearest_1 w1_149 (lo_1 hP ho) fr_8_0 (lor_1_0 hP ho) ?_
  refine Y_iload_n (pc := 4) (j := 1) dX8_hasNearest_4 rfl rfl ?_
  obtain ⟨hb1, h⟩ := okE h
  refine Y_cald (pc := 5) dX8_hasNearest_5 (lo_2 hP ho) (lon_2 hP ho) hb1 ?_
  refine Y_bipush (pc := 6) (v := (105 : Int32)) dX8_hasNearest_6 rfl ?_
  refine Y_icmp_eq (pc := 8) (tgt := 31) dX8_hasNearest_8 (by decide) (fun hc1 => ?_) (fun hc1 => ?_)
  · replace h := ifT hc1 h
    refine Y_iconst (pc := 31) (v := (1 : Int32)) dX8_hasNearest_31 rfl ?_
    refine Y_goto (pc := 32) (tgt := 36) dX8_hasNearest_32 (by decide) ?_
    cases h
    exact Y_iret (pc := 36) rfl (nar_bo (by decide)) dX8_hasNearest_36 hP ⟨rfl, rfl⟩
  · replace h := ifF hc1 h
    refine Y_aload_n (pc := 11) (j := 0) dX8_hasNearest_11 rfl rfl ?_
    refine Y_iload_n (pc := 12) (j := 1) dX8_hasNearest_12 rfl rfl ?_
    obtain ⟨y1, qy1, h⟩ := bindE h
    have cy1 := v_X8_isUndefined ho hP qy1
    refine C_V1r (pc := 13) (k' := k_X8_isUndefined) dX8_hasNearest_13 w5_131 i_X8_isUndefined (lo_1 hP ho) ⟨Nat.le_of_ble_eq_true rfl, Nat.le_of_ble_eq_true rfl⟩ rfl (Nat.le_of_ble_eq_true rfl) (Nat.le_of_ble_eq_true rfl) (Nat.le_of_ble_eq_true rfl) (cy1) ?_
    have hPy1 := cy1.1.1
    refine Y_if_ne (pc := 16) (tgt := 35) dX8_hasNearest_16 (by decide) (fun hc2 => ?_) (fun hc2 => ?_)
    · replace h := ifF hc2 h
      refine Y_iconst (pc := 35) (v := (0 : Int32)) dX8_hasNearest_35 rfl ?_
      cases h
      exact Y_iret (pc := 36) rfl (nar_bo (by decide)) dX8_hasNearest_36 hPy1 ⟨rfl, rfl⟩
    · replace h := ifT hc2 h
      refine Y_aload_n (pc := 19) (j := 0) dX8_hasNearest_19 rfl rfl ?_
      refine Z_getr (pc := 20) dX8_hasNearest_20 w1_154 (lo_1 hPy1 ho) fr_8_2 (lor_1_2 hPy1 ho) ?_
      refine Y_iload_n (pc := 23) (j := 1) dX8_hasNearest_23 rfl rfl ?_
      obtain ⟨hb2, h⟩ := okE h
      refine Y_dald (pc := 24) dX8_hasNearest_24 (lo_4 hPy1 ho) (lon_4 hPy1 ho) hb2 ?_
      obtain ⟨y2, qy2, h⟩ := bindE h
      have cy2 := v_X4_hasNearest hPy1 qy2
      refine C_S1r (pc := 25) (k' := k_X4_hasNearest) dX8_hasNearest_25 w5_135 i_X4_hasNearest (Nat.le_of_ble_eq_true rfl) (Nat.le_of_ble_eq_true rfl) (Nat.le_of_ble_eq_true rfl) (cy2) ?_
      have hPy2 := cy2.1.1
      refine Y_if_eq (pc := 28) (tgt := 35) dX8_hasNearest_28 (by decide) (fun hc3 => ?_) (fun hc3 => ?_)
      · replace h := ifT hc3 h
        refine Y_iconst (pc := 35) (v := (0 : Int32)) dX8_hasNearest_35 rfl ?_
        cases h
        exact Y_iret (pc := 36) rfl (nar_bo (by decide)) dX8_hasNearest_36 hPy2 ⟨rfl, rfl⟩
      · replace h := ifF hc3 h
        refine Y_iconst (pc := 31) (v := (1 : Int32)) dX8_hasNearest_31 rfl ?_
        refine Y_goto (pc := 32) (tgt := 36) dX8_hasNearest_32 (by decide) ?_
        cases h
        exact Y_iret (pc := 36) rfl (nar_bo (by decide)) dX8_hasNearest_36 hPy2 ⟨rfl, rfl⟩
theorem v_X8_hasNearest {o : Nat} {x1 : Int32} {M z} (ho : o = 18 ∨ o = 28) (hP : Lay M) (h : d_X8_hasNearest o x1 M = some z) : CC Lay k_X8_hasNearest [.ref (o + 1), .int x1] M z.2 (Qv (some (.int z.1)) z.2) xF :=
  CC.ofVV (by decide) rfl (Nat.le_of_ble_eq_true rfl) (b_X8_hasNearest ho hP h)
theorem b_X3_shapeFromTop {o : Nat} {x1 : Int32} {M z} (ho : o = 18 ∨ o = 28) (hP : Lay M) (h : d_X3_shapeFromTop o x1 M = some z) : VV Lay k_X3_shapeFromTop 0 [(0, .ref o), (1, .int x1)] [] M z.2 (Qv (some (.int z.1)) z.2) xF := by
  unfold d_X3_shapeFromTop at h
  refine Y_aload_n (pc := 0) (j := 0) dX3_shapeFromTop_0 rfl rfl ?_
  refine Z_getr (pc := 1) dX3_shapeFromTop_1 w1_177 (lo_0 hP ho) fr_4_6 (lor_0_6 hP ho) ?_
  refine Y_aload_n (pc := 4) (j := 0) dX3_shapeFromTop_4 rfl rfl ?_
  refine Z_getr (pc := 5) dX3_shapeFromTop_5 w1_171 (lo_0 hP ho) fr_4_2 (lor_0_2 hP ho) ?_
  refine Z_getr (pc := 8) dX3_shapeFromTop_8 w1_153 (lo_1 hP ho) fr_8_1 (lor_1_1 hP ho) ?_
  refine Y_aload_n (pc := 11) (j := 0) dX3_shapeFromTop_11 rfl rfl ?_
  refine Y_iload_n (pc := 12) (j := 1) dX3_shapeFromTop_12 rfl rfl ?_
  obtain ⟨y1, qy1, h⟩ := bindE h
  have cy1 := v_X3_fromTop ho hP qy1
  refine C_V1r (pc := 13) (k' := k_X3_fromTop) dX3_shapeFromTop_13 w5_106 i_X3_fromTop (lo_0 hP ho) ⟨Nat.le_of_ble_eq_true rfl, Nat.le_of_ble_eq_true rfl⟩ rfl (Nat.le_of_ble_eq_true rfl) (Nat.le_of_ble_eq_true rfl) (Nat.le_of_ble_eq_true rfl) (cy1) ?_
  have hPy1 := cy1.1.1
  obtain ⟨hb1, h⟩ := okE h
  refine Y_iald (pc := 16) dX3_shapeFromTop_16 (lo_3 hPy1 ho) (lon_3 hPy1 ho) hb1 ?_
  obtain ⟨hb2, h⟩ := okE h
  refine Y_iald (pc := 17) dX3_shapeFromTop_17 (lo_9 hPy1 ho) (lon_9 hPy1 ho) hb2 ?_
  cases h
  exact Y_iret (pc := 18) rfl rfl dX3_shapeFromTop_18 hPy1 ⟨rfl, rfl⟩
theorem v_X3_shapeFromTop {o : Nat} {x1 : Int32} {M z} (ho : o = 18 ∨ o = 28) (hP : Lay M) (h : d_X3_shapeFromTop o x1 M = some z) : CC Lay k_X3_shapeFromTop [.ref o, .int x1] M z.2 (Qv (some (.int z.1)) z.2) xF :=
  CC.ofVV (by decide) rfl (Nat.le_of_ble_eq_true rfl) (b_X3_shapeFromTop ho hP h)
theorem b_X7_has {x1 : Int32} {x2 : Int32} {M z} (hP : Lay M) (h : d_X7_has x1 x2 M = some z) : VV Lay k_X7_has 0 [(0, .ref 11), (1, .int x1), (2, .int x2)] [] M z.2 (Qv (some (.int z.1)) z.2) xF := by
  unfold d_X7_has at h
  refine Y_aload_n (pc := 0) (j := 0) dX7_has_0 rfl rfl ?_
  refine Z_getr (pc := 1) dX7_has_1 w1_112 (lk_11 hP) fr_7_2 (lr_11_2 hP) ?_
  refine Y_iload_n (pc := 4) (j := 1) dX7_has_4 rfl rfl ?_
  obtain ⟨hb1, h⟩ := okE h
  refine Y_iald (pc := 5) dX7_has_5 (lk_14 hP) (ln_14 hP) hb1 ?_
  refine Y_iload_n (pc := 6) (j := 2) dX7_has_6 rfl rfl ?_
  refine Y_ishr (pc := 7) dX7_has_7 ?_
  refine Y_iconst (pc := 8) (v := (1 : Int32)) dX7_has_8 rfl ?_
  refine Y_iand (pc := 9) dX7_has_9 ?_
  refine Y_if_eq (pc := 10) (tgt := 17) dX7_has_10 (by decide) (fun hc1 => ?_) (fun hc1 => ?_)
  · replace h := ifT hc1 h
    refine Y_iconst (pc := 17) (v := (0 : Int32)) dX7_has_17 rfl ?_
    cases h
    exact Y_iret (pc := 18) rfl (nar_bo (by decide)) dX7_has_18 hP ⟨rfl, rfl⟩
  · replace h := ifF hc1 h
    refine Y_iconst (pc := 13) (v := (1 : Int32)) dX7_has_13 rfl ?_
    refine Y_goto (pc := 14) (tgt := 18) dX7_has_14 (by decide) ?_
    cases h
    exact Y_iret (pc := 18) rfl (nar_bo (by decide)) dX7_has_18 hP ⟨rfl, rfl⟩
theorem v_X7_has {x1 : Int32} {x2 : Int32} {M z} (hP : Lay M) (h : d_X7_has x1 x2 M = some z) : CC Lay k_X7_has [.ref 11, .int x1, .int x2] M z.2 (Qv (some (.int z.1)) z.2) xF :=
  CC.ofVV (by decide) rfl (Nat.le_of_ble_eq_true rfl) (b_X7_has hP h)
theorem b_X7_canPut {x1 : Int32} {x2 : Int32} {M z} (hP : Lay M) (h : d_X7_canPut x1 x2 M = some z) : VV Lay k_X7_canPut 0 [(0, .ref 11), (1, .int x1), (2, .int x2)] [] M z.2 (Qv (some (.int z.1)) z.2) xF := by
  unfold d_X7_canPut at h
  refine Y_aload_n (pc := 0) (j := 0) dX7_canPut_0 rfl rfl ?_
  refine Y_iload_n (pc := 1) (j := 1) dX7_canPut_1 rfl rfl ?_
  refine Y_iload_n (pc := 2) (j := 2) dX7_canPut_2 rfl rfl ?_
  obtain ⟨y1, qy1, h⟩ := bindE h
  have cy1 := v_X7_has hP qy1
  refine C_V2r (pc := 3) (k' := k_X7_has) dX7_canPut_3 w5_152 i_X7_has (lk_11 hP) ⟨Nat.le_of_ble_eq_true rfl, Nat.le_of_ble_eq_true rfl⟩ rfl (Nat.le_of_ble_eq_true rfl) (Nat.le_of_ble_eq_true rfl) (Nat.le_of_ble_eq_true rfl) (cy1) ?_
  have hPy1 := cy1.1.1
  refine Y_if_ne (pc := 6) (tgt := 33) dX7_canPut_6 (by decide) (fun hc1 => ?_) (fun hc1 => ?_)
  · replace h := ifF hc1 h
    refine Y_iconst (pc := 33) (v := (1 : Int32)) dX7_canPut_33 rfl ?_
    refine Y_goto (pc := 34) (tgt := 38) dX7_canPut_34 (by decide) ?_
    cases h
    exact Y_iret (pc := 38) rfl (nar_bo (by decide)) dX7_canPut_38 hPy1 ⟨rfl, rfl⟩
  · replace h := ifT hc1 h
    refine Y_aload_n (pc := 9) (j := 0) dX7_canPut_9 rfl rfl ?_
    refine Z_getr (pc := 10) dX7_canPut_10 w1_115 (lk_11 hPy1) fr_7_4 (lr_11_4 hPy1) ?_
    refine Y_iload_n (pc := 13) (j := 1) dX7_canPut_13 rfl rfl ?_
    refine Y_bipush (pc := 14) (v := (6 : Int32)) dX7_canPut_14 rfl ?_
    refine Y_imul (pc := 16) dX7_canPut_16 ?_
    refine Y_iload_n (pc := 17) (j := 2) dX7_canPut_17 rfl rfl ?_
    refine Y_iadd (pc := 18) dX7_canPut_18 ?_
    obtain ⟨hb1, h⟩ := okE h
    refine Y_iald (pc := 19) dX7_canPut_19 (lk_16 hPy1) (ln_16 hPy1) hb1 ?_
    refine Y_iconst (pc := 20) (v := (-1 : Int32)) dX7_canPut_20 rfl ?_
    refine Y_icmp_ne (pc := 21) (tgt := 33) dX7_canPut_21 (by decide) (fun hc2 => ?_) (fun hc2 => ?_)
    · replace h := ifF hc2 h
      refine Y_iconst (pc := 33) (v := (1 : Int32)) dX7_canPut_33 rfl ?_
      refine Y_goto (pc := 34) (tgt := 38) dX7_canPut_34 (by decide) ?_
      cases h
      exact Y_iret (pc := 38) rfl (nar_bo (by decide)) dX7_canPut_38 hPy1 ⟨rfl, rfl⟩
    · replace h := ifT hc2 h
      refine Y_aload_n (pc := 24) (j := 0) dX7_canPut_24 rfl rfl ?_
      refine Z_geti (pc := 25) dX7_canPut_25 w1_120 (lk_11 hPy1) fi_7_6 ?_
      refine Y_bipush (pc := 28) (v := (60 : Int32)) dX7_canPut_28 rfl ?_
      refine Y_icmp_ge (pc := 30) (tgt := 37) dX7_canPut_30 (by decide) (fun hc3 => ?_) (fun hc3 => ?_)
      · replace h := ifT hc3 h
        refine Y_iconst (pc := 37) (v := (0 : Int32)) dX7_canPut_37 rfl ?_
        cases h
        exact Y_iret (pc := 38) rfl (nar_bo (by decide)) dX7_canPut_38 hPy1 ⟨rfl, rfl⟩
      · replace h := ifF hc3 h
        refine Y_iconst (pc := 33) (v := (1 : Int32)) dX7_canPut_33 rfl ?_
        refine Y_goto (pc := 34) (tgt := 38) dX7_canPut_34 (by decide) ?_
        cases h
        exact Y_iret (pc := 38) rfl (nar_bo (by decide)) dX7_canPut_38 hPy1 ⟨rfl, rfl⟩
theorem v_X7_canPut {x1 : Int32} {x2 : Int32} {M z} (hP : Lay M) (h : d_X7_canPut x1 x2 M = some z) : CC Lay k_X7_canPut [.ref 11, .int x1, .int x2] M z.2 (Qv (some (.int z.1)) z.2) xF :=
  CC.ofVV (by decide) rfl (Nat.le_of_ble_eq_true rfl) (b_X7_canPut hP h)
theorem b_X3_classFromTop {o : Nat} {M z} (ho : o = 18 ∨ o = 28) (hP : Lay M) (h : d_X3_classFromTop o M = some z) : VV Lay k_X3_classFromTop 0 [(0, .ref o)] [] M z.2 (Qv (some (.int z.1)) z.2) xF := by
  unfold d_X3_classFromTop at h
  refine Y_aload_n (pc := 0) (j := 0) dX3_classFromTop_0 rfl rfl ?_
  refine Z_getr (pc := 1) dX3_classFromTop_1 w1_169 (lo_0 hP ho) fr_4_1 (lor_0_1 hP ho) ?_
  refine Z_getr (pc := 4) dX3_classFromTop_4 w1_109 (lk_11 hP) fr_7_0 (lr_11_0 hP) ?_
  refine Y_aload_n (pc := 7) (j := 0) dX3_classFromTop_7 rfl rfl ?_
  refine Y_iconst (pc := 8) (v := (1 : Int32)) dX3_classFromTop_8 rfl ?_
  obtain ⟨y1, qy1, h⟩ := bindE h
  have cy1 := v_X3_shapeFromTop ho hP qy1
  refine C_V1r (pc := 9) (k' := k_X3_shapeFromTop) dX3_classFromTop_9 w5_140 i_X3_shapeFromTop (lo_0 hP ho) ⟨Nat.le_of_ble_eq_true rfl, Nat.le_of_ble_eq_true rfl⟩ rfl (Nat.le_of_ble_eq_true rfl) (Nat.le_of_ble_eq_true rfl) (Nat.le_of_ble_eq_true rfl) (cy1) ?_
  have hPy1 := cy1.1.1
  obtain ⟨hb1, h⟩ := okE h
  refine Y_iald (pc := 12) dX3_classFromTop_12 (lk_12 hPy1) (ln_12 hPy1) hb1 ?_
  cases h
  exact Y_iret (pc := 13) rfl rfl dX3_classFromTop_13 hPy1 ⟨rfl, rfl⟩
theorem v_X3_classFromTop {o : Nat} {M z} (ho : o = 18 ∨ o = 28) (hP : Lay M) (h : d_X3_classFromTop o M = some z) : CC Lay k_X3_classFromTop [.ref o] M z.2 (Qv (some (.int z.1)) z.2) xF :=
  CC.ofVV (by decide) rfl (Nat.le_of_ble_eq_true rfl) (b_X3_classFromTop ho hP h)
theorem b_X5_methodOf_5b {k5 : (Int32 × Int32) → Mem → Option (Int32 × Mem)} {x2 : Int32} {x3 : Int32} {x4 : Int32} {M z} (hk5 : ∀ (a : (Int32 × Int32)) (M : Mem) (z : Int32 × Mem), Lay M → k5 a M = some z → VV Lay k_X5_methodOf 5 [(0, .ref 2), (2, .int x2), (3, .int a.1), (4, .int a.2)] [] M z.2 (Qv (some (.int z.1)) z.2) xF) (hP : Lay M) (h : d_X5_methodOf_5b k5 x2 x3 x4 M = some z) : VV Lay k_X5_methodOf 5 [(0, .ref 2), (2, .int x2), (3, .int x3), (4, .int x4)] [] M z.2 (Qv (some (.int z.1)) z.2) xF := by
  unfold d_X5_methodOf_5b at h
  refine Y_iload (pc := 5) (j := 3) dX5_methodOf_5 rfl ?_
  refine Y_iconst (pc := 7) (v := (5 : Int32)) dX5_methodOf_7 rfl ?_
  refine Y_icmp_ge (pc := 8) (tgt := 56) dX5_methodOf_8 (by decide) (fun hc1 => ?_) (fun hc1 => ?_)
  · replace h := ifT hc1 h
    refine Y_iconst (pc := 56) (v := (-1 : Int32)) dX5_methodOf_56 rfl ?_
    cases h
    exact Y_iret (pc := 57) rfl rfl dX5_methodOf_57 hP ⟨rfl, rfl⟩
  · replace h := ifF hc1 h
    refine Y_iload_n (pc := 11) (j := 2) dX5_methodOf_11 rfl rfl ?_
    refine Y_iconst (pc := 12) (v := (-1 : Int32)) dX5_methodOf_12 rfl ?_
    refine Y_icmp_eq (pc := 13) (tgt := 56) dX5_methodOf_13 (by decide) (fun hc2 => ?_) (fun hc2 => ?_)
    · replace h := ifT hc2 h
      refine Y_iconst (pc := 56) (v := (-1 : Int32)) dX5_methodOf_56 rfl ?_
      cases h
      exact Y_iret (pc := 57) rfl rfl dX5_methodOf_57 hP ⟨rfl, rfl⟩
    · replace h := ifF hc2 h
      refine Y_aload_n (pc := 16) (j := 0) dX5_methodOf_16 rfl rfl ?_
      refine Z_getr (pc := 17) dX5_methodOf_17 w1_73 (lk_2 hP) fr_5_7 (lr_2_7 hP) ?_
      refine Y_iload_n (pc := 20) (j := 2) dX5_methodOf_20 rfl rfl ?_
      refine Y_bipush (pc := 21) (v := (6 : Int32)) dX5_methodOf_21 rfl ?_
      refine Y_imul (pc := 23) dX5_methodOf_23 ?_
      refine Y_iload_n (pc := 24) (j := 1) dX5_methodOf_24 rfl rfl ?_
      refine Y_iadd (pc := 25) dX5_methodOf_25 ?_
      obtain ⟨hb1, h⟩ := okE h
      refine Y_iald (pc := 26) dX5_methodOf_26 (lk_10 hP) (ln_10 hP) hb1 ?_
      refine Y_iconst (pc := 27) (v := (-1 : Int32)) dX5_methodOf_27 rfl ?_
      refine Y_icmp_eq (pc := 28) (tgt := 43) dX5_methodOf_28 (by decide) (fun hc3 => ?_) (fun hc3 => ?_)
      · replace h := ifT hc3 h
        refine Y_aload_n (pc := 43) (j := 0) dX5_methodOf_43 rfl rfl ?_
        refine Z_getr (pc := 44) dX5_methodOf_44 w1_72 (lk_2 hP) fr_5_6 (lr_2_6 hP) ?_
        refine Y_iload_n (pc := 47) (j := 2) dX5_methodOf_47 rfl rfl ?_
        obtain ⟨hb2, h⟩ := okE h
        refine Y_iald (pc := 48) dX5_methodOf_48 (lk_9 hP) (ln_9 hP) hb2 ?_
        obtain ⟨b1, eb1, h⟩ := bndE h
        refine VV.topI eb1 ?_
        refine Y_istore_n (pc := 49) (lv1 := [(3, .int b1), (0, .ref 2), (2, .int x2), (4, .int x4)]) dX5_methodOf_49 rfl (by decide) rfl ?_
        obtain ⟨b2, eb2, h⟩ := bndE h
        refine Y_iinc (pc := 50) (j := 3) (v := b2) (lv1 := [(4, .int b2), (3, .int b1), (0, .ref 2), (2, .int x2)]) dX5_methodOf_50 rfl eb2.symm (by decide) rfl ?_
        refine Y_goto (pc := 53) (tgt := 5) dX5_methodOf_53 (by decide) ?_
        refine VV.sub [2, 3, 1, 0] rfl ?_
        exact hk5 _ _ _ hP h
      · replace h := ifF hc3 h
        refine Y_aload_n (pc := 31) (j := 0) dX5_methodOf_31 rfl rfl ?_
        refine Z_getr (pc := 32) dX5_methodOf_32 w1_73 (lk_2 hP) fr_5_7 (lr_2_7 hP) ?_
        refine Y_iload_n (pc := 35) (j := 2) dX5_methodOf_35 rfl rfl ?_
        refine Y_bipush (pc := 36) (v := (6 : Int32)) dX5_methodOf_36 rfl ?_
        refine Y_imul (pc := 38) dX5_methodOf_38 ?_
        refine Y_iload_n (pc := 39) (j := 1) dX5_methodOf_39 rfl rfl ?_
        refine Y_iadd (pc := 40) dX5_methodOf_40 ?_
        obtain ⟨hb3, h⟩ := okE h
        refine Y_iald (pc := 41) dX5_methodOf_41 (lk_10 hP) (ln_10 hP) hb3 ?_
        cases h
        exact Y_iret (pc := 42) rfl rfl dX5_methodOf_42 hP ⟨rfl, rfl⟩
theorem b_X5_methodOf_5 {x2 : Int32} (n : Nat) : ∀ (a : (Int32 × Int32)) (M : Mem) (z : Int32 × Mem), d_X5_methodOf_5 x2 n a M = some z → Lay M → VV Lay k_X5_methodOf 5 [(0, .ref 2), (2, .int x2), (3, .int a.1), (4, .int a.2)] [] M z.2 (Qv (some (.int z.1)) z.2) xF :=
  lp_ind (G := fun (a : (Int32 × Int32)) (M : Mem) (z : Int32 × Mem) => Lay M → VV Lay k_X5_methodOf 5 [(0, .ref 2), (2, .int x2), (3, .int a.1), (4, .int a.2)] [] M z.2 (Qv (some (.int z.1)) z.2) xF) (fun k hk a M z h hP => b_X5_methodOf_5b  (fun a M z hP h => hk a M z h hP) hP h) n
theorem b_X5_methodOf {x1 : Int32} {x2 : Int32} {M z} (hP : Lay M) (h : d_X5_methodOf x1 x2 M = some z) : VV Lay k_X5_methodOf 0 [(0, .ref 2), (1, .int x1), (2, .int x2)] [] M z.2 (Qv (some (.int z.1)) z.2) xF := by
  unfold d_X5_methodOf at h
  refine Y_iload_n (pc := 0) (j := 1) dX5_methodOf_0 rfl rfl ?_
  refine Y_istore_n (pc := 1) (lv1 := [(3, .int x1), (0, .ref 2), (1, .int x1), (2, .int x2)]) dX5_methodOf_1 rfl (by decide) rfl ?_
  refine Y_iconst (pc := 2) (v := (0 : Int32)) dX5_methodOf_2 rfl ?_
  refine Y_istore (pc := 3) (lv1 := [(4, .int (0 : Int32)), (3, .int x1), (0, .ref 2), (1, .int x1), (2, .int x2)]) dX5_methodOf_3 (by decide) rfl ?_
  refine VV.sub [2, 4, 1, 0] rfl ?_
  exact b_X5_methodOf_5  fuel _ _ _ h hP
theorem v_X5_methodOf {x1 : Int32} {x2 : Int32} {M z} (hP : Lay M) (h : d_X5_methodOf x1 x2 M = some z) : CC Lay k_X5_methodOf [.ref 2, .int x1, .int x2] M z.2 (Qv (some (.int z.1)) z.2) xF :=
  CC.ofVV (by decide) rfl (Nat.le_of_ble_eq_true rfl) (b_X5_methodOf hP h)
theorem b_X3_failureByDepth {o : Nat} {M z} (ho : o = 18 ∨ o = 28) (hP : Lay M) (h : d_X3_failureByDepth o M = some z) : VV Lay k_X3_failureByDepth 0 [(0, .ref o)] [] M z.2 (Qv (some (.int z.1)) z.2) xF := by
  unfold d_X3_failureByDepth at h
  refine Y_aload_n (pc := 0) (j := 0) dX3_failureByDepth_0 rfl rfl ?_
  refine Z_geti (pc := 1) dX3_failureByDepth_1 w1_184 (lo_0 hP ho) fi_4_9 ?_
  refine Y_bipush (pc := 4) (v := (12 : Int32)) dX3_failureByDepth_4 rfl ?_
  refine Y_icmp_lt (pc := 6) (tgt := 14) dX3_failureByDepth_6 (by decide) (fun hc1 => ?_) (fun hc1 => ?_)
  · replace h := ifT hc1 h
    refine Y_bipush (pc := 14) (v := (45 : Int32)) dX3_failureByDepth_14 rfl ?_
    cases h
    exact Y_iret (pc := 16) rfl (nar_ch (by decide)) dX3_failureByDepth_16 hP ⟨rfl, rfl⟩
  · replace h := ifF hc1 h
    refine Y_bipush (pc := 9) (v := (100 : Int32)) dX3_failureByDepth_9 rfl ?_
    refine Y_goto (pc := 11) (tgt := 16) dX3_failureByDepth_11 (by decide) ?_
    cases h
    exact Y_iret (pc := 16) rfl (nar_ch (by decide)) dX3_failureByDepth_16 hP ⟨rfl, rfl⟩
theorem v_X3_failureByDepth {o : Nat} {M z} (ho : o = 18 ∨ o = 28) (hP : Lay M) (h : d_X3_failureByDepth o M = some z) : CC Lay k_X3_failureByDepth [.ref o] M z.2 (Qv (some (.int z.1)) z.2) xF :=
  CC.ofVV (by decide) rfl (Nat.le_of_ble_eq_true rfl) (b_X3_failureByDepth ho hP h)
set_option maxRecDepth 20000 in
theorem b_X3_failureByValue {o : Nat} {x1 : Int32} {x2 : Int32} {M z} (ho : o = 18 ∨ o = 28) (hP : Lay M) (h : d_X3_failureByValue o x1 x2 M = some z) : VV Lay k_X3_failureByValue 0 [(0, .ref o), (1, .int x1), (2, .int x2)] [] M z.2 (Qv (some (.int z.1)) z.2) xF := by
  unfold d_X3_failureByValue at h
  refine Y_iload_n (pc := 0) (j := 1) dX3_failureByValue_0 rfl rfl ?_
  refine Y_lookup (pc := 1) dX3_failureByValue_1 (by decide) [(37, 76), (47, 76), (99, 188), (103, 114), (109, 162), (110, 193), (112, 138), (119, 91)] 210 (by decide) (by decide) ?_ ?_
  · refine xs_cons ?_ <| xs_cons ?_ <| xs_cons ?_ <| xs_cons ?_ <| xs_cons ?_ <| xs_cons ?_ <| xs_cons ?_ <| xs_cons ?_ <| xs_nil
    · intro e9
      replace h := ifT (by rw [e9] <;> decide) h
      refine Y_aload_n (pc := 76) (j := 0) dX3_failureByValue_76 rfl rfl ?_
      obtain ⟨y1, qy1, h⟩ := bindE h
      have cy1 := v_X3_dividesByZero ho hP qy1
      refine C_V0r (pc := 77) (k' := k_X3_dividesByZero) dX3_failureByValue_77 w5_119 i_X3_dividesByZero (lo_0 hP ho) ⟨Nat.le_of_ble_eq_true rfl, Nat.le_of_ble_eq_true rfl⟩ rfl (Nat.le_of_ble_eq_true rfl) (Nat.le_of_ble_eq_true rfl) (Nat.le_of_ble_eq_true rfl) (cy1) ?_
      have hPy1 := cy1.1.1
      refine Y_if_eq (pc := 80) (tgt := 88) dX3_failureByValue_80 (by decide) (fun hc1 => ?_) (fun hc1 => ?_)
      · replace h := ifT hc1 h
        refine Y_bipush (pc := 88) (v := (45 : Int32)) dX3_failureByValue_88 rfl ?_
        cases h
        exact Y_iret (pc := 90) rfl (nar_ch (by decide)) dX3_failureByValue_90 hPy1 ⟨rfl, rfl⟩
      · replace h := ifF hc1 h
        refine Y_bipush (pc := 83) (v := (48 : Int32)) dX3_failureByValue_83 rfl ?_
        refine Y_goto (pc := 85) (tgt := 90) dX3_failureByValue_85 (by decide) ?_
        cases h
        exact Y_iret (pc := 90) rfl (nar_ch (by decide)) dX3_failureByValue_90 hPy1 ⟨rfl, rfl⟩
    · intro e9
      replace h := ifT (by rw [e9] <;> decide) h
      refine Y_aload_n (pc := 76) (j := 0) dX3_failureByValue_76 rfl rfl ?_
      obtain ⟨y1, qy1, h⟩ := bindE h
      have cy1 := v_X3_dividesByZero ho hP qy1
      refine C_V0r (pc := 77) (k' := k_X3_dividesByZero) dX3_failureByValue_77 w5_119 i_X3_dividesByZero (lo_0 hP ho) ⟨Nat.le_of_ble_eq_true rfl, Nat.le_of_ble_eq_true rfl⟩ rfl (Nat.le_of_ble_eq_true rfl) (Nat.le_of_ble_eq_true rfl) (Nat.le_of_ble_eq_true rfl) (cy1) ?_
      have hPy1 := cy1.1.1
      refine Y_if_eq (pc := 80) (tgt := 88) dX3_failureByValue_80 (by decide) (fun hc1 => ?_) (fun hc1 => ?_)
      · replace h := ifT hc1 h
        refine Y_bipush (pc := 88) (v := (45 : Int32)) dX3_failureByValue_88 rfl ?_
        cases h
        exact Y_iret (pc := 90) rfl (nar_ch (by decide)) dX3_failureByValue_90 hPy1 ⟨rfl, rfl⟩
      · replace h := ifF hc1 h
        refine Y_bipush (pc := 83) (v := (48 : Int32)) dX3_failureByValue_83 rfl ?_
        refine Y_goto (pc := 85) (tgt := 90) dX3_failureByValue_85 (by decide) ?_
        cases h
        exact Y_iret (pc := 90) rfl (nar_ch (by decide)) dX3_failureByValue_90 hPy1 ⟨rfl, rfl⟩
    · intro e9
      replace h := ifF (by rw [e9] <;> decide) h
      replace h := ifT (by rw [e9] <;> decide) h
      refine Y_aload_n (pc := 188) (j := 0) dX3_failureByValue_188 rfl rfl ?_
      obtain ⟨y2, qy2, h⟩ := bindE h
      have cy2 := v_X3_failureByDepth ho hP qy2
      refine C_V0r (pc := 189) (k' := k_X3_failureByDepth) dX3_failureByValue_189 w5_161 i_X3_failureByDepth (lo_0 hP ho) ⟨Nat.le_of_ble_eq_true rfl, Nat.le_of_ble_eq_true rfl⟩ rfl (Nat.le_of_ble_eq_true rfl) (Nat.le_of_ble_eq_true rfl) (Nat.le_of_ble_eq_true rfl) (cy2) ?_
      have hPy2 := cy2.1.1
      obtain ⟨hb1, h⟩ := okE h
      cases h
      exact Y_iret (pc := 192) rfl (nar_ch hb1) dX3_failureByValue_192 hPy2 ⟨rfl, rfl⟩
    · intro e9
      replace h := ifF (by rw [e9] <;> decide) h
      replace h := ifF (by rw [e9] <;> decide) h
      replace h := ifT (by rw [e9] <;> decide) h
      refine Y_aload_n (pc := 114) (j := 0) dX3_failureByValue_114 rfl rfl ?_
      refine Z_getr (pc := 115) dX3_failureByValue_115 w1_169 (lo_0 hP ho) fr_4_1 (lor_0_1 hP ho) ?_
      refine Y_aload_n (pc := 118) (j := 0) dX3_failureByValue_118 rfl rfl ?_
      refine Y_iconst (pc := 119) (v := (1 : Int32)) dX3_failureByValue_119 rfl ?_
      obtain ⟨y3, qy3, h⟩ := bindE h
      have cy3 := v_X3_shapeFromTop ho hP qy3
      refine C_V1r (pc := 120) (k' := k_X3_shapeFromTop) dX3_failureByValue_120 w5_140 i_X3_shapeFromTop (lo_0 hP ho) ⟨Nat.le_of_ble_eq_true rfl, Nat.le_of_ble_eq_true rfl⟩ rfl (Nat.le_of_ble_eq_true rfl) (Nat.le_of_ble_eq_true rfl) (Nat.le_of_ble_eq_true rfl) (cy3) ?_
      have hPy3 := cy3.1.1
      refine Y_iload_n (pc := 123) (j := 2) dX3_failureByValue_123 rfl rfl ?_
      obtain ⟨y4, qy4, h⟩ := bindE h
      have cy4 := v_X7_has hPy3 qy4
      refine C_V2r (pc := 124) (k' := k_X7_has) dX3_failureByValue_124 w5_144 i_X7_has (lk_11 hPy3) ⟨Nat.le_of_ble_eq_true rfl, Nat.le_of_ble_eq_true rfl⟩ rfl (Nat.le_of_ble_eq_true rfl) (Nat.le_of_ble_eq_true rfl) (Nat.le_of_ble_eq_true rfl) (cy4) ?_
      have hPy4 := cy4.1.1
      refine Y_if_eq (pc := 127) (tgt := 135) dX3_failureByValue_127 (by decide) (fun hc2 => ?_) (fun hc2 => ?_)
      · replace h := ifT hc2 h
        refine Y_bipush (pc := 135) (v := (102 : Int32)) dX3_failureByValue_135 rfl ?_
        cases h
        exact Y_iret (pc := 137) rfl (nar_ch (by decide)) dX3_failureByValue_137 hPy4 ⟨rfl, rfl⟩
      · replace h := ifF hc2 h
        refine Y_bipush (pc := 130) (v := (45 : Int32)) dX3_failureByValue_130 rfl ?_
        refine Y_goto (pc := 132) (tgt := 137) dX3_failureByValue_132 (by decide) ?_
        cases h
        exact Y_iret (pc := 137) rfl (nar_ch (by decide)) dX3_failureByValue_137 hPy4 ⟨rfl, rfl⟩
    · intro e9
      replace h := ifF (by rw [e9] <;> decide) h
      replace h := ifF (by rw [e9] <;> decide) h
      replace h := ifF (by rw [e9] <;> decide) h
      replace h := ifT (by rw [e9] <;> decide) h
      refine Y_aload_n (pc := 162) (j := 0) dX3_failureByValue_162 rfl rfl ?_
      refine Z_getr (pc := 163) dX3_failureByValue_163 w1_167 (lo_0 hP ho) fr_4_0 (lor_0_0 hP ho) ?_
      refine Y_aload_n (pc := 166) (j := 0) dX3_failureByValue_166 rfl rfl ?_
      obtain ⟨y5, qy5, h⟩ := bindE h
      have cy5 := v_X3_classFromTop ho hP qy5
      refine C_V0r (pc := 167) (k' := k_X3_classFromTop) dX3_failureByValue_167 w5_153 i_X3_classFromTop (lo_0 hP ho) ⟨Nat.le_of_ble_eq_true rfl, Nat.le_of_ble_eq_true rfl⟩ rfl (Nat.le_of_ble_eq_true rfl) (Nat.le_of_ble_eq_true rfl) (Nat.le_of_ble_eq_true rfl) (cy5) ?_
      have hPy5 := cy5.1.1
      refine Y_iload_n (pc := 170) (j := 2) dX3_failureByValue_170 rfl rfl ?_
      obtain ⟨y6, qy6, h⟩ := bindE h
      have cy6 := v_X5_methodOf hPy5 qy6
      refine C_V2r (pc := 171) (k' := k_X5_methodOf) dX3_failureByValue_171 w5_157 i_X5_methodOf (lk_2 hPy5) ⟨Nat.le_of_ble_eq_true rfl, Nat.le_of_ble_eq_true rfl⟩ rfl (Nat.le_of_ble_eq_true rfl) (Nat.le_of_ble_eq_true rfl) (Nat.le_of_ble_eq_true rfl) (cy6) ?_
      have hPy6 := cy6.1.1
      refine Y_iconst (pc := 174) (v := (-1 : Int32)) dX3_failureByValue_174 rfl ?_
      refine Y_icmp_ne (pc := 175) (tgt := 183) dX3_failureByValue_175 (by decide) (fun hc3 => ?_) (fun hc3 => ?_)
      · replace h := ifF hc3 h
        refine Y_aload_n (pc := 183) (j := 0) dX3_failureByValue_183 rfl rfl ?_
        obtain ⟨y7, qy7, h⟩ := bindE h
        have cy7 := v_X3_failureByDepth ho hPy6 qy7
        refine C_V0r (pc := 184) (k' := k_X3_failureByDepth) dX3_failureByValue_184 w5_161 i_X3_failureByDepth (lo_0 hPy6 ho) ⟨Nat.le_of_ble_eq_true rfl, Nat.le_of_ble_eq_true rfl⟩ rfl (Nat.le_of_ble_eq_true rfl) (Nat.le_of_ble_eq_true rfl) (Nat.le_of_ble_eq_true rfl) (cy7) ?_
        have hPy7 := cy7.1.1
        obtain ⟨hb2, h⟩ := okE h
        cases h
        exact Y_iret (pc := 187) rfl (nar_ch hb2) dX3_failureByValue_187 hPy7 ⟨rfl, rfl⟩
      · replace h := ifT hc3 h
        refine Y_bipush (pc := 178) (v := (109 : Int32)) dX3_failureByValue_178 rfl ?_
        refine Y_goto (pc := 180) (tgt := 187) dX3_failureByValue_180 (by decide) ?_
        cases h
        exact Y_iret (pc := 187) rfl (nar_ch (by decide)) dX3_failureByValue_187 hPy6 ⟨rfl, rfl⟩
    · intro e9
      replace h := ifF (by rw [e9] <;> decide) h
      replace h := ifF (by rw [e9] <;> decide) h
      replace h := ifF (by rw [e9] <;> decide) h
      replace h := ifF (by rw [e9] <;> decide) h
      replace h := ifT (by rw [e9] <;> decide) h
      refine Y_aload_n (pc := 193) (j := 0) dX3_failureByValue_193 rfl rfl ?_
      refine Z_geti (pc := 194) dX3_failureByValue_194 w1_187 (lo_0 hP ho) fi_4_10 ?_
      refine Y_bipush (pc := 197) (v := (60 : Int32)) dX3_failureByValue_197 rfl ?_
      refine Y_icmp_lt (pc := 199) (tgt := 207) dX3_failureByValue_199 (by decide) (fun hc4 => ?_) (fun hc4 => ?_)
      · replace h := ifT hc4 h
        refine Y_bipush (pc := 207) (v := (45 : Int32)) dX3_failureByValue_207 rfl ?_
        cases h
        exact Y_iret (pc := 209) rfl (nar_ch (by decide)) dX3_failureByValue_209 hP ⟨rfl, rfl⟩
      · replace h := ifF hc4 h
        refine Y_bipush (pc := 202) (v := (111 : Int32)) dX3_failureByValue_202 rfl ?_
        refine Y_goto (pc := 204) (tgt := 209) dX3_failureByValue_204 (by decide) ?_
        cases h
        exact Y_iret (pc := 209) rfl (nar_ch (by decide)) dX3_failureByValue_209 hP ⟨rfl, rfl⟩
    · intro e9
      replace h := ifF (by rw [e9] <;> decide) h
      replace h := ifF (by rw [e9] <;> decide) h
      replace h := ifF (by rw [e9] <;> decide) h
      replace h := ifF (by rw [e9] <;> decide) h
      replace h := ifF (by rw [e9] <;> decide) h
      replace h := ifT (by rw [e9] <;> decide) h
      refine Y_aload_n (pc := 138) (j := 0) dX3_failureByValue_138 rfl rfl ?_
      refine Z_getr (pc := 139) dX3_failureByValue_139 w1_169 (lo_0 hP ho) fr_4_1 (lor_0_1 hP ho) ?_
      refine Y_aload_n (pc := 142) (j := 0) dX3_failureByValue_142 rfl rfl ?_
      refine Y_iconst (pc := 143) (v := (2 : Int32)) dX3_failureByValue_143 rfl ?_
      obtain ⟨y8, qy8, h⟩ := bindE h
      have cy8 := v_X3_shapeFromTop ho hP qy8
      refine C_V1r (pc := 144) (k' := k_X3_shapeFromTop) dX3_failureByValue_144 w5_140 i_X3_shapeFromTop (lo_0 hP ho) ⟨Nat.le_of_ble_eq_true rfl, Nat.le_of_ble_eq_true rfl⟩ rfl (Nat.le_of_ble_eq_true rfl) (Nat.le_of_ble_eq_true rfl) (Nat.le_of_ble_eq_true rfl) (cy8) ?_
      have hPy8 := cy8.1.1
      refine Y_iload_n (pc := 147) (j := 2) dX3_failureByValue_147 rfl rfl ?_
      obtain ⟨y9, qy9, h⟩ := bindE h
      have cy9 := v_X7_canPut hPy8 qy9
      refine C_V2r (pc := 148) (k' := k_X7_canPut) dX3_failureByValue_148 w5_148 i_X7_canPut (lk_11 hPy8) ⟨Nat.le_of_ble_eq_true rfl, Nat.le_of_ble_eq_true rfl⟩ rfl (Nat.le_of_ble_eq_true rfl) (Nat.le_of_ble_eq_true rfl) (Nat.le_of_ble_eq_true rfl) (cy9) ?_
      have hPy9 := cy9.1.1
      refine Y_if_eq (pc := 151) (tgt := 159) dX3_failureByValue_151 (by decide) (fun hc5 => ?_) (fun hc5 => ?_)
      · replace h := ifT hc5 h
        refine Y_bipush (pc := 159) (v := (102 : Int32)) dX3_failureByValue_159 rfl ?_
        cases h
        exact Y_iret (pc := 161) rfl (nar_ch (by decide)) dX3_failureByValue_161 hPy9 ⟨rfl, rfl⟩
      · replace h := ifF hc5 h
        refine Y_bipush (pc := 154) (v := (45 : Int32)) dX3_failureByValue_154 rfl ?_
        refine Y_goto (pc := 156) (tgt := 161) dX3_failureByValue_156 (by decide) ?_
        cases h
        exact Y_iret (pc := 161) rfl (nar_ch (by decide)) dX3_failureByValue_161 hPy9 ⟨rfl, rfl⟩
    · intro e9
      replace h := ifF (by rw [e9] <;> decide) h
      replace h := ifF (by rw [e9] <;> decide) h
      replace h := ifF (by rw [e9] <;> decide) h
      replace h := ifF (by rw [e9] <;> decide) h
      replace h := ifF (by rw [e9] <;> decide) h
      replace h := ifF (by rw [e9] <;> decide) h
      replace h := ifT (by rw [e9] <;> decide) h
      refine Y_aload_n (pc := 91) (j := 0) dX3_failureByValue_91 rfl rfl ?_
      refine Z_getr (pc := 92) dX3_failureByValue_92 w1_171 (lo_0 hP ho) fr_4_2 (lor_0_2 hP ho) ?_
      refine Y_aload_n (pc := 95) (j := 0) dX3_failureByValue_95 rfl rfl ?_
      refine Y_iconst (pc := 96) (v := (1 : Int32)) dX3_failureByValue_96 rfl ?_
      obtain ⟨y10, qy10, h⟩ := bindE h
      have cy10 := v_X3_fromTop ho hP qy10
      refine C_V1r (pc := 97) (k' := k_X3_fromTop) dX3_failureByValue_97 w5_106 i_X3_fromTop (lo_0 hP ho) ⟨Nat.le_of_ble_eq_true rfl, Nat.le_of_ble_eq_true rfl⟩ rfl (Nat.le_of_ble_eq_true rfl) (Nat.le_of_ble_eq_true rfl) (Nat.le_of_ble_eq_true rfl) (cy10) ?_
      have hPy10 := cy10.1.1
      obtain ⟨y11, qy11, h⟩ := bindE h
      have cy11 := v_X8_hasNearest ho hPy10 qy11
      refine C_V1r (pc := 100) (k' := k_X8_hasNearest) dX3_failureByValue_100 w5_127 i_X8_hasNearest (lo_1 hPy10 ho) ⟨Nat.le_of_ble_eq_true rfl, Nat.le_of_ble_eq_true rfl⟩ rfl (Nat.le_of_ble_eq_true rfl) (Nat.le_of_ble_eq_true rfl) (Nat.le_of_ble_eq_true rfl) (cy11) ?_
      have hPy11 := cy11.1.1
      refine Y_if_eq (pc := 103) (tgt := 111) dX3_failureByValue_103 (by decide) (fun hc6 => ?_) (fun hc6 => ?_)
      · replace h := ifT hc6 h
        refine Y_bipush (pc := 111) (v := (119 : Int32)) dX3_failureByValue_111 rfl ?_
        cases h
        exact Y_iret (pc := 113) rfl (nar_ch (by decide)) dX3_failureByValue_113 hPy11 ⟨rfl, rfl⟩
      · replace h := ifF hc6 h
        refine Y_bipush (pc := 106) (v := (45 : Int32)) dX3_failureByValue_106 rfl ?_
        refine Y_goto (pc := 108) (tgt := 113) dX3_failureByValue_108 (by decide) ?_
        cases h
        exact Y_iret (pc := 113) rfl (nar_ch (by decide)) dX3_failureByValue_113 hPy11 ⟨rfl, rfl⟩
  · intro n9
    replace h := ifF (fun q => q.elim (xs_no n9 (by decide : ((37 : Int32), 76) ∈ _)) (xs_no n9 (by decide : ((47 : Int32), 76) ∈ _))) h
    replace h := ifF (xs_no n9 (by decide : ((99 : Int32), 188) ∈ _)) h
    replace h := ifF (xs_no n9 (by decide : ((103 : Int32), 114) ∈ _)) h
    replace h := ifF (xs_no n9 (by decide : ((109 : Int32), 162) ∈ _)) h
    replace h := ifF (xs_no n9 (by decide : ((110 : Int32), 193) ∈ _)) h
    replace h := ifF (xs_no n9 (by decide : ((112 : Int32), 138) ∈ _)) h
    replace h := ifF (xs_no n9 (by decide : ((119 : Int32), 91) ∈ _)) h
    refine Y_bipush (pc := 210) (v := (45 : Int32)) dX3_failureByValue_210 rfl ?_
    cases h
    exact Y_iret (pc := 212) rfl (nar_ch (by decide)) dX3_failureByValue_212 hP ⟨rfl, rfl⟩
theorem v_X3_failureByValue {o : Nat} {x1 : Int32} {x2 : Int32} {M z} (ho : o = 18 ∨ o = 28) (hP : Lay M) (h : d_X3_failureByValue o x1 x2 M = some z) : CC Lay k_X3_failureByValue [.ref o, .int x1, .int x2] M z.2 (Qv (some (.int z.1)) z.2) xF :=
  CC.ofVV (by decide) rfl (Nat.le_of_ble_eq_true rfl) (b_X3_failureByValue ho hP h)
theorem b_X3_failureAhead {o : Nat} {M z} (ho : o = 18 ∨ o = 28) (hP : Lay M) (h : d_X3_failureAhead o M = some z) : VV Lay k_X3_failureAhead 0 [(0, .ref o)] [] M z.2 (Qv (some (.int z.1)) z.2) xF := by
  unfold d_X3_failureAhead at h
  refine Y_aload_n (pc := 0) (j := 0) dX3_failureAhead_0 rfl rfl ?_
  refine Z_getr (pc := 1) dX3_failureAhead_1 w1_167 (lo_0 hP ho) fr_4_0 (lor_0_0 hP ho) ?_
  refine Y_aload_n (pc := 4) (j := 0) dX3_failureAhead_4 rfl rfl ?_
  obtain ⟨y1, qy1, h⟩ := bindE h
  have cy1 := v_X3_functionAhead ho hP qy1
  refine C_V0r (pc := 5) (k' := k_X3_functionAhead) dX3_failureAhead_5 w5_63 i_X3_functionAhead (lo_0 hP ho) ⟨Nat.le_of_ble_eq_true rfl, Nat.le_of_ble_eq_true rfl⟩ rfl (Nat.le_of_ble_eq_true rfl) (Nat.le_of_ble_eq_true rfl) (Nat.le_of_ble_eq_true rfl) (cy1) ?_
  have hPy1 := cy1.1.1
  refine Y_aload_n (pc := 8) (j := 0) dX3_failureAhead_8 rfl rfl ?_
  obtain ⟨y2, qy2, h⟩ := bindE h
  have cy2 := v_X3_indexAhead ho hPy1 qy2
  refine C_V0r (pc := 9) (k' := k_X3_indexAhead) dX3_failureAhead_9 w5_67 i_X3_indexAhead (lo_0 hPy1 ho) ⟨Nat.le_of_ble_eq_true rfl, Nat.le_of_ble_eq_true rfl⟩ rfl (Nat.le_of_ble_eq_true rfl) (Nat.le_of_ble_eq_true rfl) (Nat.le_of_ble_eq_true rfl) (cy2) ?_
  have hPy2 := cy2.1.1
  obtain ⟨y3, qy3, h⟩ := bindE h
  have cy3 := v_X5_hasCode hPy2 qy3
  refine C_V2r (pc := 12) (k' := k_X5_hasCode) dX3_failureAhead_12 w5_79 i_X5_hasCode (lk_2 hPy2) ⟨Nat.le_of_ble_eq_true rfl, Nat.le_of_ble_eq_true rfl⟩ rfl (Nat.le_of_ble_eq_true rfl) (Nat.le_of_ble_eq_true rfl) (Nat.le_of_ble_eq_true rfl) (cy3) ?_
  have hPy3 := cy3.1.1
  refine Y_if_ne (pc := 15) (tgt := 21) dX3_failureAhead_15 (by decide) (fun hc1 => ?_) (fun hc1 => ?_)
  · replace h := ifF hc1 h
    refine Y_aload_n (pc := 21) (j := 0) dX3_failureAhead_21 rfl rfl ?_
    refine Y_aload_n (pc := 22) (j := 0) dX3_failureAhead_22 rfl rfl ?_
    refine Z_getr (pc := 23) dX3_failureAhead_23 w1_167 (lo_0 hPy3 ho) fr_4_0 (lor_0_0 hPy3 ho) ?_
    refine Z_getr (pc := 26) dX3_failureAhead_26 w1_64 (lk_2 hPy3) fr_5_3 (lr_2_3 hPy3) ?_
    refine Y_aload_n (pc := 29) (j := 0) dX3_failureAhead_29 rfl rfl ?_
    obtain ⟨y4, qy4, h⟩ := bindE h
    have cy4 := v_X3_siteAhead ho hPy3 qy4
    refine C_V0r (pc := 30) (k' := k_X3_siteAhead) dX3_failureAhead_30 w5_83 i_X3_siteAhead (lo_0 hPy3 ho) ⟨Nat.le_of_ble_eq_true rfl, Nat.le_of_ble_eq_true rfl⟩ rfl (Nat.le_of_ble_eq_true rfl) (Nat.le_of_ble_eq_true rfl) (Nat.le_of_ble_eq_true rfl) (cy4) ?_
    have hPy4 := cy4.1.1
    obtain ⟨hb1, h⟩ := okE h
    refine Y_cald (pc := 33) dX3_failureAhead_33 (lk_6 hPy4) (ln_6 hPy4) hb1 ?_
    obtain ⟨hb2, h⟩ := okE h
    refine Z_putc (pc := 34) dX3_failureAhead_34 w1_181 (lo_0 hPy4 ho) fi_4_7 (Or.inl rfl) rfl hb2 ?_
    obtain ⟨M1, eM1, h⟩ := bndE h
    refine VV.mem eM1 ?_
    have hP1 := hPy4.wI eM1
    refine Y_aload_n (pc := 37) (j := 0) dX3_failureAhead_37 rfl rfl ?_
    refine Y_aload_n (pc := 38) (j := 0) dX3_failureAhead_38 rfl rfl ?_
    refine Z_getr (pc := 39) dX3_failureAhead_39 w1_167 (lo_0 hP1 ho) fr_4_0 (lor_0_0 hP1 ho) ?_
    refine Z_getr (pc := 42) dX3_failureAhead_42 w1_68 (lk_2 hP1) fr_5_4 (lr_2_4 hP1) ?_
    refine Y_aload_n (pc := 45) (j := 0) dX3_failureAhead_45 rfl rfl ?_
    obtain ⟨y5, qy5, h⟩ := bindE h
    have cy5 := v_X3_siteAhead ho hP1 qy5
    refine C_V0r (pc := 46) (k' := k_X3_siteAhead) dX3_failureAhead_46 w5_83 i_X3_siteAhead (lo_0 hP1 ho) ⟨Nat.le_of_ble_eq_true rfl, Nat.le_of_ble_eq_true rfl⟩ rfl (Nat.le_of_ble_eq_true rfl) (Nat.le_of_ble_eq_true rfl) (Nat.le_of_ble_eq_true rfl) (cy5) ?_
    have hPy5 := cy5.1.1
    obtain ⟨hb3, h⟩ := okE h
    refine Y_iald (pc := 49) dX3_failureAhead_49 (lk_7 hPy5) (ln_7 hPy5) hb3 ?_
    refine Z_puti (pc := 50) dX3_failureAhead_50 w1_183 (lo_0 hPy5 ho) fi_4_8 (Or.inl rfl) rfl ?_
    obtain ⟨M2, eM2, h⟩ := bndE h
    refine VV.mem eM2 ?_
    have hP2 := hPy5.wI eM2
    refine Y_aload_n (pc := 53) (j := 0) dX3_failureAhead_53 rfl rfl ?_
    refine Y_aload_n (pc := 54) (j := 0) dX3_failureAhead_54 rfl rfl ?_
    refine Z_geti (pc := 55) dX3_failureAhead_55 w1_181 (lo_0 hP2 ho) fi_4_7 ?_
    refine Y_aload_n (pc := 58) (j := 0) dX3_failureAhead_58 rfl rfl ?_
    refine Z_geti (pc := 59) dX3_failureAhead_59 w1_183 (lo_0 hP2 ho) fi_4_8 ?_
    obtain ⟨y6, qy6, h⟩ := bindE h
    have cy6 := v_X3_failsByStack ho hP2 qy6
    refine C_V2r (pc := 62) (k' := k_X3_failsByStack) dX3_failureAhead_62 w5_88 i_X3_failsByStack (lo_0 hP2 ho) ⟨Nat.le_of_ble_eq_true rfl, Nat.le_of_ble_eq_true rfl⟩ rfl (Nat.le_of_ble_eq_true rfl) (Nat.le_of_ble_eq_true rfl) (Nat.le_of_ble_eq_true rfl) (cy6) ?_
    have hPy6 := cy6.1.1
    refine Y_if_eq (pc := 65) (tgt := 71) dX3_failureAhead_65 (by decide) (fun hc2 => ?_) (fun hc2 => ?_)
    · replace h := ifT hc2 h
      refine Y_aload_n (pc := 71) (j := 0) dX3_failureAhead_71 rfl rfl ?_
      refine Y_aload_n (pc := 72) (j := 0) dX3_failureAhead_72 rfl rfl ?_
      refine Z_geti (pc := 73) dX3_failureAhead_73 w1_181 (lo_0 hPy6 ho) fi_4_7 ?_
      obtain ⟨y7, qy7, h⟩ := bindE h
      have cy7 := v_X3_failsByKind ho hPy6 qy7
      refine C_V1r (pc := 76) (k' := k_X3_failsByKind) dX3_failureAhead_76 w5_102 i_X3_failsByKind (lo_0 hPy6 ho) ⟨Nat.le_of_ble_eq_true rfl, Nat.le_of_ble_eq_true rfl⟩ rfl (Nat.le_of_ble_eq_true rfl) (Nat.le_of_ble_eq_true rfl) (Nat.le_of_ble_eq_true rfl) (cy7) ?_
      have hPy7 := cy7.1.1
      refine Y_if_eq (pc := 79) (tgt := 85) dX3_failureAhead_79 (by decide) (fun hc3 => ?_) (fun hc3 => ?_)
      · replace h := ifT hc3 h
        refine Y_aload_n (pc := 85) (j := 0) dX3_failureAhead_85 rfl rfl ?_
        refine Y_aload_n (pc := 86) (j := 0) dX3_failureAhead_86 rfl rfl ?_
        refine Z_geti (pc := 87) dX3_failureAhead_87 w1_181 (lo_0 hPy7 ho) fi_4_7 ?_
        refine Y_aload_n (pc := 90) (j := 0) dX3_failureAhead_90 rfl rfl ?_
        refine Z_geti (pc := 91) dX3_failureAhead_91 w1_183 (lo_0 hPy7 ho) fi_4_8 ?_
        obtain ⟨y8, qy8, h⟩ := bindE h
        have cy8 := v_X3_failureByValue ho hPy7 qy8
        refine C_V2r (pc := 94) (k' := k_X3_failureByValue) dX3_failureAhead_94 w5_115 i_X3_failureByValue (lo_0 hPy7 ho) ⟨Nat.le_of_ble_eq_true rfl, Nat.le_of_ble_eq_true rfl⟩ rfl (Nat.le_of_ble_eq_true rfl) (Nat.le_of_ble_eq_true rfl) (Nat.le_of_ble_eq_true rfl) (cy8) ?_
        have hPy8 := cy8.1.1
        obtain ⟨hb4, h⟩ := okE h
        cases h
        exact Y_iret (pc := 97) rfl (nar_ch hb4) dX3_failureAhead_97 hPy8 ⟨rfl, rfl⟩
      · replace h := ifF hc3 h
        refine Y_bipush (pc := 82) (v := (107 : Int32)) dX3_failureAhead_82 rfl ?_
        cases h
        exact Y_iret (pc := 84) rfl (nar_ch (by decide)) dX3_failureAhead_84 hPy7 ⟨rfl, rfl⟩
    · replace h := ifF hc2 h
      refine Y_bipush (pc := 68) (v := (115 : Int32)) dX3_failureAhead_68 rfl ?_
      cases h
      exact Y_iret (pc := 70) rfl (nar_ch (by decide)) dX3_failureAhead_70 hPy6 ⟨rfl, rfl⟩
  · replace h := ifT hc1 h
    refine Y_bipush (pc := 18) (v := (101 : Int32)) dX3_failureAhead_18 rfl ?_
    cases h
    exact Y_iret (pc := 20) rfl (nar_ch (by decide)) dX3_failureAhead_20 hPy3 ⟨rfl, rfl⟩
theorem v_X3_failureAhead {o : Nat} {M z} (ho : o = 18 ∨ o = 28) (hP : Lay M) (h : d_X3_failureAhead o M = some z) : CC Lay k_X3_failureAhead [.ref o] M z.2 (Qv (some (.int z.1)) z.2) xF :=
  CC.ofVV (by decide) rfl (Nat.le_of_ble_eq_true rfl) (b_X3_failureAhead ho hP h)
theorem b_X3_pushPut {o : Nat} {x1 : Int32} {x2 : Int32} {M z} (ho : o = 18 ∨ o = 28) (hP : Lay M) (h : d_X3_pushPut o x1 x2 M = some z) : VV Lay k_X3_pushPut 0 [(0, .ref o), (1, .int x1), (2, .int x2)] [] M z.2 (Qv (none) z.2) xF := by
  unfold d_X3_pushPut at h
  refine Y_aload_n (pc := 0) (j := 0) dX3_pushPut_0 rfl rfl ?_
  refine Z_getr (pc := 1) dX3_pushPut_1 w1_176 (lo_0 hP ho) fr_4_5 (lor_0_5 hP ho) ?_
  refine Y_aload_n (pc := 4) (j := 0) dX3_pushPut_4 rfl rfl ?_
  refine Z_geti (pc := 5) dX3_pushPut_5 w1_184 (lo_0 hP ho) fi_4_9 ?_
  refine Y_iconst (pc := 8) (v := (1 : Int32)) dX3_pushPut_8 rfl ?_
  refine Y_isub (pc := 9) dX3_pushPut_9 ?_
  refine Y_dup2 (pc := 10) dX3_pushPut_10 rfl rfl ?_
  obtain ⟨hb1, h⟩ := okE h
  refine Y_iald (pc := 11) dX3_pushPut_11 (lo_8 hP ho) (lon_8 hP ho) hb1 ?_
  refine Y_iconst (pc := 12) (v := (1 : Int32)) dX3_pushPut_12 rfl ?_
  refine Y_iadd (pc := 13) dX3_pushPut_13 ?_
  obtain ⟨hb2, h⟩ := okE h
  refine Y_iast (pc := 14) dX3_pushPut_14 (lo_8 hP ho) (lon_8 hP ho) hb2 ?_
  obtain ⟨M1, eM1, h⟩ := bndE h
  refine VV.mem eM1 ?_
  have hP1 := hP.wI eM1
  refine Y_aload_n (pc := 15) (j := 0) dX3_pushPut_15 rfl rfl ?_
  refine Z_getr (pc := 16) dX3_pushPut_16 w1_171 (lo_0 hP1 ho) fr_4_2 (lor_0_2 hP1 ho) ?_
  refine Y_aload_n (pc := 19) (j := 0) dX3_pushPut_19 rfl rfl ?_
  refine Y_iconst (pc := 20) (v := (1 : Int32)) dX3_pushPut_20 rfl ?_
  obtain ⟨y1, qy1, h⟩ := bindE h
  have cy1 := v_X3_fromTop ho hP1 qy1
  refine C_V1r (pc := 21) (k' := k_X3_fromTop) dX3_pushPut_21 w5_106 i_X3_fromTop (lo_0 hP1 ho) ⟨Nat.le_of_ble_eq_true rfl, Nat.le_of_ble_eq_true rfl⟩ rfl (Nat.le_of_ble_eq_true rfl) (Nat.le_of_ble_eq_true rfl) (Nat.le_of_ble_eq_true rfl) (cy1) ?_
  have hPy1 := cy1.1.1
  refine Y_iload_n (pc := 24) (j := 1) dX3_pushPut_24 rfl rfl ?_
  refine Y_iload_n (pc := 25) (j := 2) dX3_pushPut_25 rfl rfl ?_
  obtain ⟨y2, qy2, h⟩ := bindE h
  have cy2 := v_X8_put ho hPy1 qy2
  refine C_V3o (pc := 26) (k' := k_X8_put) dX3_pushPut_26 w5_38 i_X8_put (lo_1 hPy1 ho) ⟨Nat.le_of_ble_eq_true rfl, Nat.le_of_ble_eq_true rfl⟩ rfl (Nat.le_of_ble_eq_true rfl) (Nat.le_of_ble_eq_true rfl) (Nat.le_of_ble_eq_true rfl) (cy2) ?_
  have hPy2 := cy2.1.1
  cases h
  exact Y_vret (pc := 29) rfl dX3_pushPut_29 hPy2 ⟨rfl, rfl⟩
theorem v_X3_pushPut {o : Nat} {x1 : Int32} {x2 : Int32} {M z} (ho : o = 18 ∨ o = 28) (hP : Lay M) (h : d_X3_pushPut o x1 x2 M = some z) : CC Lay k_X3_pushPut [.ref o, .int x1, .int x2] M z.2 (Qv (none) z.2) xF :=
  CC.ofVV (by decide) rfl (Nat.le_of_ble_eq_true rfl) (b_X3_pushPut ho hP h)
theorem b_X3_failWith_45 {o : Nat} {x1 : Int32} {x2 : Int32} {M z} (ho : o = 18 ∨ o = 28) (hP : Lay M) (h : d_X3_failWith_45 o x1 x2 M = some z) : VV Lay k_X3_failWith 45 [(0, .ref o), (1, .int x1), (2, .int x2)] [] M z.2 (Qv (none) z.2) xF := by
  unfold d_X3_failWith_45 at h
  refine Y_iload_n (pc := 45) (j := 2) dX3_failWith_45 rfl rfl ?_
  refine Y_if_ge (pc := 46) (tgt := 59) dX3_failWith_46 (by decide) (fun hc1 => ?_) (fun hc1 => ?_)
  · replace h := ifT hc1 h
    refine Y_aload_n (pc := 59) (j := 0) dX3_failWith_59 rfl rfl ?_
    refine Y_iload_n (pc := 60) (j := 2) dX3_failWith_60 rfl rfl ?_
    refine Y_iconst (pc := 61) (v := (1 : Int32)) dX3_failWith_61 rfl ?_
    refine Y_iadd (pc := 62) dX3_failWith_62 ?_
    refine Z_puti (pc := 63) dX3_failWith_63 w1_184 (lo_0 hP ho) fi_4_9 (Or.inl rfl) rfl ?_
    obtain ⟨M1, eM1, h⟩ := bndE h
    refine VV.mem eM1 ?_
    have hP1 := hP.wI eM1
    refine Y_aload_n (pc := 66) (j := 0) dX3_failWith_66 rfl rfl ?_
    refine Z_getr (pc := 67) dX3_failWith_67 w1_175 (lo_0 hP1 ho) fr_4_4 (lor_0_4 hP1 ho) ?_
    refine Y_iload_n (pc := 70) (j := 2) dX3_failWith_70 rfl rfl ?_
    refine Y_aload_n (pc := 71) (j := 0) dX3_failWith_71 rfl rfl ?_
    refine Z_getr (pc := 72) dX3_failWith_72 w1_167 (lo_0 hP1 ho) fr_4_0 (lor_0_0 hP1 ho) ?_
    refine Z_getr (pc := 75) dX3_failWith_75 w1_60 (lk_2 hP1) fr_5_2 (lr_2_2 hP1) ?_
    refine Y_aload_n (pc := 78) (j := 0) dX3_failWith_78 rfl rfl ?_
    refine Z_getr (pc := 79) dX3_failWith_79 w1_174 (lo_0 hP1 ho) fr_4_3 (lor_0_3 hP1 ho) ?_
    refine Y_iload_n (pc := 82) (j := 2) dX3_failWith_82 rfl rfl ?_
    obtain ⟨hb1, h⟩ := okE h
    refine Y_iald (pc := 83) dX3_failWith_83 (lo_6 hP1 ho) (lon_6 hP1 ho) hb1 ?_
    obtain ⟨hb2, h⟩ := okE h
    refine Y_iald (pc := 84) dX3_failWith_84 (lk_5 hP1) (ln_5 hP1) hb2 ?_
    obtain ⟨hb3, h⟩ := okE h
    refine Y_iast (pc := 85) dX3_failWith_85 (lo_7 hP1 ho) (lon_7 hP1 ho) hb3 ?_
    obtain ⟨M2, eM2, h⟩ := bndE h
    refine VV.mem eM2 ?_
    have hP2 := hP1.wI eM2
    refine Y_aload_n (pc := 86) (j := 0) dX3_failWith_86 rfl rfl ?_
    refine Z_getr (pc := 87) dX3_failWith_87 w1_176 (lo_0 hP2 ho) fr_4_5 (lor_0_5 hP2 ho) ?_
    refine Y_iload_n (pc := 90) (j := 2) dX3_failWith_90 rfl rfl ?_
    refine Y_iconst (pc := 91) (v := (0 : Int32)) dX3_failWith_91 rfl ?_
    obtain ⟨hb4, h⟩ := okE h
    refine Y_iast (pc := 92) dX3_failWith_92 (lo_8 hP2 ho) (lon_8 hP2 ho) hb4 ?_
    obtain ⟨M3, eM3, h⟩ := bndE h
    refine VV.mem eM3 ?_
    have hP3 := hP2.wI eM3
    refine Y_aload_n (pc := 93) (j := 0) dX3_failWith_93 rfl rfl ?_
    refine Y_bipush (pc := 94) (v := (105 : Int32)) dX3_failWith_94 rfl ?_
    refine Y_iload_n (pc := 96) (j := 1) dX3_failWith_96 rfl rfl ?_
    obtain ⟨y1, qy1, h⟩ := bindE h
    have cy1 := v_X3_pushPut ho hP3 qy1
    refine C_V2o (pc := 97) (k' := k_X3_pushPut) dX3_failWith_97 w5_169 i_X3_pushPut (lo_0 hP3 ho) ⟨Nat.le_of_ble_eq_true rfl, Nat.le_of_ble_eq_true rfl⟩ rfl (Nat.le_of_ble_eq_true rfl) (Nat.le_of_ble_eq_true rfl) (Nat.le_of_ble_eq_true rfl) (cy1) ?_
    have hPy1 := cy1.1.1
    cases h
    exact Y_vret (pc := 100) rfl dX3_failWith_100 hPy1 ⟨rfl, rfl⟩
  · replace h := ifF hc1 h
    refine Y_aload_n (pc := 49) (j := 0) dX3_failWith_49 rfl rfl ?_
    refine Y_iload_n (pc := 50) (j := 1) dX3_failWith_50 rfl rfl ?_
    refine Y_aload_n (pc := 51) (j := 0) dX3_failWith_51 rfl rfl ?_
    obtain ⟨y2, qy2, h⟩ := bindE h
    have cy2 := v_X3_lineAhead ho hP qy2
    refine C_V0r (pc := 52) (k' := k_X3_lineAhead) dX3_failWith_52 w5_59 i_X3_lineAhead (lo_0 hP ho) ⟨Nat.le_of_ble_eq_true rfl, Nat.le_of_ble_eq_true rfl⟩ rfl (Nat.le_of_ble_eq_true rfl) (Nat.le_of_ble_eq_true rfl) (Nat.le_of_ble_eq_true rfl) (cy2) ?_
    have hPy2 := cy2.1.1
    obtain ⟨y3, qy3, h⟩ := bindE h
    have cy3 := v_X3_endWith ho hPy2 qy3
    refine C_V2o (pc := 55) (k' := k_X3_endWith) dX3_failWith_55 w5_71 i_X3_endWith (lo_0 hPy2 ho) ⟨Nat.le_of_ble_eq_true rfl, Nat.le_of_ble_eq_true rfl⟩ rfl (Nat.le_of_ble_eq_true rfl) (Nat.le_of_ble_eq_true rfl) (Nat.le_of_ble_eq_true rfl) (cy3) ?_
    have hPy3 := cy3.1.1
    cases h
    exact Y_vret (pc := 58) rfl dX3_failWith_58 hPy3 ⟨rfl, rfl⟩
theorem b_X3_failWith_17b {k17 : (Int32) → Mem → Option (Unit × Mem)} {o : Nat} {x1 : Int32} {x2 : Int32} {M z} (ho : o = 18 ∨ o = 28) (hk17 : ∀ (a : (Int32)) (M : Mem) (z : Unit × Mem), Lay M → k17 a M = some z → VV Lay k_X3_failWith 17 [(0, .ref o), (1, .int x1), (2, .int a)] [] M z.2 (Qv (none) z.2) xF) (hP : Lay M) (h : d_X3_failWith_17b k17 o x1 x2 M = some z) : VV Lay k_X3_failWith 17 [(0, .ref o), (1, .int x1), (2, .int x2)] [] M z.2 (Qv (none) z.2) xF := by
  unfold d_X3_failWith_17b at h
  refine Y_iload_n (pc := 17) (j := 2) dX3_failWith_17 rfl rfl ?_
  refine Y_if_lt (pc := 18) (tgt := 45) dX3_failWith_18 (by decide) (fun hc1 => ?_) (fun hc1 => ?_)
  · replace h := ifT hc1 h
    refine VV.sub [0, 1, 2] rfl ?_
    exact b_X3_failWith_45 ho hP h
  · replace h := ifF hc1 h
    refine Y_aload_n (pc := 21) (j := 0) dX3_failWith_21 rfl rfl ?_
    refine Z_getr (pc := 22) dX3_failWith_22 w1_167 (lo_0 hP ho) fr_4_0 (lor_0_0 hP ho) ?_
    refine Z_getr (pc := 25) dX3_failWith_25 w1_60 (lk_2 hP) fr_5_2 (lr_2_2 hP) ?_
    refine Y_aload_n (pc := 28) (j := 0) dX3_failWith_28 rfl rfl ?_
    refine Z_getr (pc := 29) dX3_failWith_29 w1_174 (lo_0 hP ho) fr_4_3 (lor_0_3 hP ho) ?_
    refine Y_iload_n (pc := 32) (j := 2) dX3_failWith_32 rfl rfl ?_
    obtain ⟨hb1, h⟩ := okE h
    refine Y_iald (pc := 33) dX3_failWith_33 (lo_6 hP ho) (lon_6 hP ho) hb1 ?_
    obtain ⟨hb2, h⟩ := okE h
    refine Y_iald (pc := 34) dX3_failWith_34 (lk_5 hP) (ln_5 hP) hb2 ?_
    refine Y_iconst (pc := 35) (v := (-1 : Int32)) dX3_failWith_35 rfl ?_
    refine Y_icmp_ne (pc := 36) (tgt := 45) dX3_failWith_36 (by decide) (fun hc2 => ?_) (fun hc2 => ?_)
    · replace h := ifF hc2 h
      refine VV.sub [0, 1, 2] rfl ?_
      exact b_X3_failWith_45 ho hP h
    · replace h := ifT hc2 h
      obtain ⟨b1, eb1, h⟩ := bndE h
      refine Y_iinc (pc := 39) (j := 2) (v := b1) (lv1 := [(2, .int b1), (0, .ref o), (1, .int x1)]) dX3_failWith_39 rfl eb1.symm (by decide) rfl ?_
      refine Y_goto (pc := 42) (tgt := 17) dX3_failWith_42 (by decide) ?_
      refine VV.sub [1, 2, 0] rfl ?_
      exact hk17 _ _ _ hP h
theorem b_X3_failWith_17 {o : Nat} {x1 : Int32} (ho : o = 18 ∨ o = 28) (n : Nat) : ∀ (a : (Int32)) (M : Mem) (z : Unit × Mem), d_X3_failWith_17 o x1 n a M = some z → Lay M → VV Lay k_X3_failWith 17 [(0, .ref o), (1, .int x1), (2, .int a)] [] M z.2 (Qv (none) z.2) xF :=
  lp_ind (G := fun (a : (Int32)) (M : Mem) (z : Unit × Mem) => Lay M → VV Lay k_X3_failWith 17 [(0, .ref o), (1, .int x1), (2, .int a)] [] M z.2 (Qv (none) z.2) xF) (fun k hk a M z h hP => b_X3_failWith_17b ho (fun a M z hP h => hk a M z h hP) hP h) n
theorem b_X3_failWith {o : Nat} {x1 : Int32} {M z} (ho : o = 18 ∨ o = 28) (hP : Lay M) (h : d_X3_failWith o x1 M = some z) : VV Lay k_X3_failWith 0 [(0, .ref o), (1, .int x1)] [] M z.2 (Qv (none) z.2) xF := by
  unfold d_X3_failWith at h
  refine Y_aload_n (pc := 0) (j := 0) dX3_failWith_0 rfl rfl ?_
  refine Y_dup (pc := 1) dX3_failWith_1 rfl ?_
  refine Z_geti (pc := 2) dX3_failWith_2 w1_191 (lo_0 hP ho) fi_4_12 ?_
  refine Y_iconst (pc := 5) (v := (1 : Int32)) dX3_failWith_5 rfl ?_
  refine Y_iadd (pc := 6) dX3_failWith_6 ?_
  refine Z_puti (pc := 7) dX3_failWith_7 w1_191 (lo_0 hP ho) fi_4_12 (Or.inl rfl) rfl ?_
  obtain ⟨M1, eM1, h⟩ := bndE h
  refine VV.mem eM1 ?_
  have hP1 := hP.wI eM1
  refine Y_aload_n (pc := 10) (j := 0) dX3_failWith_10 rfl rfl ?_
  refine Z_geti (pc := 11) dX3_failWith_11 w1_184 (lo_0 hP1 ho) fi_4_9 ?_
  refine Y_iconst (pc := 14) (v := (1 : Int32)) dX3_failWith_14 rfl ?_
  refine Y_isub (pc := 15) dX3_failWith_15 ?_
  obtain ⟨b1, eb1, h⟩ := bndE h
  refine VV.topI eb1 ?_
  refine Y_istore_n (pc := 16) (lv1 := [(2, .int b1), (0, .ref o), (1, .int x1)]) dX3_failWith_16 rfl (by decide) rfl ?_
  refine VV.sub [1, 2, 0] rfl ?_
  exact b_X3_failWith_17 ho fuel _ _ _ h hP1
theorem v_X3_failWith {o : Nat} {x1 : Int32} {M z} (ho : o = 18 ∨ o = 28) (hP : Lay M) (h : d_X3_failWith o x1 M = some z) : CC Lay k_X3_failWith [.ref o, .int x1] M z.2 (Qv (none) z.2) xF :=
  CC.ofVV (by decide) rfl (Nat.le_of_ble_eq_true rfl) (b_X3_failWith ho hP h)
theorem b_X3_take {o : Nat} {M z} (ho : o = 18 ∨ o = 28) (hP : Lay M) (h : d_X3_take o M = some z) : VV Lay k_X3_take 0 [(0, .ref o)] [] M z.2 (Qv (some (.int z.1)) z.2) xF := by
  unfold d_X3_take at h
  refine Y_aload_n (pc := 0) (j := 0) dX3_take_0 rfl rfl ?_
  refine Z_getr (pc := 1) dX3_take_1 w1_176 (lo_0 hP ho) fr_4_5 (lor_0_5 hP ho) ?_
  refine Y_aload_n (pc := 4) (j := 0) dX3_take_4 rfl rfl ?_
  refine Z_geti (pc := 5) dX3_take_5 w1_184 (lo_0 hP ho) fi_4_9 ?_
  refine Y_iconst (pc := 8) (v := (1 : Int32)) dX3_take_8 rfl ?_
  refine Y_isub (pc := 9) dX3_take_9 ?_
  refine Y_dup2 (pc := 10) dX3_take_10 rfl rfl ?_
  obtain ⟨hb1, h⟩ := okE h
  refine Y_iald (pc := 11) dX3_take_11 (lo_8 hP ho) (lon_8 hP ho) hb1 ?_
  refine Y_iconst (pc := 12) (v := (1 : Int32)) dX3_take_12 rfl ?_
  refine Y_isub (pc := 13) dX3_take_13 ?_
  obtain ⟨hb2, h⟩ := okE h
  refine Y_iast (pc := 14) dX3_take_14 (lo_8 hP ho) (lon_8 hP ho) hb2 ?_
  obtain ⟨M1, eM1, h⟩ := bndE h
  refine VV.mem eM1 ?_
  have hP1 := hP.wI eM1
  refine Y_aload_n (pc := 15) (j := 0) dX3_take_15 rfl rfl ?_
  refine Y_iconst (pc := 16) (v := (0 : Int32)) dX3_take_16 rfl ?_
  obtain ⟨y1, qy1, h⟩ := bindE h
  have cy1 := v_X3_fromTop ho hP1 qy1
  refine C_V1r (pc := 17) (k' := k_X3_fromTop) dX3_take_17 w5_106 i_X3_fromTop (lo_0 hP1 ho) ⟨Nat.le_of_ble_eq_true rfl, Nat.le_of_ble_eq_true rfl⟩ rfl (Nat.le_of_ble_eq_true rfl) (Nat.le_of_ble_eq_true rfl) (Nat.le_of_ble_eq_true rfl) (cy1) ?_
  have hPy1 := cy1.1.1
  cases h
  exact Y_iret (pc := 20) rfl rfl dX3_take_20 hPy1 ⟨rfl, rfl⟩
theorem v_X3_take {o : Nat} {M z} (ho : o = 18 ∨ o = 28) (hP : Lay M) (h : d_X3_take o M = some z) : CC Lay k_X3_take [.ref o] M z.2 (Qv (some (.int z.1)) z.2) xF :=
  CC.ofVV (by decide) rfl (Nat.le_of_ble_eq_true rfl) (b_X3_take ho hP h)
theorem b_X8_isNull {o : Nat} {x1 : Int32} {M z} (ho : o = 18 ∨ o = 28) (hP : Lay M) (h : d_X8_isNull o x1 M = some z) : VV Lay k_X8_isNull 0 [(0, .ref (o + 1)), (1, .int x1)] [] M z.2 (Qv (some (.int z.1)) z.2) xF := by
  unfold d_X8_isNull at h
  refine Y_aload_n (pc := 0) (j := 0) dX8_isNull_0 rfl rfl ?_
  refine Z_getr (pc := 1) dX8_isNull_1 w1_149 (lo_1 hP ho) fr_8_0 (lor_1_0 hP ho) ?_
  refine Y_iload_n (pc := 4) (j := 1) dX8_isNull_4 rfl rfl ?_
  obtain ⟨hb1, h⟩ := okE h
  refine Y_cald (pc := 5) dX8_isNull_5 (lo_2 hP ho) (lon_2 hP ho) hb1 ?_
  obtain ⟨b1, eb1, h⟩ := bndE h
  refine VV.topI eb1 ?_
  refine Y_lookup (pc := 6) dX8_isNull_6 (by decide) [(102, 47), (105, 32)] 72 (by decide) (by decide) ?_ ?_
  · refine xs_cons ?_ <| xs_cons ?_ <| xs_nil
    · intro e9
      replace h := ifT (by rw [e9] <;> decide) h
      refine Y_aload_n (pc := 47) (j := 0) dX8_isNull_47 rfl rfl ?_
      refine Y_iload_n (pc := 48) (j := 1) dX8_isNull_48 rfl rfl ?_
      obtain ⟨y1, qy1, h⟩ := bindE h
      have cy1 := v_X8_isUndefined ho hP qy1
      refine C_V1r (pc := 49) (k' := k_X8_isUndefined) dX8_isNull_49 w5_131 i_X8_isUndefined (lo_1 hP ho) ⟨Nat.le_of_ble_eq_true rfl, Nat.le_of_ble_eq_true rfl⟩ rfl (Nat.le_of_ble_eq_true rfl) (Nat.le_of_ble_eq_true rfl) (Nat.le_of_ble_eq_true rfl) (cy1) ?_
      have hPy1 := cy1.1.1
      refine Y_if_ne (pc := 52) (tgt := 70) dX8_isNull_52 (by decide) (fun hc1 => ?_) (fun hc1 => ?_)
      · replace h := ifF hc1 h
        refine Y_iconst (pc := 70) (v := (0 : Int32)) dX8_isNull_70 rfl ?_
        cases h
        exact Y_iret (pc := 71) rfl (nar_bo (by decide)) dX8_isNull_71 hPy1 ⟨rfl, rfl⟩
      · replace h := ifT hc1 h
        refine Y_aload_n (pc := 55) (j := 0) dX8_isNull_55 rfl rfl ?_
        refine Z_getr (pc := 56) dX8_isNull_56 w1_154 (lo_1 hPy1 ho) fr_8_2 (lor_1_2 hPy1 ho) ?_
        refine Y_iload_n (pc := 59) (j := 1) dX8_isNull_59 rfl rfl ?_
        obtain ⟨hb2, h⟩ := okE h
        refine Y_dald (pc := 60) dX8_isNull_60 (lo_4 hPy1 ho) (lon_4 hPy1 ho) hb2 ?_
        refine Y_dconst0 (pc := 61) dX8_isNull_61 ?_
        refine Y_dcmp (pc := 62) dX8_isNull_62 ?_
        refine Y_if_ne (pc := 63) (tgt := 70) dX8_isNull_63 (by decide) (fun hc2 => ?_) (fun hc2 => ?_)
        · replace h := ifF hc2 h
          refine Y_iconst (pc := 70) (v := (0 : Int32)) dX8_isNull_70 rfl ?_
          cases h
          exact Y_iret (pc := 71) rfl (nar_bo (by decide)) dX8_isNull_71 hPy1 ⟨rfl, rfl⟩
        · replace h := ifT hc2 h
          refine Y_iconst (pc := 66) (v := (1 : Int32)) dX8_isNull_66 rfl ?_
          refine Y_goto (pc := 67) (tgt := 71) dX8_isNull_67 (by decide) ?_
          cases h
          exact Y_iret (pc := 71) rfl (nar_bo (by decide)) dX8_isNull_71 hPy1 ⟨rfl, rfl⟩
    · intro e9
      replace h := ifF (by rw [e9] <;> decide) h
      replace h := ifT (by rw [e9] <;> decide) h
      refine Y_aload_n (pc := 32) (j := 0) dX8_isNull_32 rfl rfl ?_
      refine Z_getr (pc := 33) dX8_isNull_33 w1_152 (lo_1 hP ho) fr_8_1 (lor_1_1 hP ho) ?_
      refine Y_iload_n (pc := 36) (j := 1) dX8_isNull_36 rfl rfl ?_
      obtain ⟨hb3, h⟩ := okE h
      refine Y_iald (pc := 37) dX8_isNull_37 (lo_3 hP ho) (lon_3 hP ho) hb3 ?_
      refine Y_if_ne (pc := 38) (tgt := 45) dX8_isNull_38 (by decide) (fun hc3 => ?_) (fun hc3 => ?_)
      · replace h := ifF hc3 h
        refine Y_iconst (pc := 45) (v := (0 : Int32)) dX8_isNull_45 rfl ?_
        cases h
        exact Y_iret (pc := 46) rfl (nar_bo (by decide)) dX8_isNull_46 hP ⟨rfl, rfl⟩
      · replace h := ifT hc3 h
        refine Y_iconst (pc := 41) (v := (1 : Int32)) dX8_isNull_41 rfl ?_
        refine Y_goto (pc := 42) (tgt := 46) dX8_isNull_42 (by decide) ?_
        cases h
        exact Y_iret (pc := 46) rfl (nar_bo (by decide)) dX8_isNull_46 hP ⟨rfl, rfl⟩
  · intro n9
    replace h := ifF (xs_no n9 (by decide : ((102 : Int32), 47) ∈ _)) h
    replace h := ifF (xs_no n9 (by decide : ((105 : Int32), 32) ∈ _)) h
    refine Y_aload_n (pc := 72) (j := 0) dX8_isNull_72 rfl rfl ?_
    refine Z_getr (pc := 73) dX8_isNull_73 w1_149 (lo_1 hP ho) fr_8_0 (lor_1_0 hP ho) ?_
    refine Y_iload_n (pc := 76) (j := 1) dX8_isNull_76 rfl rfl ?_
    obtain ⟨hb4, h⟩ := okE h
    refine Y_cald (pc := 77) dX8_isNull_77 (lo_2 hP ho) (lon_2 hP ho) hb4 ?_
    refine Y_bipush (pc := 78) (v := (110 : Int32)) dX8_isNull_78 rfl ?_
    refine Y_icmp_ne (pc := 80) (tgt := 87) dX8_isNull_80 (by decide) (fun hc4 => ?_) (fun hc4 => ?_)
    · replace h := ifF hc4 h
      refine Y_iconst (pc := 87) (v := (0 : Int32)) dX8_isNull_87 rfl ?_
      cases h
      exact Y_iret (pc := 88) rfl (nar_bo (by decide)) dX8_isNull_88 hP ⟨rfl, rfl⟩
    · replace h := ifT hc4 h
      refine Y_iconst (pc := 83) (v := (1 : Int32)) dX8_isNull_83 rfl ?_
      refine Y_goto (pc := 84) (tgt := 88) dX8_isNull_84 (by decide) ?_
      cases h
      exact Y_iret (pc := 88) rfl (nar_bo (by decide)) dX8_isNull_88 hP ⟨rfl, rfl⟩
theorem v_X8_isNull {o : Nat} {x1 : Int32} {M z} (ho : o = 18 ∨ o = 28) (hP : Lay M) (h : d_X8_isNull o x1 M = some z) : CC Lay k_X8_isNull [.ref (o + 1), .int x1] M z.2 (Qv (some (.int z.1)) z.2) xF :=
  CC.ofVV (by decide) rfl (Nat.le_of_ble_eq_true rfl) (b_X8_isNull ho hP h)
theorem b_X3_jumpsAtNull {o : Nat} {x1 : Int32} {x2 : Int32} {M z} (ho : o = 18 ∨ o = 28) (hP : Lay M) (h : d_X3_jumpsAtNull o x1 x2 M = some z) : VV Lay k_X3_jumpsAtNull 0 [(0, .ref o), (1, .int x1), (2, .int x2)] [] M z.2 (Qv (some (.int z.1)) z.2) xF := by
  unfold d_X3_jumpsAtNull at h
  refine Y_aload_n (pc := 0) (j := 0) dX3_jumpsAtNull_0 rfl rfl ?_
  refine Z_getr (pc := 1) dX3_jumpsAtNull_1 w1_171 (lo_0 hP ho) fr_4_2 (lor_0_2 hP ho) ?_
  refine Y_aload_n (pc := 4) (j := 0) dX3_jumpsAtNull_4 rfl rfl ?_
  obtain ⟨y1, qy1, h⟩ := bindE h
  have cy1 := v_X3_take ho hP qy1
  refine C_V0r (pc := 5) (k' := k_X3_take) dX3_jumpsAtNull_5 w5_181 i_X3_take (lo_0 hP ho) ⟨Nat.le_of_ble_eq_true rfl, Nat.le_of_ble_eq_true rfl⟩ rfl (Nat.le_of_ble_eq_true rfl) (Nat.le_of_ble_eq_true rfl) (Nat.le_of_ble_eq_true rfl) (cy1) ?_
  have hPy1 := cy1.1.1
  obtain ⟨y2, qy2, h⟩ := bindE h
  have cy2 := v_X8_isNull ho hPy1 qy2
  refine C_V1r (pc := 8) (k' := k_X8_isNull) dX3_jumpsAtNull_8 w5_185 i_X8_isNull (lo_1 hPy1 ho) ⟨Nat.le_of_ble_eq_true rfl, Nat.le_of_ble_eq_true rfl⟩ rfl (Nat.le_of_ble_eq_true rfl) (Nat.le_of_ble_eq_true rfl) (Nat.le_of_ble_eq_true rfl) (cy2) ?_
  have hPy2 := cy2.1.1
  refine Y_if_ne (pc := 11) (tgt := 16) dX3_jumpsAtNull_11 (by decide) (fun hc1 => ?_) (fun hc1 => ?_)
  · replace h := ifF hc1 h
    refine Y_aload_n (pc := 16) (j := 0) dX3_jumpsAtNull_16 rfl rfl ?_
    refine Z_getr (pc := 17) dX3_jumpsAtNull_17 w1_175 (lo_0 hPy2 ho) fr_4_4 (lor_0_4 hPy2 ho) ?_
    refine Y_aload_n (pc := 20) (j := 0) dX3_jumpsAtNull_20 rfl rfl ?_
    refine Z_geti (pc := 21) dX3_jumpsAtNull_21 w1_184 (lo_0 hPy2 ho) fi_4_9 ?_
    refine Y_iconst (pc := 24) (v := (1 : Int32)) dX3_jumpsAtNull_24 rfl ?_
    refine Y_isub (pc := 25) dX3_jumpsAtNull_25 ?_
    refine Y_iload_n (pc := 26) (j := 1) dX3_jumpsAtNull_26 rfl rfl ?_
    obtain ⟨hb1, h⟩ := okE h
    refine Y_iast (pc := 27) dX3_jumpsAtNull_27 (lo_7 hPy2 ho) (lon_7 hPy2 ho) hb1 ?_
    obtain ⟨M1, eM1, h⟩ := bndE h
    refine VV.mem eM1 ?_
    have hP1 := hPy2.wI eM1
    refine Y_iload_n (pc := 28) (j := 1) dX3_jumpsAtNull_28 rfl rfl ?_
    refine Y_iload_n (pc := 29) (j := 2) dX3_jumpsAtNull_29 rfl rfl ?_
    refine Y_icmp_gt (pc := 30) (tgt := 37) dX3_jumpsAtNull_30 (by decide) (fun hc2 => ?_) (fun hc2 => ?_)
    · replace h := ifT hc2 h
      refine Y_iconst (pc := 37) (v := (0 : Int32)) dX3_jumpsAtNull_37 rfl ?_
      cases h
      exact Y_iret (pc := 38) rfl (nar_bo (by decide)) dX3_jumpsAtNull_38 hP1 ⟨rfl, rfl⟩
    · replace h := ifF hc2 h
      refine Y_iconst (pc := 33) (v := (1 : Int32)) dX3_jumpsAtNull_33 rfl ?_
      refine Y_goto (pc := 34) (tgt := 38) dX3_jumpsAtNull_34 (by decide) ?_
      cases h
      exact Y_iret (pc := 38) rfl (nar_bo (by decide)) dX3_jumpsAtNull_38 hP1 ⟨rfl, rfl⟩
  · replace h := ifT hc1 h
    refine Y_iconst (pc := 14) (v := (0 : Int32)) dX3_jumpsAtNull_14 rfl ?_
    cases h
    exact Y_iret (pc := 15) rfl (nar_bo (by decide)) dX3_jumpsAtNull_15 hPy2 ⟨rfl, rfl⟩
theorem v_X3_jumpsAtNull {o : Nat} {x1 : Int32} {x2 : Int32} {M z} (ho : o = 18 ∨ o = 28) (hP : Lay M) (h : d_X3_jumpsAtNull o x1 x2 M = some z) : CC Lay k_X3_jumpsAtNull [.ref o, .int x1, .int x2] M z.2 (Qv (some (.int z.1)) z.2) xF :=
  CC.ofVV (by decide) rfl (Nat.le_of_ble_eq_true rfl) (b_X3_jumpsAtNull ho hP h)
theorem b_X8_move {o : Nat} {x1 : Int32} {x2 : Int32} {M z} (ho : o = 18 ∨ o = 28) (hP : Lay M) (h : d_X8_move o x1 x2 M = some z) : VV Lay k_X8_move 0 [(0, .ref (o + 1)), (1, .int x1), (2, .int x2)] [] M z.2 (Qv (none) z.2) xF := by
  unfold d_X8_move at h
  refine Y_aload_n (pc := 0) (j := 0) dX8_move_0 rfl rfl ?_
  refine Z_getr (pc := 1) dX8_move_1 w1_149 (lo_1 hP ho) fr_8_0 (lor_1_0 hP ho) ?_
  refine Y_iload_n (pc := 4) (j := 2) dX8_move_4 rfl rfl ?_
  refine Y_aload_n (pc := 5) (j := 0) dX8_move_5 rfl rfl ?_
  refine Z_getr (pc := 6) dX8_move_6 w1_149 (lo_1 hP ho) fr_8_0 (lor_1_0 hP ho) ?_
  refine Y_iload_n (pc := 9) (j := 1) dX8_move_9 rfl rfl ?_
  obtain ⟨hb1, h⟩ := okE h
  refine Y_cald (pc := 10) dX8_move_10 (lo_2 hP ho) (lon_2 hP ho) hb1 ?_
  obtain ⟨hb2, h⟩ := okE h
  obtain ⟨hb3, h⟩ := okE h
  refine Y_cast (pc := 11) dX8_move_11 (lo_2 hP ho) (lon_2 hP ho) hb2 (nar_ch hb3) ?_
  obtain ⟨M1, eM1, h⟩ := bndE h
  refine VV.mem eM1 ?_
  have hP1 := hP.wI eM1
  refine Y_aload_n (pc := 12) (j := 0) dX8_move_12 rfl rfl ?_
  refine Z_getr (pc := 13) dX8_move_13 w1_152 (lo_1 hP1 ho) fr_8_1 (lor_1_1 hP1 ho) ?_
  refine Y_iload_n (pc := 16) (j := 2) dX8_move_16 rfl rfl ?_
  refine Y_aload_n (pc := 17) (j := 0) dX8_move_17 rfl rfl ?_
  refine Z_getr (pc := 18) dX8_move_18 w1_152 (lo_1 hP1 ho) fr_8_1 (lor_1_1 hP1 ho) ?_
  refine Y_iload_n (pc := 21) (j := 1) dX8_move_21 rfl rfl ?_
  obtain ⟨hb4, h⟩ := okE h
  refine Y_iald (pc := 22) dX8_move_22 (lo_3 hP1 ho) (lon_3 hP1 ho) hb4 ?_
  obtain ⟨hb5, h⟩ := okE h
  refine Y_iast (pc := 23) dX8_move_23 (lo_3 hP1 ho) (lon_3 hP1 ho) hb5 ?_
  obtain ⟨M2, eM2, h⟩ := bndE h
  refine VV.mem eM2 ?_
  have hP2 := hP1.wI eM2
  refine Y_aload_n (pc := 24) (j := 0) dX8_move_24 rfl rfl ?_
  refine Z_getr (pc := 25) dX8_move_25 w1_154 (lo_1 hP2 ho) fr_8_2 (lor_1_2 hP2 ho) ?_
  refine Y_iload_n (pc := 28) (j := 2) dX8_move_28 rfl rfl ?_
  refine Y_aload_n (pc := 29) (j := 0) dX8_move_29 rfl rfl ?_
  refine Z_getr (pc := 30) dX8_move_30 w1_154 (lo_1 hP2 ho) fr_8_2 (lor_1_2 hP2 ho) ?_
  refine Y_iload_n (pc := 33) (j := 1) dX8_move_33 rfl rfl ?_
  obtain ⟨hb6, h⟩ := okE h
  refine Y_dald (pc := 34) dX8_move_34 (lo_4 hP2 ho) (lon_4 hP2 ho) hb6 ?_
  obtain ⟨hb7, h⟩ := okE h
  refine Y_dast (pc := 35) dX8_move_35 (lo_4 hP2 ho) (lon_4 hP2 ho) hb7 ?_
  obtain ⟨M3, eM3, h⟩ := bndE h
  refine VV.mem eM3 ?_
  have hP3 := hP2.wD eM3
  refine Y_aload_n (pc := 36) (j := 0) dX8_move_36 rfl rfl ?_
  refine Z_getr (pc := 37) dX8_move_37 w1_155 (lo_1 hP3 ho) fr_8_3 (lor_1_3 hP3 ho) ?_
  refine Y_iload_n (pc := 40) (j := 2) dX8_move_40 rfl rfl ?_
  refine Y_aload_n (pc := 41) (j := 0) dX8_move_41 rfl rfl ?_
  refine Z_getr (pc := 42) dX8_move_42 w1_155 (lo_1 hP3 ho) fr_8_3 (lor_1_3 hP3 ho) ?_
  refine Y_iload_n (pc := 45) (j := 1) dX8_move_45 rfl rfl ?_
  obtain ⟨hb8, h⟩ := okE h
  refine Y_iald (pc := 46) dX8_move_46 (lo_5 hP3 ho) (lon_5 hP3 ho) hb8 ?_
  obtain ⟨hb9, h⟩ := okE h
  refine Y_iast (pc := 47) dX8_move_47 (lo_5 hP3 ho) (lon_5 hP3 ho) hb9 ?_
  obtain ⟨M4, eM4, h⟩ := bndE h
  refine VV.mem eM4 ?_
  have hP4 := hP3.wI eM4
  cases h
  exact Y_vret (pc := 48) rfl dX8_move_48 hP4 ⟨rfl, rfl⟩
theorem v_X8_move {o : Nat} {x1 : Int32} {x2 : Int32} {M z} (ho : o = 18 ∨ o = 28) (hP : Lay M) (h : d_X8_move o x1 x2 M = some z) : CC Lay k_X8_move [.ref (o + 1), .int x1, .int x2] M z.2 (Qv (none) z.2) xF :=
  CC.ofVV (by decide) rfl (Nat.le_of_ble_eq_true rfl) (b_X8_move ho hP h)
theorem b_X3_call_25b {k25 : (Int32) → Mem → Option (Unit × Mem)} {o : Nat} {x2 : Int32} {x3 : Int32} {x4 : Int32} {M z} (ho : o = 18 ∨ o = 28) (hk25 : ∀ (a : (Int32)) (M : Mem) (z : Unit × Mem), Lay M → k25 a M = some z → VV Lay k_X3_call 25 [(0, .ref o), (2, .int x2), (3, .int x3), (4, .int a)] [] M z.2 (Qv (none) z.2) xF) (hP : Lay M) (h : d_X3_call_25b k25 o x2 x3 x4 M = some z) : VV Lay k_X3_call 25 [(0, .ref o), (2, .int x2), (3, .int x3), (4, .int x4)] [] M z.2 (Qv (none) z.2) xF := by
  unfold d_X3_call_25b at h
  refine Y_iload (pc := 25) (j := 3) dX3_call_25 rfl ?_
  refine Y_iload_n (pc := 27) (j := 1) dX3_call_27 rfl rfl ?_
  refine Y_icmp_ge (pc := 28) (tgt := 69) dX3_call_28 (by decide) (fun hc1 => ?_) (fun hc1 => ?_)
  · replace h := ifT hc1 h
    cases h
    exact Y_vret (pc := 69) rfl dX3_call_69 hP ⟨rfl, rfl⟩
  · replace h := ifF hc1 h
    refine Y_aload_n (pc := 31) (j := 0) dX3_call_31 rfl rfl ?_
    refine Z_getr (pc := 32) dX3_call_32 w1_171 (lo_0 hP ho) fr_4_2 (lor_0_2 hP ho) ?_
    refine Y_iload_n (pc := 35) (j := 2) dX3_call_35 rfl rfl ?_
    refine Y_bipush (pc := 36) (v := (14 : Int32)) dX3_call_36 rfl ?_
    refine Y_imul (pc := 38) dX3_call_38 ?_
    refine Y_bipush (pc := 39) (v := (6 : Int32)) dX3_call_39 rfl ?_
    refine Y_iadd (pc := 41) dX3_call_41 ?_
    refine Y_aload_n (pc := 42) (j := 0) dX3_call_42 rfl rfl ?_
    refine Z_getr (pc := 43) dX3_call_43 w1_176 (lo_0 hP ho) fr_4_5 (lor_0_5 hP ho) ?_
    refine Y_iload_n (pc := 46) (j := 2) dX3_call_46 rfl rfl ?_
    obtain ⟨hb1, h⟩ := okE h
    refine Y_iald (pc := 47) dX3_call_47 (lo_8 hP ho) (lon_8 hP ho) hb1 ?_
    refine Y_iadd (pc := 48) dX3_call_48 ?_
    refine Y_iload (pc := 49) (j := 3) dX3_call_49 rfl ?_
    refine Y_iadd (pc := 51) dX3_call_51 ?_
    refine Y_iload_n (pc := 52) (j := 2) dX3_call_52 rfl rfl ?_
    refine Y_iconst (pc := 53) (v := (1 : Int32)) dX3_call_53 rfl ?_
    refine Y_iadd (pc := 54) dX3_call_54 ?_
    refine Y_iload (pc := 55) (j := 3) dX3_call_55 rfl ?_
    obtain ⟨y1, qy1, h⟩ := bindE h
    have cy1 := v_X11_localPlace hP qy1
    refine C_N2r (pc := 57) (k' := k_X11_localPlace) dX3_call_57 nl_Machine_66 i_X11_localPlace (Nat.le_of_ble_eq_true rfl) (Nat.le_of_ble_eq_true rfl) (Nat.le_of_ble_eq_true rfl) (cy1) ?_
    have hPy1 := cy1.1.1
    obtain ⟨y2, qy2, h⟩ := bindE h
    have cy2 := v_X8_move ho hPy1 qy2
    refine C_V2o (pc := 60) (k' := k_X8_move) dX3_call_60 w5_193 i_X8_move (lo_1 hPy1 ho) ⟨Nat.le_of_ble_eq_true rfl, Nat.le_of_ble_eq_true rfl⟩ rfl (Nat.le_of_ble_eq_true rfl) (Nat.le_of_ble_eq_true rfl) (Nat.le_of_ble_eq_true rfl) (cy2) ?_
    have hPy2 := cy2.1.1
    obtain ⟨b1, eb1, h⟩ := bndE h
    refine Y_iinc (pc := 63) (j := 3) (v := b1) (lv1 := [(4, .int b1), (0, .ref o), (2, .int x2), (3, .int x3)]) dX3_call_63 rfl eb1.symm (by decide) rfl ?_
    refine Y_goto (pc := 66) (tgt := 25) dX3_call_66 (by decide) ?_
    refine VV.sub [1, 2, 3, 0] rfl ?_
    exact hk25 _ _ _ hPy2 h
theorem b_X3_call_25 {o : Nat} {x2 : Int32} {x3 : Int32} (ho : o = 18 ∨ o = 28) (n : Nat) : ∀ (a : (Int32)) (M : Mem) (z : Unit × Mem), d_X3_call_25 o x2 x3 n a M = some z → Lay M → VV Lay k_X3_call 25 [(0, .ref o), (2, .int x2), (3, .int x3), (4, .int a)] [] M z.2 (Qv (none) z.2) xF :=
  lp_ind (G := fun (a : (Int32)) (M : Mem) (z : Unit × Mem) => Lay M → VV Lay k_X3_call 25 [(0, .ref o), (2, .int x2), (3, .int x3), (4, .int a)] [] M z.2 (Qv (none) z.2) xF) (fun k hk a M z h hP => b_X3_call_25b ho (fun a M z hP h => hk a M z h hP) hP h) n
theorem b_X3_call {o : Nat} {x1 : Int32} {x2 : Int32} {M z} (ho : o = 18 ∨ o = 28) (hP : Lay M) (h : d_X3_call o x1 x2 M = some z) : VV Lay k_X3_call 0 [(0, .ref o), (1, .int x1), (2, .int x2)] [] M z.2 (Qv (none) z.2) xF := by
  unfold d_X3_call at h
  refine Y_aload_n (pc := 0) (j := 0) dX3_call_0 rfl rfl ?_
  refine Z_geti (pc := 1) dX3_call_1 w1_184 (lo_0 hP ho) fi_4_9 ?_
  refine Y_iconst (pc := 4) (v := (1 : Int32)) dX3_call_4 rfl ?_
  refine Y_isub (pc := 5) dX3_call_5 ?_
  obtain ⟨b1, eb1, h⟩ := bndE h
  refine VV.topI eb1 ?_
  refine Y_istore_n (pc := 6) (lv1 := [(3, .int b1), (0, .ref o), (1, .int x1), (2, .int x2)]) dX3_call_6 rfl (by decide) rfl ?_
  refine Y_aload_n (pc := 7) (j := 1) dX3_call_7 rfl rfl ?_
  refine Z_getr (pc := 8) dX3_call_8 w1_176 (lo_0 hP ho) fr_4_5 (lor_0_5 hP ho) ?_
  refine Y_iload_n (pc := 11) (j := 0) dX3_call_11 rfl rfl ?_
  refine Y_dup2 (pc := 12) dX3_call_12 rfl rfl ?_
  obtain ⟨hb1, h⟩ := okE h
  refine Y_iald (pc := 13) dX3_call_13 (lo_8 hP ho) (lon_8 hP ho) hb1 ?_
  refine Y_iload_n (pc := 14) (j := 3) dX3_call_14 rfl rfl ?_
  refine Y_isub (pc := 15) dX3_call_15 ?_
  obtain ⟨hb2, h⟩ := okE h
  refine Y_iast (pc := 16) dX3_call_16 (lo_8 hP ho) (lon_8 hP ho) hb2 ?_
  obtain ⟨M1, eM1, h⟩ := bndE h
  refine VV.mem eM1 ?_
  have hP1 := hP.wI eM1
  refine Y_aload_n (pc := 17) (j := 1) dX3_call_17 rfl rfl ?_
  refine Y_iload_n (pc := 18) (j := 2) dX3_call_18 rfl rfl ?_
  obtain ⟨y1, qy1, h⟩ := bindE h
  have cy1 := v_X3_addFrame ho hP1 qy1
  refine C_V1o (pc := 19) (k' := k_X3_addFrame) dX3_call_19 w5_31 i_X3_addFrame (lo_0 hP1 ho) ⟨Nat.le_of_ble_eq_true rfl, Nat.le_of_ble_eq_true rfl⟩ rfl (Nat.le_of_ble_eq_true rfl) (Nat.le_of_ble_eq_true rfl) (Nat.le_of_ble_eq_true rfl) (cy1) ?_
  have hPy1 := cy1.1.1
  refine Y_iconst (pc := 22) (v := (0 : Int32)) dX3_call_22 rfl ?_
  refine Y_istore (pc := 23) (lv1 := [(4, .int (0 : Int32)), (3, .int b1), (0, .ref o), (1, .int x1), (2, .int x2)]) dX3_call_23 (by decide) rfl ?_
  refine VV.sub [2, 4, 1, 0] rfl ?_
  exact b_X3_call_25 ho fuel _ _ _ h hPy1
theorem v_X3_call {o : Nat} {x1 : Int32} {x2 : Int32} {M z} (ho : o = 18 ∨ o = 28) (hP : Lay M) (h : d_X3_call o x1 x2 M = some z) : CC Lay k_X3_call [.ref o, .int x1, .int x2] M z.2 (Qv (none) z.2) xF :=
  CC.ofVV (by decide) rfl (Nat.le_of_ble_eq_true rfl) (b_X3_call ho hP h)
theorem b_X3_pushMoved {o : Nat} {x1 : Int32} {M z} (ho : o = 18 ∨ o = 28) (hP : Lay M) (h : d_X3_pushMoved o x1 M = some z) : VV Lay k_X3_pushMoved 0 [(0, .ref o), (1, .int x1)] [] M z.2 (Qv (none) z.2) xF := by
  unfold d_X3_pushMoved at h
  refine Y_aload_n (pc := 0) (j := 0) dX3_pushMoved_0 rfl rfl ?_
  refine Z_getr (pc := 1) dX3_pushMoved_1 w1_176 (lo_0 hP ho) fr_4_5 (lor_0_5 hP ho) ?_
  refine Y_aload_n (pc := 4) (j := 0) dX3_pushMoved_4 rfl rfl ?_
  refine Z_geti (pc := 5) dX3_pushMoved_5 w1_184 (lo_0 hP ho) fi_4_9 ?_
  refine Y_iconst (pc := 8) (v := (1 : Int32)) dX3_pushMoved_8 rfl ?_
  refine Y_isub (pc := 9) dX3_pushMoved_9 ?_
  refine Y_dup2 (pc := 10) dX3_pushMoved_10 rfl rfl ?_
  obtain ⟨hb1, h⟩ := okE h
  refine Y_iald (pc := 11) dX3_pushMoved_11 (lo_8 hP ho) (lon_8 hP ho) hb1 ?_
  refine Y_iconst (pc := 12) (v := (1 : Int32)) dX3_pushMoved_12 rfl ?_
  refine Y_iadd (pc := 13) dX3_pushMoved_13 ?_
  obtain ⟨hb2, h⟩ := okE h
  refine Y_iast (pc := 14) dX3_pushMoved_14 (lo_8 hP ho) (lon_8 hP ho) hb2 ?_
  obtain ⟨M1, eM1, h⟩ := bndE h
  refine VV.mem eM1 ?_
  have hP1 := hP.wI eM1
  refine Y_aload_n (pc := 15) (j := 0) dX3_pushMoved_15 rfl rfl ?_
  refine Z_getr (pc := 16) dX3_pushMoved_16 w1_171 (lo_0 hP1 ho) fr_4_2 (lor_0_2 hP1 ho) ?_
  refine Y_iload_n (pc := 19) (j := 1) dX3_pushMoved_19 rfl rfl ?_
  refine Y_aload_n (pc := 20) (j := 0) dX3_pushMoved_20 rfl rfl ?_
  refine Y_iconst (pc := 21) (v := (1 : Int32)) dX3_pushMoved_21 rfl ?_
  obtain ⟨y1, qy1, h⟩ := bindE h
  have cy1 := v_X3_fromTop ho hP1 qy1
  refine C_V1r (pc := 22) (k' := k_X3_fromTop) dX3_pushMoved_22 w5_106 i_X3_fromTop (lo_0 hP1 ho) ⟨Nat.le_of_ble_eq_true rfl, Nat.le_of_ble_eq_true rfl⟩ rfl (Nat.le_of_ble_eq_true rfl) (Nat.le_of_ble_eq_true rfl) (Nat.le_of_ble_eq_true rfl) (cy1) ?_
  have hPy1 := cy1.1.1
  obtain ⟨y2, qy2, h⟩ := bindE h
  have cy2 := v_X8_move ho hPy1 qy2
  refine C_V2o (pc := 25) (k' := k_X8_move) dX3_pushMoved_25 w5_193 i_X8_move (lo_1 hPy1 ho) ⟨Nat.le_of_ble_eq_true rfl, Nat.le_of_ble_eq_true rfl⟩ rfl (Nat.le_of_ble_eq_true rfl) (Nat.le_of_ble_eq_true rfl) (Nat.le_of_ble_eq_true rfl) (cy2) ?_
  have hPy2 := cy2.1.1
  cases h
  exact Y_vret (pc := 28) rfl dX3_pushMoved_28 hPy2 ⟨rfl, rfl⟩
theorem v_X3_pushMoved {o : Nat} {x1 : Int32} {M z} (ho : o = 18 ∨ o = 28) (hP : Lay M) (h : d_X3_pushMoved o x1 M = some z) : CC Lay k_X3_pushMoved [.ref o, .int x1] M z.2 (Qv (none) z.2) xF :=
  CC.ofVV (by decide) rfl (Nat.le_of_ble_eq_true rfl) (b_X3_pushMoved ho hP h)
theorem b_X3_giveBack {o : Nat} {M z} (ho : o = 18 ∨ o = 28) (hP : Lay M) (h : d_X3_giveBack o M = some z) : VV Lay k_X3_giveBack 0 [(0, .ref o)] [] M z.2 (Qv (none) z.2) xF := by
  unfold d_X3_giveBack at h
  refine Y_aload_n (pc := 0) (j := 0) dX3_giveBack_0 rfl rfl ?_
  obtain ⟨y1, qy1, h⟩ := bindE h
  have cy1 := v_X3_take ho hP qy1
  refine C_V0r (pc := 1) (k' := k_X3_take) dX3_giveBack_1 w5_181 i_X3_take (lo_0 hP ho) ⟨Nat.le_of_ble_eq_true rfl, Nat.le_of_ble_eq_true rfl⟩ rfl (Nat.le_of_ble_eq_true rfl) (Nat.le_of_ble_eq_true rfl) (Nat.le_of_ble_eq_true rfl) (cy1) ?_
  have hPy1 := cy1.1.1
  refine Y_istore_n (pc := 4) (lv1 := [(1, .int y1.1), (0, .ref o)]) dX3_giveBack_4 rfl (by decide) rfl ?_
  refine Y_aload_n (pc := 5) (j := 1) dX3_giveBack_5 rfl rfl ?_
  refine Y_dup (pc := 6) dX3_giveBack_6 rfl ?_
  refine Z_geti (pc := 7) dX3_giveBack_7 w1_184 (lo_0 hPy1 ho) fi_4_9 ?_
  refine Y_iconst (pc := 10) (v := (1 : Int32)) dX3_giveBack_10 rfl ?_
  refine Y_isub (pc := 11) dX3_giveBack_11 ?_
  refine Z_puti (pc := 12) dX3_giveBack_12 w1_184 (lo_0 hPy1 ho) fi_4_9 (Or.inl rfl) rfl ?_
  obtain ⟨M1, eM1, h⟩ := bndE h
  refine VV.mem eM1 ?_
  have hP1 := hPy1.wI eM1
  refine Y_aload_n (pc := 15) (j := 1) dX3_giveBack_15 rfl rfl ?_
  refine Z_geti (pc := 16) dX3_giveBack_16 w1_184 (lo_0 hP1 ho) fi_4_9 ?_
  refine Y_if_ne (pc := 19) (tgt := 42) dX3_giveBack_19 (by decide) (fun hc1 => ?_) (fun hc1 => ?_)
  · replace h := ifF hc1 h
    refine Y_aload_n (pc := 42) (j := 1) dX3_giveBack_42 rfl rfl ?_
    refine Y_iload_n (pc := 43) (j := 0) dX3_giveBack_43 rfl rfl ?_
    obtain ⟨y2, qy2, h⟩ := bindE h
    have cy2 := v_X3_pushMoved ho hP1 qy2
    refine C_V1o (pc := 44) (k' := k_X3_pushMoved) dX3_giveBack_44 w5_201 i_X3_pushMoved (lo_0 hP1 ho) ⟨Nat.le_of_ble_eq_true rfl, Nat.le_of_ble_eq_true rfl⟩ rfl (Nat.le_of_ble_eq_true rfl) (Nat.le_of_ble_eq_true rfl) (Nat.le_of_ble_eq_true rfl) (cy2) ?_
    have hPy2 := cy2.1.1
    cases h
    exact Y_vret (pc := 47) rfl dX3_giveBack_47 hPy2 ⟨rfl, rfl⟩
  · replace h := ifT hc1 h
    refine Y_aload_n (pc := 22) (j := 1) dX3_giveBack_22 rfl rfl ?_
    refine Z_getr (pc := 23) dX3_giveBack_23 w1_171 (lo_0 hP1 ho) fr_4_2 (lor_0_2 hP1 ho) ?_
    refine Y_iload_n (pc := 26) (j := 0) dX3_giveBack_26 rfl rfl ?_
    refine Y_sipush (pc := 27) (v := (548 : Int32)) dX3_giveBack_27 rfl ?_
    obtain ⟨y3, qy3, h⟩ := bindE h
    have cy3 := v_X8_move ho hP1 qy3
    refine C_V2o (pc := 30) (k' := k_X8_move) dX3_giveBack_30 w5_193 i_X8_move (lo_1 hP1 ho) ⟨Nat.le_of_ble_eq_true rfl, Nat.le_of_ble_eq_true rfl⟩ rfl (Nat.le_of_ble_eq_true rfl) (Nat.le_of_ble_eq_true rfl) (Nat.le_of_ble_eq_true rfl) (cy3) ?_
    have hPy3 := cy3.1.1
    refine Y_aload_n (pc := 33) (j := 1) dX3_giveBack_33 rfl rfl ?_
    refine Y_bipush (pc := 34) (v := (118 : Int32)) dX3_giveBack_34 rfl ?_
    refine Z_putc (pc := 36) dX3_giveBack_36 w1_193 (lo_0 hPy3 ho) fi_4_13 (Or.inl rfl) rfl (by decide) ?_
    obtain ⟨M2, eM2, h⟩ := bndE h
    refine VV.mem eM2 ?_
    have hP2 := hPy3.wI eM2
    refine Y_goto (pc := 39) (tgt := 47) dX3_giveBack_39 (by decide) ?_
    cases h
    exact Y_vret (pc := 47) rfl dX3_giveBack_47 hP2 ⟨rfl, rfl⟩
theorem v_X3_giveBack {o : Nat} {M z} (ho : o = 18 ∨ o = 28) (hP : Lay M) (h : d_X3_giveBack o M = some z) : CC Lay k_X3_giveBack [.ref o] M z.2 (Qv (none) z.2) xF :=
  CC.ofVV (by decide) rfl (Nat.le_of_ble_eq_true rfl) (b_X3_giveBack ho hP h)
theorem b_X11_fieldPlace {x0 : Int32} {x1 : Int32} {M z} (hP : Lay M) (h : d_X11_fieldPlace x0 x1 M = some z) : VV Lay k_X11_fieldPlace 0 [(0, .int x0), (1, .int x1)] [] M z.2 (Qv (some (.int z.1)) z.2) xF := by
  unfold d_X11_fieldPlace at h
  refine Y_sipush (pc := 0) (v := (168 : Int32)) dX11_fieldPlace_0 rfl ?_
  refine Y_iload_n (pc := 3) (j := 0) dX11_fieldPlace_3 rfl rfl ?_
  refine Y_bipush (pc := 4) (v := (6 : Int32)) dX11_fieldPlace_4 rfl ?_
  refine Y_imul (pc := 6) dX11_fieldPlace_6 ?_
  refine Y_iadd (pc := 7) dX11_fieldPlace_7 ?_
  refine Y_iload_n (pc := 8) (j := 1) dX11_fieldPlace_8 rfl rfl ?_
  refine Y_iadd (pc := 9) dX11_fieldPlace_9 ?_
  cases h
  exact Y_iret (pc := 10) rfl rfl dX11_fieldPlace_10 hP ⟨rfl, rfl⟩
theorem v_X11_fieldPlace {x0 : Int32} {x1 : Int32} {M z} (hP : Lay M) (h : d_X11_fieldPlace x0 x1 M = some z) : CC Lay k_X11_fieldPlace [.int x0, .int x1] M z.2 (Qv (some (.int z.1)) z.2) xF :=
  CC.ofVV (by decide) rfl (Nat.le_of_ble_eq_true rfl) (b_X11_fieldPlace hP h)
theorem b_X7_addEmpty_28b {k28 : (Int32) → Mem → Option (Int32 × Mem)} {x2 : Int32} {x3 : Int32} {M z} (hk28 : ∀ (a : (Int32)) (M : Mem) (z : Int32 × Mem), Lay M → k28 a M = some z → VV Lay k_X7_addEmpty 28 [(0, .ref 11), (2, .int x2), (3, .int a)] [] M z.2 (Qv (some (.int z.1)) z.2) xF) (hP : Lay M) (h : d_X7_addEmpty_28b k28 x2 x3 M = some z) : VV Lay k_X7_addEmpty 28 [(0, .ref 11), (2, .int x2), (3, .int x3)] [] M z.2 (Qv (some (.int z.1)) z.2) xF := by
  unfold d_X7_addEmpty_28b at h
  refine Y_iload_n (pc := 28) (j := 2) dX7_addEmpty_28 rfl rfl ?_
  refine Y_bipush (pc := 29) (v := (6 : Int32)) dX7_addEmpty_29 rfl ?_
  refine Y_icmp_ge (pc := 31) (tgt := 52) dX7_addEmpty_31 (by decide) (fun hc1 => ?_) (fun hc1 => ?_)
  · replace h := ifT hc1 h
    refine Y_aload_n (pc := 52) (j := 0) dX7_addEmpty_52 rfl rfl ?_
    refine Y_dup (pc := 53) dX7_addEmpty_53 rfl ?_
    refine Z_geti (pc := 54) dX7_addEmpty_54 w1_120 (lk_11 hP) fi_7_6 ?_
    refine Y_iconst (pc := 57) (v := (1 : Int32)) dX7_addEmpty_57 rfl ?_
    refine Y_iadd (pc := 58) dX7_addEmpty_58 ?_
    refine Z_puti (pc := 59) dX7_addEmpty_59 w1_120 (lk_11 hP) fi_7_6 (Or.inl rfl) rfl ?_
    obtain ⟨M1, eM1, h⟩ := bndE h
    refine VV.mem eM1 ?_
    have hP1 := hP.wI eM1
    refine Y_iload_n (pc := 62) (j := 1) dX7_addEmpty_62 rfl rfl ?_
    cases h
    exact Y_iret (pc := 63) rfl rfl dX7_addEmpty_63 hP1 ⟨rfl, rfl⟩
  · replace h := ifF hc1 h
    refine Y_aload_n (pc := 34) (j := 0) dX7_addEmpty_34 rfl rfl ?_
    refine Z_getr (pc := 35) dX7_addEmpty_35 w1_115 (lk_11 hP) fr_7_4 (lr_11_4 hP) ?_
    refine Y_iload_n (pc := 38) (j := 1) dX7_addEmpty_38 rfl rfl ?_
    refine Y_bipush (pc := 39) (v := (6 : Int32)) dX7_addEmpty_39 rfl ?_
    refine Y_imul (pc := 41) dX7_addEmpty_41 ?_
    refine Y_iload_n (pc := 42) (j := 2) dX7_addEmpty_42 rfl rfl ?_
    refine Y_iadd (pc := 43) dX7_addEmpty_43 ?_
    refine Y_iconst (pc := 44) (v := (-1 : Int32)) dX7_addEmpty_44 rfl ?_
    obtain ⟨hb1, h⟩ := okE h
    refine Y_iast (pc := 45) dX7_addEmpty_45 (lk_16 hP) (ln_16 hP) hb1 ?_
    obtain ⟨M2, eM2, h⟩ := bndE h
    refine VV.mem eM2 ?_
    have hP2 := hP.wI eM2
    obtain ⟨b1, eb1, h⟩ := bndE h
    refine Y_iinc (pc := 46) (j := 2) (v := b1) (lv1 := [(3, .int b1), (0, .ref 11), (2, .int x2)]) dX7_addEmpty_46 rfl eb1.symm (by decide) rfl ?_
    refine Y_goto (pc := 49) (tgt := 28) dX7_addEmpty_49 (by decide) ?_
    refine VV.sub [1, 2, 0] rfl ?_
    exact hk28 _ _ _ hP2 h
theorem b_X7_addEmpty_28 {x2 : Int32} (n : Nat) : ∀ (a : (Int32)) (M : Mem) (z : Int32 × Mem), d_X7_addEmpty_28 x2 n a M = some z → Lay M → VV Lay k_X7_addEmpty 28 [(0, .ref 11), (2, .int x2), (3, .int a)] [] M z.2 (Qv (some (.int z.1)) z.2) xF :=
  lp_ind (G := fun (a : (Int32)) (M : Mem) (z : Int32 × Mem) => Lay M → VV Lay k_X7_addEmpty 28 [(0, .ref 11), (2, .int x2), (3, .int a)] [] M z.2 (Qv (some (.int z.1)) z.2) xF) (fun k hk a M z h hP => b_X7_addEmpty_28b  (fun a M z hP h => hk a M z h hP) hP h) n
theorem b_X7_addEmpty {x1 : Int32} {M z} (hP : Lay M) (h : d_X7_addEmpty x1 M = some z) : VV Lay k_X7_addEmpty 0 [(0, .ref 11), (1, .int x1)] [] M z.2 (Qv (some (.int z.1)) z.2) xF := by
  unfold d_X7_addEmpty at h
  refine Y_aload_n (pc := 0) (j := 0) dX7_addEmpty_0 rfl rfl ?_
  refine Z_geti (pc := 1) dX7_addEmpty_1 w1_120 (lk_11 hP) fi_7_6 ?_
  obtain ⟨b1, eb1, h⟩ := bndE h
  refine VV.topI eb1 ?_
  refine Y_istore_n (pc := 4) (lv1 := [(2, .int b1), (0, .ref 11), (1, .int x1)]) dX7_addEmpty_4 rfl (by decide) rfl ?_
  refine Y_aload_n (pc := 5) (j := 1) dX7_addEmpty_5 rfl rfl ?_
  refine Z_getr (pc := 6) dX7_addEmpty_6 w1_108 (lk_11 hP) fr_7_0 (lr_11_0 hP) ?_
  refine Y_iload_n (pc := 9) (j := 0) dX7_addEmpty_9 rfl rfl ?_
  refine Y_iload_n (pc := 10) (j := 2) dX7_addEmpty_10 rfl rfl ?_
  obtain ⟨hb1, h⟩ := okE h
  refine Y_iast (pc := 11) dX7_addEmpty_11 (lk_12 hP) (ln_12 hP) hb1 ?_
  obtain ⟨M1, eM1, h⟩ := bndE h
  refine VV.mem eM1 ?_
  have hP1 := hP.wI eM1
  refine Y_aload_n (pc := 12) (j := 1) dX7_addEmpty_12 rfl rfl ?_
  refine Z_getr (pc := 13) dX7_addEmpty_13 w1_110 (lk_11 hP1) fr_7_1 (lr_11_1 hP1) ?_
  refine Y_iload_n (pc := 16) (j := 0) dX7_addEmpty_16 rfl rfl ?_
  refine Y_iconst (pc := 17) (v := (0 : Int32)) dX7_addEmpty_17 rfl ?_
  obtain ⟨hb2, h⟩ := okE h
  refine Y_iast (pc := 18) dX7_addEmpty_18 (lk_13 hP1) (ln_13 hP1) hb2 ?_
  obtain ⟨M2, eM2, h⟩ := bndE h
  refine VV.mem eM2 ?_
  have hP2 := hP1.wI eM2
  refine Y_aload_n (pc := 19) (j := 1) dX7_addEmpty_19 rfl rfl ?_
  refine Z_getr (pc := 20) dX7_addEmpty_20 w1_112 (lk_11 hP2) fr_7_2 (lr_11_2 hP2) ?_
  refine Y_iload_n (pc := 23) (j := 0) dX7_addEmpty_23 rfl rfl ?_
  refine Y_iconst (pc := 24) (v := (0 : Int32)) dX7_addEmpty_24 rfl ?_
  obtain ⟨hb3, h⟩ := okE h
  refine Y_iast (pc := 25) dX7_addEmpty_25 (lk_14 hP2) (ln_14 hP2) hb3 ?_
  obtain ⟨M3, eM3, h⟩ := bndE h
  refine VV.mem eM3 ?_
  have hP3 := hP2.wI eM3
  refine Y_iconst (pc := 26) (v := (0 : Int32)) dX7_addEmpty_26 rfl ?_
  refine Y_istore_n (pc := 27) (lv1 := [(3, .int (0 : Int32)), (2, .int b1), (0, .ref 11), (1, .int x1)]) dX7_addEmpty_27 rfl (by decide) rfl ?_
  refine VV.sub [2, 1, 0] rfl ?_
  exact b_X7_addEmpty_28  fuel _ _ _ h hP3
theorem v_X7_addEmpty {x1 : Int32} {M z} (hP : Lay M) (h : d_X7_addEmpty x1 M = some z) : CC Lay k_X7_addEmpty [.ref 11, .int x1] M z.2 (Qv (some (.int z.1)) z.2) xF :=
  CC.ofVV (by decide) rfl (Nat.le_of_ble_eq_true rfl) (b_X7_addEmpty hP h)
theorem b_X7_addLonger_14b {k14 : (Int32) → Mem → Option (Int32 × Mem)} {x1 : Int32} {x2 : Int32} {x3 : Int32} {x4 : Int32} {M z} (hk14 : ∀ (a : (Int32)) (M : Mem) (z : Int32 × Mem), Lay M → k14 a M = some z → VV Lay k_X7_addLonger 14 [(0, .ref 11), (1, .int x1), (2, .int x2), (3, .int x3), (4, .int a)] [] M z.2 (Qv (some (.int z.1)) z.2) xF) (hP : Lay M) (h : d_X7_addLonger_14b k14 x1 x2 x3 x4 M = some z) : VV Lay k_X7_addLonger 14 [(0, .ref 11), (1, .int x1), (2, .int x2), (3, .int x3), (4, .int x4)] [] M z.2 (Qv (some (.int z.1)) z.2) xF := by
  unfold d_X7_addLonger_14b at h
  refine Y_iload (pc := 14) (j := 4) dX7_addLonger_14 rfl ?_
  refine Y_aload_n (pc := 16) (j := 0) dX7_addLonger_16 rfl rfl ?_
  refine Z_getr (pc := 17) dX7_addLonger_17 w1_110 (lk_11 hP) fr_7_1 (lr_11_1 hP) ?_
  refine Y_iload_n (pc := 20) (j := 1) dX7_addLonger_20 rfl rfl ?_
  obtain ⟨hb1, h⟩ := okE h
  refine Y_iald (pc := 21) dX7_addLonger_21 (lk_13 hP) (ln_13 hP) hb1 ?_
  refine Y_icmp_ge (pc := 22) (tgt := 55) dX7_addLonger_22 (by decide) (fun hc1 => ?_) (fun hc1 => ?_)
  · replace h := ifT hc1 h
    refine Y_aload_n (pc := 55) (j := 0) dX7_addLonger_55 rfl rfl ?_
    refine Z_getr (pc := 56) dX7_addLonger_56 w1_113 (lk_11 hP) fr_7_3 (lr_11_3 hP) ?_
    refine Y_iload_n (pc := 59) (j := 3) dX7_addLonger_59 rfl rfl ?_
    refine Y_bipush (pc := 60) (v := (6 : Int32)) dX7_addLonger_60 rfl ?_
    refine Y_imul (pc := 62) dX7_addLonger_62 ?_
    refine Y_aload_n (pc := 63) (j := 0) dX7_addLonger_63 rfl rfl ?_
    refine Z_getr (pc := 64) dX7_addLonger_64 w1_110 (lk_11 hP) fr_7_1 (lr_11_1 hP) ?_
    refine Y_iload_n (pc := 67) (j := 1) dX7_addLonger_67 rfl rfl ?_
    obtain ⟨hb2, h⟩ := okE h
    refine Y_iald (pc := 68) dX7_addLonger_68 (lk_13 hP) (ln_13 hP) hb2 ?_
    refine Y_iadd (pc := 69) dX7_addLonger_69 ?_
    refine Y_iload_n (pc := 70) (j := 2) dX7_addLonger_70 rfl rfl ?_
    obtain ⟨hb3, h⟩ := okE h
    refine Y_iast (pc := 71) dX7_addLonger_71 (lk_15 hP) (ln_15 hP) hb3 ?_
    obtain ⟨M1, eM1, h⟩ := bndE h
    refine VV.mem eM1 ?_
    have hP1 := hP.wI eM1
    refine Y_aload_n (pc := 72) (j := 0) dX7_addLonger_72 rfl rfl ?_
    refine Z_getr (pc := 73) dX7_addLonger_73 w1_110 (lk_11 hP1) fr_7_1 (lr_11_1 hP1) ?_
    refine Y_iload_n (pc := 76) (j := 3) dX7_addLonger_76 rfl rfl ?_
    refine Y_aload_n (pc := 77) (j := 0) dX7_addLonger_77 rfl rfl ?_
    refine Z_getr (pc := 78) dX7_addLonger_78 w1_110 (lk_11 hP1) fr_7_1 (lr_11_1 hP1) ?_
    refine Y_iload_n (pc := 81) (j := 1) dX7_addLonger_81 rfl rfl ?_
    obtain ⟨hb4, h⟩ := okE h
    refine Y_iald (pc := 82) dX7_addLonger_82 (lk_13 hP1) (ln_13 hP1) hb4 ?_
    refine Y_iconst (pc := 83) (v := (1 : Int32)) dX7_addLonger_83 rfl ?_
    refine Y_iadd (pc := 84) dX7_addLonger_84 ?_
    obtain ⟨hb5, h⟩ := okE h
    refine Y_iast (pc := 85) dX7_addLonger_85 (lk_13 hP1) (ln_13 hP1) hb5 ?_
    obtain ⟨M2, eM2, h⟩ := bndE h
    refine VV.mem eM2 ?_
    have hP2 := hP1.wI eM2
    refine Y_aload_n (pc := 86) (j := 0) dX7_addLonger_86 rfl rfl ?_
    refine Z_getr (pc := 87) dX7_addLonger_87 w1_112 (lk_11 hP2) fr_7_2 (lr_11_2 hP2) ?_
    refine Y_iload_n (pc := 90) (j := 3) dX7_addLonger_90 rfl rfl ?_
    refine Y_aload_n (pc := 91) (j := 0) dX7_addLonger_91 rfl rfl ?_
    refine Z_getr (pc := 92) dX7_addLonger_92 w1_112 (lk_11 hP2) fr_7_2 (lr_11_2 hP2) ?_
    refine Y_iload_n (pc := 95) (j := 1) dX7_addLonger_95 rfl rfl ?_
    obtain ⟨hb6, h⟩ := okE h
    refine Y_iald (pc := 96) dX7_addLonger_96 (lk_14 hP2) (ln_14 hP2) hb6 ?_
    refine Y_iconst (pc := 97) (v := (1 : Int32)) dX7_addLonger_97 rfl ?_
    refine Y_iload_n (pc := 98) (j := 2) dX7_addLonger_98 rfl rfl ?_
    refine Y_ishl (pc := 99) dX7_addLonger_99 ?_
    refine Y_ior (pc := 100) dX7_addLonger_100 ?_
    obtain ⟨hb7, h⟩ := okE h
    refine Y_iast (pc := 101) dX7_addLonger_101 (lk_14 hP2) (ln_14 hP2) hb7 ?_
    obtain ⟨M3, eM3, h⟩ := bndE h
    refine VV.mem eM3 ?_
    have hP3 := hP2.wI eM3
    refine Y_iload_n (pc := 102) (j := 3) dX7_addLonger_102 rfl rfl ?_
    cases h
    exact Y_iret (pc := 103) rfl rfl dX7_addLonger_103 hP3 ⟨rfl, rfl⟩
  · replace h := ifF hc1 h
    refine Y_aload_n (pc := 25) (j := 0) dX7_addLonger_25 rfl rfl ?_
    refine Z_getr (pc := 26) dX7_addLonger_26 w1_113 (lk_11 hP) fr_7_3 (lr_11_3 hP) ?_
    refine Y_iload_n (pc := 29) (j := 3) dX7_addLonger_29 rfl rfl ?_
    refine Y_bipush (pc := 30) (v := (6 : Int32)) dX7_addLonger_30 rfl ?_
    refine Y_imul (pc := 32) dX7_addLonger_32 ?_
    refine Y_iload (pc := 33) (j := 4) dX7_addLonger_33 rfl ?_
    refine Y_iadd (pc := 35) dX7_addLonger_35 ?_
    refine Y_aload_n (pc := 36) (j := 0) dX7_addLonger_36 rfl rfl ?_
    refine Z_getr (pc := 37) dX7_addLonger_37 w1_113 (lk_11 hP) fr_7_3 (lr_11_3 hP) ?_
    refine Y_iload_n (pc := 40) (j := 1) dX7_addLonger_40 rfl rfl ?_
    refine Y_bipush (pc := 41) (v := (6 : Int32)) dX7_addLonger_41 rfl ?_
    refine Y_imul (pc := 43) dX7_addLonger_43 ?_
    refine Y_iload (pc := 44) (j := 4) dX7_addLonger_44 rfl ?_
    refine Y_iadd (pc := 46) dX7_addLonger_46 ?_
    obtain ⟨hb8, h⟩ := okE h
    refine Y_iald (pc := 47) dX7_addLonger_47 (lk_15 hP) (ln_15 hP) hb8 ?_
    obtain ⟨hb9, h⟩ := okE h
    refine Y_iast (pc := 48) dX7_addLonger_48 (lk_15 hP) (ln_15 hP) hb9 ?_
    obtain ⟨M4, eM4, h⟩ := bndE h
    refine VV.mem eM4 ?_
    have hP4 := hP.wI eM4
    obtain ⟨b1, eb1, h⟩ := bndE h
    refine Y_iinc (pc := 49) (j := 4) (v := b1) (lv1 := [(4, .int b1), (0, .ref 11), (1, .int x1), (2, .int x2), (3, .int x3)]) dX7_addLonger_49 rfl eb1.symm (by decide) rfl ?_
    refine Y_goto (pc := 52) (tgt := 14) dX7_addLonger_52 (by decide) ?_
    refine VV.sub [1, 2, 3, 4, 0] rfl ?_
    exact hk14 _ _ _ hP4 h
theorem b_X7_addLonger_14 {x1 : Int32} {x2 : Int32} {x3 : Int32} (n : Nat) : ∀ (a : (Int32)) (M : Mem) (z : Int32 × Mem), d_X7_addLonger_14 x1 x2 x3 n a M = some z → Lay M → VV Lay k_X7_addLonger 14 [(0, .ref 11), (1, .int x1), (2, .int x2), (3, .int x3), (4, .int a)] [] M z.2 (Qv (some (.int z.1)) z.2) xF :=
  lp_ind (G := fun (a : (Int32)) (M : Mem) (z : Int32 × Mem) => Lay M → VV Lay k_X7_addLonger 14 [(0, .ref 11), (1, .int x1), (2, .int x2), (3, .int x3), (4, .int a)] [] M z.2 (Qv (some (.int z.1)) z.2) xF) (fun k hk a M z h hP => b_X7_addLonger_14b  (fun a M z hP h => hk a M z h hP) hP h) n
theorem b_X7_addLonger {x1 : Int32} {x2 : Int32} {M z} (hP : Lay M) (h : d_X7_addLonger x1 x2 M = some z) : VV Lay k_X7_addLonger 0 [(0, .ref 11), (1, .int x1), (2, .int x2)] [] M z.2 (Qv (some (.int z.1)) z.2) xF := by
  unfold d_X7_addLonger at h
  refine Y_aload_n (pc := 0) (j := 0) dX7_addLonger_0 rfl rfl ?_
  refine Y_aload_n (pc := 1) (j := 0) dX7_addLonger_1 rfl rfl ?_
  refine Z_getr (pc := 2) dX7_addLonger_2 w1_108 (lk_11 hP) fr_7_0 (lr_11_0 hP) ?_
  refine Y_iload_n (pc := 5) (j := 1) dX7_addLonger_5 rfl rfl ?_
  obtain ⟨hb1, h⟩ := okE h
  refine Y_iald (pc := 6) dX7_addLonger_6 (lk_12 hP) (ln_12 hP) hb1 ?_
  obtain ⟨y1, qy1, h⟩ := bindE h
  have cy1 := v_X7_addEmpty hP qy1
  refine C_V1r (pc := 7) (k' := k_X7_addEmpty) dX7_addLonger_7 w5_220 i_X7_addEmpty (lk_11 hP) ⟨Nat.le_of_ble_eq_true rfl, Nat.le_of_ble_eq_true rfl⟩ rfl (Nat.le_of_ble_eq_true rfl) (Nat.le_of_ble_eq_true rfl) (Nat.le_of_ble_eq_true rfl) (cy1) ?_
  have hPy1 := cy1.1.1
  refine Y_istore_n (pc := 10) (lv1 := [(3, .int y1.1), (0, .ref 11), (1, .int x1), (2, .int x2)]) dX7_addLonger_10 rfl (by decide) rfl ?_
  refine Y_iconst (pc := 11) (v := (0 : Int32)) dX7_addLonger_11 rfl ?_
  refine Y_istore (pc := 12) (lv1 := [(4, .int (0 : Int32)), (3, .int y1.1), (0, .ref 11), (1, .int x1), (2, .int x2)]) dX7_addLonger_12 (by decide) rfl ?_
  refine VV.sub [2, 3, 4, 1, 0] rfl ?_
  exact b_X7_addLonger_14  fuel _ _ _ h hPy1
theorem v_X7_addLonger {x1 : Int32} {x2 : Int32} {M z} (hP : Lay M) (h : d_X7_addLonger x1 x2 M = some z) : CC Lay k_X7_addLonger [.ref 11, .int x1, .int x2] M z.2 (Qv (some (.int z.1)) z.2) xF :=
  CC.ofVV (by decide) rfl (Nat.le_of_ble_eq_true rfl) (b_X7_addLonger hP h)
theorem b_X7_behindPut_43 {x1 : Int32} {x2 : Int32} {M z} (hP : Lay M) (h : d_X7_behindPut_43 x1 x2 M = some z) : VV Lay k_X7_behindPut 43 [(0, .ref 11), (1, .int x1), (2, .int x2)] [] M z.2 (Qv (some (.int z.1)) z.2) xF := by
  unfold d_X7_behindPut_43 at h
  refine Y_aload_n (pc := 43) (j := 0) dX7_behindPut_43 rfl rfl ?_
  refine Z_getr (pc := 44) dX7_behindPut_44 w1_115 (lk_11 hP) fr_7_4 (lr_11_4 hP) ?_
  refine Y_iload_n (pc := 47) (j := 1) dX7_behindPut_47 rfl rfl ?_
  refine Y_bipush (pc := 48) (v := (6 : Int32)) dX7_behindPut_48 rfl ?_
  refine Y_imul (pc := 50) dX7_behindPut_50 ?_
  refine Y_iload_n (pc := 51) (j := 2) dX7_behindPut_51 rfl rfl ?_
  refine Y_iadd (pc := 52) dX7_behindPut_52 ?_
  obtain ⟨hb1, h⟩ := okE h
  refine Y_iald (pc := 53) dX7_behindPut_53 (lk_16 hP) (ln_16 hP) hb1 ?_
  cases h
  exact Y_iret (pc := 54) rfl rfl dX7_behindPut_54 hP ⟨rfl, rfl⟩
theorem b_X7_behindPut {x1 : Int32} {x2 : Int32} {M z} (hP : Lay M) (h : d_X7_behindPut x1 x2 M = some z) : VV Lay k_X7_behindPut 0 [(0, .ref 11), (1, .int x1), (2, .int x2)] [] M z.2 (Qv (some (.int z.1)) z.2) xF := by
  unfold d_X7_behindPut at h
  refine Y_aload_n (pc := 0) (j := 0) dX7_behindPut_0 rfl rfl ?_
  refine Y_iload_n (pc := 1) (j := 1) dX7_behindPut_1 rfl rfl ?_
  refine Y_iload_n (pc := 2) (j := 2) dX7_behindPut_2 rfl rfl ?_
  obtain ⟨y1, qy1, h⟩ := bindE h
  have cy1 := v_X7_has hP qy1
  refine C_V2r (pc := 3) (k' := k_X7_has) dX7_behindPut_3 w5_152 i_X7_has (lk_11 hP) ⟨Nat.le_of_ble_eq_true rfl, Nat.le_of_ble_eq_true rfl⟩ rfl (Nat.le_of_ble_eq_true rfl) (Nat.le_of_ble_eq_true rfl) (Nat.le_of_ble_eq_true rfl) (cy1) ?_
  have hPy1 := cy1.1.1
  refine Y_if_eq (pc := 6) (tgt := 11) dX7_behindPut_6 (by decide) (fun hc1 => ?_) (fun hc1 => ?_)
  · replace h := ifT hc1 h
    refine Y_aload_n (pc := 11) (j := 0) dX7_behindPut_11 rfl rfl ?_
    refine Z_getr (pc := 12) dX7_behindPut_12 w1_115 (lk_11 hPy1) fr_7_4 (lr_11_4 hPy1) ?_
    refine Y_iload_n (pc := 15) (j := 1) dX7_behindPut_15 rfl rfl ?_
    refine Y_bipush (pc := 16) (v := (6 : Int32)) dX7_behindPut_16 rfl ?_
    refine Y_imul (pc := 18) dX7_behindPut_18 ?_
    refine Y_iload_n (pc := 19) (j := 2) dX7_behindPut_19 rfl rfl ?_
    refine Y_iadd (pc := 20) dX7_behindPut_20 ?_
    obtain ⟨hb1, h⟩ := okE h
    refine Y_iald (pc := 21) dX7_behindPut_21 (lk_16 hPy1) (ln_16 hPy1) hb1 ?_
    refine Y_iconst (pc := 22) (v := (-1 : Int32)) dX7_behindPut_22 rfl ?_
    refine Y_icmp_ne (pc := 23) (tgt := 43) dX7_behindPut_23 (by decide) (fun hc2 => ?_) (fun hc2 => ?_)
    · replace h := ifF hc2 h
      refine VV.sub [0, 1, 2] rfl ?_
      exact b_X7_behindPut_43  hPy1 h
    · replace h := ifT hc2 h
      refine Y_aload_n (pc := 26) (j := 0) dX7_behindPut_26 rfl rfl ?_
      refine Z_getr (pc := 27) dX7_behindPut_27 w1_115 (lk_11 hPy1) fr_7_4 (lr_11_4 hPy1) ?_
      refine Y_iload_n (pc := 30) (j := 1) dX7_behindPut_30 rfl rfl ?_
      refine Y_bipush (pc := 31) (v := (6 : Int32)) dX7_behindPut_31 rfl ?_
      refine Y_imul (pc := 33) dX7_behindPut_33 ?_
      refine Y_iload_n (pc := 34) (j := 2) dX7_behindPut_34 rfl rfl ?_
      refine Y_iadd (pc := 35) dX7_behindPut_35 ?_
      refine Y_aload_n (pc := 36) (j := 0) dX7_behindPut_36 rfl rfl ?_
      refine Y_iload_n (pc := 37) (j := 1) dX7_behindPut_37 rfl rfl ?_
      refine Y_iload_n (pc := 38) (j := 2) dX7_behindPut_38 rfl rfl ?_
      obtain ⟨y2, qy2, h⟩ := bindE h
      have cy2 := v_X7_addLonger hPy1 qy2
      refine C_V2r (pc := 39) (k' := k_X7_addLonger) dX7_behindPut_39 w5_216 i_X7_addLonger (lk_11 hPy1) ⟨Nat.le_of_ble_eq_true rfl, Nat.le_of_ble_eq_true rfl⟩ rfl (Nat.le_of_ble_eq_true rfl) (Nat.le_of_ble_eq_true rfl) (Nat.le_of_ble_eq_true rfl) (cy2) ?_
      have hPy2 := cy2.1.1
      obtain ⟨hb2, h⟩ := okE h
      refine Y_iast (pc := 42) dX7_behindPut_42 (lk_16 hPy2) (ln_16 hPy2) hb2 ?_
      obtain ⟨M1, eM1, h⟩ := bndE h
      refine VV.mem eM1 ?_
      have hP1 := hPy2.wI eM1
      refine VV.sub [0, 1, 2] rfl ?_
      exact b_X7_behindPut_43  hP1 h
  · replace h := ifF hc1 h
    refine Y_iload_n (pc := 9) (j := 1) dX7_behindPut_9 rfl rfl ?_
    cases h
    exact Y_iret (pc := 10) rfl rfl dX7_behindPut_10 hPy1 ⟨rfl, rfl⟩
theorem v_X7_behindPut {x1 : Int32} {x2 : Int32} {M z} (hP : Lay M) (h : d_X7_behindPut x1 x2 M = some z) : CC Lay k_X7_behindPut [.ref 11, .int x1, .int x2] M z.2 (Qv (some (.int z.1)) z.2) xF :=
  CC.ofVV (by decide) rfl (Nat.le_of_ble_eq_true rfl) (b_X7_behindPut hP h)
set_option maxRecDepth 20000 in
theorem b_X3_useObject {o : Nat} {x1 : Int32} {x2 : Int32} {M z} (ho : o = 18 ∨ o = 28) (hP : Lay M) (h : d_X3_useObject o x1 x2 M = some z) : VV Lay k_X3_useObject 0 [(0, .ref o), (1, .int x1), (2, .int x2)] [] M z.2 (Qv (none) z.2) xF := by
  unfold d_X3_useObject at h
  refine Y_iload_n (pc := 0) (j := 1) dX3_useObject_0 rfl rfl ?_
  refine Y_bipush (pc := 1) (v := (110 : Int32)) dX3_useObject_1 rfl ?_
  refine Y_icmp_ne (pc := 3) (tgt := 47) dX3_useObject_3 (by decide) (fun hc1 => ?_) (fun hc1 => ?_)
  · replace h := ifF hc1 h
    refine Y_iload_n (pc := 47) (j := 1) dX3_useObject_47 rfl rfl ?_
    refine Y_bipush (pc := 48) (v := (103 : Int32)) dX3_useObject_48 rfl ?_
    refine Y_icmp_ne (pc := 50) (tgt := 85) dX3_useObject_50 (by decide) (fun hc2 => ?_) (fun hc2 => ?_)
    · replace h := ifF hc2 h
      refine Y_aload_n (pc := 85) (j := 0) dX3_useObject_85 rfl rfl ?_
      obtain ⟨y1, qy1, h⟩ := bindE h
      have cy1 := v_X3_take ho hP qy1
      refine C_V0r (pc := 86) (k' := k_X3_take) dX3_useObject_86 w5_181 i_X3_take (lo_0 hP ho) ⟨Nat.le_of_ble_eq_true rfl, Nat.le_of_ble_eq_true rfl⟩ rfl (Nat.le_of_ble_eq_true rfl) (Nat.le_of_ble_eq_true rfl) (Nat.le_of_ble_eq_true rfl) (cy1) ?_
      have hPy1 := cy1.1.1
      refine Y_istore_n (pc := 89) (lv1 := [(3, .int y1.1), (0, .ref o), (1, .int x1), (2, .int x2)]) dX3_useObject_89 rfl (by decide) rfl ?_
      refine Y_aload_n (pc := 90) (j := 1) dX3_useObject_90 rfl rfl ?_
      refine Z_getr (pc := 91) dX3_useObject_91 w1_171 (lo_0 hPy1 ho) fr_4_2 (lor_0_2 hPy1 ho) ?_
      refine Z_getr (pc := 94) dX3_useObject_94 w1_153 (lo_1 hPy1 ho) fr_8_1 (lor_1_1 hPy1 ho) ?_
      refine Y_aload_n (pc := 97) (j := 1) dX3_useObject_97 rfl rfl ?_
      obtain ⟨y2, qy2, h⟩ := bindE h
      have cy2 := v_X3_take ho hPy1 qy2
      refine C_V0r (pc := 98) (k' := k_X3_take) dX3_useObject_98 w5_181 i_X3_take (lo_0 hPy1 ho) ⟨Nat.le_of_ble_eq_true rfl, Nat.le_of_ble_eq_true rfl⟩ rfl (Nat.le_of_ble_eq_true rfl) (Nat.le_of_ble_eq_true rfl) (Nat.le_of_ble_eq_true rfl) (cy2) ?_
      have hPy2 := cy2.1.1
      obtain ⟨hb1, h⟩ := okE h
      refine Y_iald (pc := 101) dX3_useObject_101 (lo_3 hPy2 ho) (lon_3 hPy2 ho) hb1 ?_
      obtain ⟨b1, eb1, h⟩ := bndE h
      refine VV.topI eb1 ?_
      refine Y_istore (pc := 102) (lv1 := [(4, .int b1), (3, .int y1.1), (0, .ref o), (1, .int x1), (2, .int x2)]) dX3_useObject_102 (by decide) rfl ?_
      refine Y_aload_n (pc := 104) (j := 2) dX3_useObject_104 rfl rfl ?_
      refine Z_getr (pc := 105) dX3_useObject_105 w1_177 (lo_0 hPy2 ho) fr_4_6 (lor_0_6 hPy2 ho) ?_
      refine Y_iload (pc := 108) (j := 0) dX3_useObject_108 rfl ?_
      refine Y_aload_n (pc := 110) (j := 2) dX3_useObject_110 rfl rfl ?_
      refine Z_getr (pc := 111) dX3_useObject_111 w1_169 (lo_0 hPy2 ho) fr_4_1 (lor_0_1 hPy2 ho) ?_
      refine Y_aload_n (pc := 114) (j := 2) dX3_useObject_114 rfl rfl ?_
      refine Z_getr (pc := 115) dX3_useObject_115 w1_177 (lo_0 hPy2 ho) fr_4_6 (lor_0_6 hPy2 ho) ?_
      refine Y_iload (pc := 118) (j := 0) dX3_useObject_118 rfl ?_
      obtain ⟨hb2, h⟩ := okE h
      refine Y_iald (pc := 120) dX3_useObject_120 (lo_9 hPy2 ho) (lon_9 hPy2 ho) hb2 ?_
      refine Y_iload_n (pc := 121) (j := 4) dX3_useObject_121 rfl rfl ?_
      obtain ⟨y3, qy3, h⟩ := bindE h
      have cy3 := v_X7_behindPut hPy2 qy3
      refine C_V2r (pc := 122) (k' := k_X7_behindPut) dX3_useObject_122 w5_212 i_X7_behindPut (lk_11 hPy2) ⟨Nat.le_of_ble_eq_true rfl, Nat.le_of_ble_eq_true rfl⟩ rfl (Nat.le_of_ble_eq_true rfl) (Nat.le_of_ble_eq_true rfl) (Nat.le_of_ble_eq_true rfl) (cy3) ?_
      have hPy3 := cy3.1.1
      obtain ⟨hb3, h⟩ := okE h
      refine Y_iast (pc := 125) dX3_useObject_125 (lo_9 hPy3 ho) (lon_9 hPy3 ho) hb3 ?_
      obtain ⟨M1, eM1, h⟩ := bndE h
      refine VV.mem eM1 ?_
      have hP1 := hPy3.wI eM1
      refine Y_aload_n (pc := 126) (j := 2) dX3_useObject_126 rfl rfl ?_
      refine Z_getr (pc := 127) dX3_useObject_127 w1_171 (lo_0 hP1 ho) fr_4_2 (lor_0_2 hP1 ho) ?_
      refine Y_iload_n (pc := 130) (j := 1) dX3_useObject_130 rfl rfl ?_
      refine Y_iload (pc := 131) (j := 0) dX3_useObject_131 rfl ?_
      refine Y_iload_n (pc := 133) (j := 4) dX3_useObject_133 rfl rfl ?_
      obtain ⟨y4, qy4, h⟩ := bindE h
      have cy4 := v_X11_fieldPlace hP1 qy4
      refine C_N2r (pc := 134) (k' := k_X11_fieldPlace) dX3_useObject_134 nl_Machine_260 i_X11_fieldPlace (Nat.le_of_ble_eq_true rfl) (Nat.le_of_ble_eq_true rfl) (Nat.le_of_ble_eq_true rfl) (cy4) ?_
      have hPy4 := cy4.1.1
      obtain ⟨y5, qy5, h⟩ := bindE h
      have cy5 := v_X8_move ho hPy4 qy5
      refine C_V2o (pc := 137) (k' := k_X8_move) dX3_useObject_137 w5_193 i_X8_move (lo_1 hPy4 ho) ⟨Nat.le_of_ble_eq_true rfl, Nat.le_of_ble_eq_true rfl⟩ rfl (Nat.le_of_ble_eq_true rfl) (Nat.le_of_ble_eq_true rfl) (Nat.le_of_ble_eq_true rfl) (cy5) ?_
      have hPy5 := cy5.1.1
      cases h
      exact Y_vret (pc := 140) rfl dX3_useObject_140 hPy5 ⟨rfl, rfl⟩
    · replace h := ifT hc2 h
      refine Y_aload_n (pc := 53) (j := 0) dX3_useObject_53 rfl rfl ?_
      refine Z_getr (pc := 54) dX3_useObject_54 w1_171 (lo_0 hP ho) fr_4_2 (lor_0_2 hP ho) ?_
      refine Y_aload_n (pc := 57) (j := 0) dX3_useObject_57 rfl rfl ?_
      refine Z_getr (pc := 58) dX3_useObject_58 w1_171 (lo_0 hP ho) fr_4_2 (lor_0_2 hP ho) ?_
      refine Z_getr (pc := 61) dX3_useObject_61 w1_153 (lo_1 hP ho) fr_8_1 (lor_1_1 hP ho) ?_
      refine Y_aload_n (pc := 64) (j := 0) dX3_useObject_64 rfl rfl ?_
      refine Y_iconst (pc := 65) (v := (1 : Int32)) dX3_useObject_65 rfl ?_
      obtain ⟨y6, qy6, h⟩ := bindE h
      have cy6 := v_X3_fromTop ho hP qy6
      refine C_V1r (pc := 66) (k' := k_X3_fromTop) dX3_useObject_66 w5_106 i_X3_fromTop (lo_0 hP ho) ⟨Nat.le_of_ble_eq_true rfl, Nat.le_of_ble_eq_true rfl⟩ rfl (Nat.le_of_ble_eq_true rfl) (Nat.le_of_ble_eq_true rfl) (Nat.le_of_ble_eq_true rfl) (cy6) ?_
      have hPy6 := cy6.1.1
      obtain ⟨hb4, h⟩ := okE h
      refine Y_iald (pc := 69) dX3_useObject_69 (lo_3 hPy6 ho) (lon_3 hPy6 ho) hb4 ?_
      refine Y_iload_n (pc := 70) (j := 2) dX3_useObject_70 rfl rfl ?_
      obtain ⟨y7, qy7, h⟩ := bindE h
      have cy7 := v_X11_fieldPlace hPy6 qy7
      refine C_N2r (pc := 71) (k' := k_X11_fieldPlace) dX3_useObject_71 nl_Machine_260 i_X11_fieldPlace (Nat.le_of_ble_eq_true rfl) (Nat.le_of_ble_eq_true rfl) (Nat.le_of_ble_eq_true rfl) (cy7) ?_
      have hPy7 := cy7.1.1
      refine Y_aload_n (pc := 74) (j := 0) dX3_useObject_74 rfl rfl ?_
      refine Y_iconst (pc := 75) (v := (1 : Int32)) dX3_useObject_75 rfl ?_
      obtain ⟨y8, qy8, h⟩ := bindE h
      have cy8 := v_X3_fromTop ho hPy7 qy8
      refine C_V1r (pc := 76) (k' := k_X3_fromTop) dX3_useObject_76 w5_106 i_X3_fromTop (lo_0 hPy7 ho) ⟨Nat.le_of_ble_eq_true rfl, Nat.le_of_ble_eq_true rfl⟩ rfl (Nat.le_of_ble_eq_true rfl) (Nat.le_of_ble_eq_true rfl) (Nat.le_of_ble_eq_true rfl) (cy8) ?_
      have hPy8 := cy8.1.1
      obtain ⟨y9, qy9, h⟩ := bindE h
      have cy9 := v_X8_move ho hPy8 qy9
      refine C_V2o (pc := 79) (k' := k_X8_move) dX3_useObject_79 w5_193 i_X8_move (lo_1 hPy8 ho) ⟨Nat.le_of_ble_eq_true rfl, Nat.le_of_ble_eq_true rfl⟩ rfl (Nat.le_of_ble_eq_true rfl) (Nat.le_of_ble_eq_true rfl) (Nat.le_of_ble_eq_true rfl) (cy9) ?_
      have hPy9 := cy9.1.1
      refine Y_goto (pc := 82) (tgt := 140) dX3_useObject_82 (by decide) ?_
      cases h
      exact Y_vret (pc := 140) rfl dX3_useObject_140 hPy9 ⟨rfl, rfl⟩
  · replace h := ifT hc1 h
    refine Y_aload_n (pc := 6) (j := 0) dX3_useObject_6 rfl rfl ?_
    refine Z_getr (pc := 7) dX3_useObject_7 w1_177 (lo_0 hP ho) fr_4_6 (lor_0_6 hP ho) ?_
    refine Y_aload_n (pc := 10) (j := 0) dX3_useObject_10 rfl rfl ?_
    refine Z_geti (pc := 11) dX3_useObject_11 w1_187 (lo_0 hP ho) fi_4_10 ?_
    refine Y_aload_n (pc := 14) (j := 0) dX3_useObject_14 rfl rfl ?_
    refine Z_getr (pc := 15) dX3_useObject_15 w1_169 (lo_0 hP ho) fr_4_1 (lor_0_1 hP ho) ?_
    refine Z_getr (pc := 18) dX3_useObject_18 w1_119 (lk_11 hP) fr_7_5 (lr_11_5 hP) ?_
    refine Y_iload_n (pc := 21) (j := 2) dX3_useObject_21 rfl rfl ?_
    obtain ⟨hb5, h⟩ := okE h
    refine Y_iald (pc := 22) dX3_useObject_22 (lk_17 hP) (ln_17 hP) hb5 ?_
    obtain ⟨hb6, h⟩ := okE h
    refine Y_iast (pc := 23) dX3_useObject_23 (lo_9 hP ho) (lon_9 hP ho) hb6 ?_
    obtain ⟨M2, eM2, h⟩ := bndE h
    refine VV.mem eM2 ?_
    have hP2 := hP.wI eM2
    refine Y_aload_n (pc := 24) (j := 0) dX3_useObject_24 rfl rfl ?_
    refine Y_bipush (pc := 25) (v := (111 : Int32)) dX3_useObject_25 rfl ?_
    refine Y_aload_n (pc := 27) (j := 0) dX3_useObject_27 rfl rfl ?_
    refine Z_geti (pc := 28) dX3_useObject_28 w1_187 (lo_0 hP2 ho) fi_4_10 ?_
    obtain ⟨y10, qy10, h⟩ := bindE h
    have cy10 := v_X3_pushPut ho hP2 qy10
    refine C_V2o (pc := 31) (k' := k_X3_pushPut) dX3_useObject_31 w5_169 i_X3_pushPut (lo_0 hP2 ho) ⟨Nat.le_of_ble_eq_true rfl, Nat.le_of_ble_eq_true rfl⟩ rfl (Nat.le_of_ble_eq_true rfl) (Nat.le_of_ble_eq_true rfl) (Nat.le_of_ble_eq_true rfl) (cy10) ?_
    have hPy10 := cy10.1.1
    refine Y_aload_n (pc := 34) (j := 0) dX3_useObject_34 rfl rfl ?_
    refine Y_dup (pc := 35) dX3_useObject_35 rfl ?_
    refine Z_geti (pc := 36) dX3_useObject_36 w1_187 (lo_0 hPy10 ho) fi_4_10 ?_
    refine Y_iconst (pc := 39) (v := (1 : Int32)) dX3_useObject_39 rfl ?_
    refine Y_iadd (pc := 40) dX3_useObject_40 ?_
    refine Z_puti (pc := 41) dX3_useObject_41 w1_187 (lo_0 hPy10 ho) fi_4_10 (Or.inl rfl) rfl ?_
    obtain ⟨M3, eM3, h⟩ := bndE h
    refine VV.mem eM3 ?_
    have hP3 := hPy10.wI eM3
    refine Y_goto (pc := 44) (tgt := 140) dX3_useObject_44 (by decide) ?_
    cases h
    exact Y_vret (pc := 140) rfl dX3_useObject_140 hP3 ⟨rfl, rfl⟩
theorem v_X3_useObject {o : Nat} {x1 : Int32} {x2 : Int32} {M z} (ho : o = 18 ∨ o = 28) (hP : Lay M) (h : d_X3_useObject o x1 x2 M = some z) : CC Lay k_X3_useObject [.ref o, .int x1, .int x2] M z.2 (Qv (none) z.2) xF :=
  CC.ofVV (by decide) rfl (Nat.le_of_ble_eq_true rfl) (b_X3_useObject ho hP h)
theorem b_X3_tell {o : Nat} {x1 : Int32} {M z} (ho : o = 18 ∨ o = 28) (hP : Lay M) (h : d_X3_tell o x1 M = some z) : VV Lay k_X3_tell 0 [(0, .ref o), (1, .int x1)] [] M z.2 (Qv (none) z.2) xF := by
  unfold d_X3_tell at h
  refine Y_aload_n (pc := 0) (j := 0) dX3_tell_0 rfl rfl ?_
  refine Z_geti (pc := 1) dX3_tell_1 w1_189 (lo_0 hP ho) fi_4_11 ?_
  refine Y_bipush (pc := 4) (v := (20 : Int32)) dX3_tell_4 rfl ?_
  refine Y_icmp_ge (pc := 6) (tgt := 35) dX3_tell_6 (by decide) (fun hc1 => ?_) (fun hc1 => ?_)
  · replace h := ifT hc1 h
    cases h
    exact Y_vret (pc := 35) rfl dX3_tell_35 hP ⟨rfl, rfl⟩
  · replace h := ifF hc1 h
    refine Y_aload_n (pc := 9) (j := 0) dX3_tell_9 rfl rfl ?_
    refine Z_getr (pc := 10) dX3_tell_10 w1_171 (lo_0 hP ho) fr_4_2 (lor_0_2 hP ho) ?_
    refine Y_iload_n (pc := 13) (j := 1) dX3_tell_13 rfl rfl ?_
    refine Y_sipush (pc := 14) (v := (528 : Int32)) dX3_tell_14 rfl ?_
    refine Y_aload_n (pc := 17) (j := 0) dX3_tell_17 rfl rfl ?_
    refine Z_geti (pc := 18) dX3_tell_18 w1_189 (lo_0 hP ho) fi_4_11 ?_
    refine Y_iadd (pc := 21) dX3_tell_21 ?_
    obtain ⟨y1, qy1, h⟩ := bindE h
    have cy1 := v_X8_move ho hP qy1
    refine C_V2o (pc := 22) (k' := k_X8_move) dX3_tell_22 w5_193 i_X8_move (lo_1 hP ho) ⟨Nat.le_of_ble_eq_true rfl, Nat.le_of_ble_eq_true rfl⟩ rfl (Nat.le_of_ble_eq_true rfl) (Nat.le_of_ble_eq_true rfl) (Nat.le_of_ble_eq_true rfl) (cy1) ?_
    have hPy1 := cy1.1.1
    refine Y_aload_n (pc := 25) (j := 0) dX3_tell_25 rfl rfl ?_
    refine Y_dup (pc := 26) dX3_tell_26 rfl ?_
    refine Z_geti (pc := 27) dX3_tell_27 w1_189 (lo_0 hPy1 ho) fi_4_11 ?_
    refine Y_iconst (pc := 30) (v := (1 : Int32)) dX3_tell_30 rfl ?_
    refine Y_iadd (pc := 31) dX3_tell_31 ?_
    refine Z_puti (pc := 32) dX3_tell_32 w1_189 (lo_0 hPy1 ho) fi_4_11 (Or.inl rfl) rfl ?_
    obtain ⟨M1, eM1, h⟩ := bndE h
    refine VV.mem eM1 ?_
    have hP1 := hPy1.wI eM1
    cases h
    exact Y_vret (pc := 35) rfl dX3_tell_35 hP1 ⟨rfl, rfl⟩
theorem v_X3_tell {o : Nat} {x1 : Int32} {M z} (ho : o = 18 ∨ o = 28) (hP : Lay M) (h : d_X3_tell o x1 M = some z) : CC Lay k_X3_tell [.ref o, .int x1] M z.2 (Qv (none) z.2) xF :=
  CC.ofVV (by decide) rfl (Nat.le_of_ble_eq_true rfl) (b_X3_tell ho hP h)
theorem b_X4_nearest_47 {x2 : Int64} {M z} (hP : Lay M) (h : d_X4_nearest_47 x2 M = some z) : VV Lay k_X4_nearest 47 [(2, .long x2)] [] M z.2 (Qv (some (.int z.1)) z.2) xF := by
  unfold d_X4_nearest_47 at h
  refine Y_lload_n (pc := 47) (j := 0) dX4_nearest_47 rfl rfl ?_
  refine Y_lconst (pc := 48) (v := (1 : Int64)) dX4_nearest_48 rfl ?_
  refine Y_ladd (pc := 49) dX4_nearest_49 ?_
  obtain ⟨b1, eb1, h⟩ := bndE h
  refine VV.topL eb1 ?_
  refine Y_lstore_n (pc := 50) (lv1 := [(2, .long b1)]) dX4_nearest_50 rfl (by decide) rfl ?_
  refine Y_goto (pc := 51) (tgt := 81) dX4_nearest_51 (by decide) ?_
  refine Y_lload_n (pc := 81) (j := 0) dX4_nearest_81 rfl rfl ?_
  refine Y_l2i (pc := 82) dX4_nearest_82 ?_
  cases h
  exact Y_iret (pc := 83) rfl rfl dX4_nearest_83 hP ⟨rfl, rfl⟩
theorem b_X4_nearest_77 {x2 : Int64} {M z} (hP : Lay M) (h : d_X4_nearest_77 x2 M = some z) : VV Lay k_X4_nearest 77 [(2, .long x2)] [] M z.2 (Qv (some (.int z.1)) z.2) xF := by
  unfold d_X4_nearest_77 at h
  refine Y_lload_n (pc := 77) (j := 0) dX4_nearest_77 rfl rfl ?_
  refine Y_lconst (pc := 78) (v := (1 : Int64)) dX4_nearest_78 rfl ?_
  refine Y_lsub (pc := 79) dX4_nearest_79 ?_
  obtain ⟨b1, eb1, h⟩ := bndE h
  refine VV.topL eb1 ?_
  refine Y_lstore_n (pc := 80) (lv1 := [(2, .long b1)]) dX4_nearest_80 rfl (by decide) rfl ?_
  refine Y_lload_n (pc := 81) (j := 0) dX4_nearest_81 rfl rfl ?_
  refine Y_l2i (pc := 82) dX4_nearest_82 ?_
  cases h
  exact Y_iret (pc := 83) rfl rfl dX4_nearest_83 hP ⟨rfl, rfl⟩
theorem b_X4_nearest_54 {x2 : Int64} {x4 : UInt64} {x6 : Int32} {M z} (hP : Lay M) (h : d_X4_nearest_54 x2 x4 x6 M = some z) : VV Lay k_X4_nearest 54 [(2, .long x2), (4, .double x4), (6, .int x6)] [] M z.2 (Qv (some (.int z.1)) z.2) xF := by
  unfold d_X4_nearest_54 at h
  refine Y_dload (pc := 54) (j := 1) dX4_nearest_54 rfl ?_
  refine Y_ldc2d (pc := 56) (by decide) dX4_nearest_56 w5_237 ?_
  refine Y_dcmp (pc := 59) dX4_nearest_59 ?_
  refine Y_if_lt (pc := 60) (tgt := 77) dX4_nearest_60 (by decide) (fun hc1 => ?_) (fun hc1 => ?_)
  · replace h := ifT hc1 h
    refine VV.sub [0] rfl ?_
    exact b_X4_nearest_77  hP h
  · replace h := ifF hc1 h
    refine Y_dload (pc := 63) (j := 1) dX4_nearest_63 rfl ?_
    refine Y_ldc2d (pc := 65) (by decide) dX4_nearest_65 w5_237 ?_
    refine Y_dcmp (pc := 68) dX4_nearest_68 ?_
    refine Y_if_ne (pc := 69) (tgt := 81) dX4_nearest_69 (by decide) (fun hc2 => ?_) (fun hc2 => ?_)
    · replace h := ifF hc2 h
      refine Y_lload_n (pc := 81) (j := 0) dX4_nearest_81 rfl rfl ?_
      refine Y_l2i (pc := 82) dX4_nearest_82 ?_
      cases h
      exact Y_iret (pc := 83) rfl rfl dX4_nearest_83 hP ⟨rfl, rfl⟩
    · replace h := ifT hc2 h
      refine Y_iload (pc := 72) (j := 2) dX4_nearest_72 rfl ?_
      refine Y_if_eq (pc := 74) (tgt := 81) dX4_nearest_74 (by decide) (fun hc3 => ?_) (fun hc3 => ?_)
      · replace h := ifT hc3 h
        refine Y_lload_n (pc := 81) (j := 0) dX4_nearest_81 rfl rfl ?_
        refine Y_l2i (pc := 82) dX4_nearest_82 ?_
        cases h
        exact Y_iret (pc := 83) rfl rfl dX4_nearest_83 hP ⟨rfl, rfl⟩
      · replace h := ifF hc3 h
        refine VV.sub [0] rfl ?_
        exact b_X4_nearest_77  hP h
theorem b_X4_nearest_22 {x2 : Int64} {x4 : UInt64} {s0 : Int32} {M z} (hP : Lay M) (h : d_X4_nearest_22 x2 x4 s0 M = some z) : VV Lay k_X4_nearest 22 [(2, .long x2), (4, .double x4)] [.int s0] M z.2 (Qv (some (.int z.1)) z.2) xF := by
  unfold d_X4_nearest_22 at h
  refine Y_istore (pc := 22) (lv1 := [(6, .int s0), (2, .long x2), (4, .double x4)]) dX4_nearest_22 (by decide) rfl ?_
  refine Y_dload (pc := 24) (j := 2) dX4_nearest_24 rfl ?_
  refine Y_ldc2d (pc := 26) (by decide) dX4_nearest_26 w5_236 ?_
  refine Y_dcmp (pc := 29) dX4_nearest_29 ?_
  refine Y_if_gt (pc := 30) (tgt := 47) dX4_nearest_30 (by decide) (fun hc1 => ?_) (fun hc1 => ?_)
  · replace h := ifT hc1 h
    refine VV.sub [1] rfl ?_
    exact b_X4_nearest_47  hP h
  · replace h := ifF hc1 h
    refine Y_dload (pc := 33) (j := 2) dX4_nearest_33 rfl ?_
    refine Y_ldc2d (pc := 35) (by decide) dX4_nearest_35 w5_236 ?_
    refine Y_dcmp (pc := 38) dX4_nearest_38 ?_
    refine Y_if_ne (pc := 39) (tgt := 54) dX4_nearest_39 (by decide) (fun hc2 => ?_) (fun hc2 => ?_)
    · replace h := ifF hc2 h
      refine VV.sub [1, 2, 0] rfl ?_
      exact b_X4_nearest_54  hP h
    · replace h := ifT hc2 h
      refine Y_iload (pc := 42) (j := 0) dX4_nearest_42 rfl ?_
      refine Y_if_eq (pc := 44) (tgt := 54) dX4_nearest_44 (by decide) (fun hc3 => ?_) (fun hc3 => ?_)
      · replace h := ifT hc3 h
        refine VV.sub [1, 2, 0] rfl ?_
        exact b_X4_nearest_54  hP h
      · replace h := ifF hc3 h
        refine VV.sub [1] rfl ?_
        exact b_X4_nearest_47  hP h
theorem b_X4_nearest {x0 : UInt64} {M z} (hP : Lay M) (h : d_X4_nearest x0 M = some z) : VV Lay k_X4_nearest 0 [(0, .double x0)] [] M z.2 (Qv (some (.int z.1)) z.2) xF := by
  unfold d_X4_nearest at h
  refine Y_dload_n (pc := 0) (j := 0) dX4_nearest_0 rfl rfl ?_
  refine Y_d2l (pc := 1) dX4_nearest_1 ?_
  obtain ⟨b1, eb1, h⟩ := bndE h
  refine VV.topL eb1 ?_
  refine Y_lstore_n (pc := 2) (lv1 := [(2, .long b1), (0, .double x0)]) dX4_nearest_2 rfl (by decide) rfl ?_
  refine Y_dload_n (pc := 3) (j := 1) dX4_nearest_3 rfl rfl ?_
  refine Y_lload_n (pc := 4) (j := 0) dX4_nearest_4 rfl rfl ?_
  refine Y_l2d (pc := 5) dX4_nearest_5 ?_
  refine Y_dsub (pc := 6) dX4_nearest_6 ?_
  obtain ⟨b2, eb2, h⟩ := bndE h
  refine VV.topD eb2 ?_
  refine Y_dstore (pc := 7) (lv1 := [(4, .double b2), (2, .long b1), (0, .double x0)]) dX4_nearest_7 (by decide) rfl ?_
  refine Y_lload_n (pc := 9) (j := 1) dX4_nearest_9 rfl rfl ?_
  refine Y_lconst (pc := 10) (v := (1 : Int64)) dX4_nearest_10 rfl ?_
  refine Y_land (pc := 11) dX4_nearest_11 ?_
  refine Y_lconst (pc := 12) (v := (0 : Int64)) dX4_nearest_12 rfl ?_
  refine Y_lcmp (pc := 13) dX4_nearest_13 ?_
  refine Y_if_eq (pc := 14) (tgt := 21) dX4_nearest_14 (by decide) (fun hc1 => ?_) (fun hc1 => ?_)
  · replace h := ifT hc1 h
    refine Y_iconst (pc := 21) (v := (0 : Int32)) dX4_nearest_21 rfl ?_
    refine VV.sub [1, 0] rfl ?_
    exact b_X4_nearest_22  hP h
  · replace h := ifF hc1 h
    refine Y_iconst (pc := 17) (v := (1 : Int32)) dX4_nearest_17 rfl ?_
    refine Y_goto (pc := 18) (tgt := 22) dX4_nearest_18 (by decide) ?_
    refine VV.sub [1, 0] rfl ?_
    exact b_X4_nearest_22  hP h
theorem v_X4_nearest {x0 : UInt64} {M z} (hP : Lay M) (h : d_X4_nearest x0 M = some z) : CC Lay k_X4_nearest [.double x0] M z.2 (Qv (some (.int z.1)) z.2) xF :=
  CC.ofVV (by decide) rfl (Nat.le_of_ble_eq_true rfl) (b_X4_nearest hP h)
end VCR

