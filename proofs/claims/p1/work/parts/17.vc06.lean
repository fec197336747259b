/-! ===== what the methods reckon (printed by a program) ===== -/
section VCR
theorem b_X0_init {M0 : Mem} {r0 : Nat} {M z} (hP : (Kx r0 M0) M) (h : d_X0_init r0 M = some z) : VV (Kx r0 M0) k_X0_init 0 [(0, .ref r0)] [] M z.2 (Qv (none) z.2) xF := by
  unfold d_X0_init at h
  refine Y_aload_n (pc := 0) (j := 0) dX0_init_0 rfl rfl ?_
  refine Y_oinit (pc := 1) dX0_init_1 w2_3 (Nat.le_of_ble_eq_true rfl) (Nat.le_of_ble_eq_true rfl) (Nat.le_of_ble_eq_true rfl) ?_
  refine Y_aload_n (pc := 4) (j := 0) dX0_init_4 rfl rfl ?_
  refine Y_sipush (pc := 5) (v := (960 : Int32)) dX0_init_5 rfl ?_
  obtain ⟨r_1, er_1, h⟩ := bndE h
  obtain ⟨hb1, h⟩ := okE h
  refine Y_newa (pc := 8) (a := r_1) (t := 21) (N := 960) dX0_init_8 (by decide) (by decide) rfl w1_100 (hP.free er_1) hb1 (by decide) rfl (by decide) ?_
  obtain ⟨M1, eM1, h⟩ := bndE h
  refine VV.mem eM1 ?_
  have hP1 := hP.wN er_1 (by decide) eM1
  obtain ⟨hb2, h⟩ := okE h
  refine Z_putr (pc := 10) dX0_init_10 w2_4 hb2 fr_1_0 (Or.inr ⟨rfl, rfl⟩) (Or.inr ⟨_, rfl⟩) ?_
  obtain ⟨M2, eM2, h⟩ := bndE h
  refine VV.mem eM2 ?_
  have hP2 := hP1.wR0 (by omega) eM2
  refine Y_aload_n (pc := 13) (j := 0) dX0_init_13 rfl rfl ?_
  refine Y_sipush (pc := 14) (v := (320 : Int32)) dX0_init_14 rfl ?_
  obtain ⟨r_2, er_2, h⟩ := bndE h
  obtain ⟨hb3, h⟩ := okE h
  refine Y_newa (pc := 17) (a := r_2) (t := 21) (N := 320) dX0_init_17 (by decide) (by decide) rfl w1_100 (hP2.free er_2) hb3 (by decide) rfl (by decide) ?_
  obtain ⟨M3, eM3, h⟩ := bndE h
  refine VV.mem eM3 ?_
  have hP3 := hP2.wN er_2 (by decide) eM3
  obtain ⟨hb4, h⟩ := okE h
  refine Z_putr (pc := 19) dX0_init_19 w2_5 hb4 fr_1_1 (Or.inr ⟨rfl, rfl⟩) (Or.inr ⟨_, rfl⟩) ?_
  obtain ⟨M4, eM4, h⟩ := bndE h
  refine VV.mem eM4 ?_
  have hP4 := hP3.wR0 (by omega) eM4
  refine Y_aload_n (pc := 22) (j := 0) dX0_init_22 rfl rfl ?_
  refine Y_sipush (pc := 23) (v := (320 : Int32)) dX0_init_23 rfl ?_
  obtain ⟨r_3, er_3, h⟩ := bndE h
  obtain ⟨hb5, h⟩ := okE h
  refine Y_newa (pc := 26) (a := r_3) (t := 21) (N := 320) dX0_init_26 (by decide) (by decide) rfl w1_100 (hP4.free er_3) hb5 (by decide) rfl (by decide) ?_
  obtain ⟨M5, eM5, h⟩ := bndE h
  refine VV.mem eM5 ?_
  have hP5 := hP4.wN er_3 (by decide) eM5
  obtain ⟨hb6, h⟩ := okE h
  refine Z_putr (pc := 28) dX0_init_28 w2_6 hb6 fr_1_2 (Or.inr ⟨rfl, rfl⟩) (Or.inr ⟨_, rfl⟩) ?_
  obtain ⟨M6, eM6, h⟩ := bndE h
  refine VV.mem eM6 ?_
  have hP6 := hP5.wR0 (by omega) eM6
  refine Y_aload_n (pc := 31) (j := 0) dX0_init_31 rfl rfl ?_
  refine Y_sipush (pc := 32) (v := (320 : Int32)) dX0_init_32 rfl ?_
  obtain ⟨r_4, er_4, h⟩ := bndE h
  obtain ⟨hb7, h⟩ := okE h
  refine Y_newa (pc := 35) (a := r_4) (t := 21) (N := 320) dX0_init_35 (by decide) (by decide) rfl w1_100 (hP6.free er_4) hb7 (by decide) rfl (by decide) ?_
  obtain ⟨M7, eM7, h⟩ := bndE h
  refine VV.mem eM7 ?_
  have hP7 := hP6.wN er_4 (by decide) eM7
  obtain ⟨hb8, h⟩ := okE h
  refine Z_putr (pc := 37) dX0_init_37 w2_8 hb8 fr_1_3 (Or.inr ⟨rfl, rfl⟩) (Or.inr ⟨_, rfl⟩) ?_
  obtain ⟨M8, eM8, h⟩ := bndE h
  refine VV.mem eM8 ?_
  have hP8 := hP7.wR0 (by omega) eM8
  cases h
  exact Y_vret (pc := 40) rfl dX0_init_40 hP8 ⟨rfl, rfl⟩
theorem v_X0_init {r0 : Nat} {M z} (hP : Fsh M) (hr : r0 ≤ nx M) (h : d_X0_init r0 M = some z) : CC (Kx r0 M) k_X0_init [.ref r0] M z.2 (Qv (none) z.2) xF :=
  CC.ofVV (by decide) rfl (Nat.le_of_ble_eq_true rfl) (b_X0_init (Kx.refl hP hr) h)
theorem b_X0_stateAt {x1 : Int32} {M z} (hP : Lay M) (h : d_X0_stateAt x1 M = some z) : VV Lay k_X0_stateAt 0 [(0, .ref 39), (1, .int x1)] [] M z.2 (Qv (some (.int z.1)) z.2) xF := by
  unfold d_X0_stateAt at h
  refine Y_aload_n (pc := 0) (j := 0) dX0_stateAt_0 rfl rfl ?_
  refine Z_getr (pc := 1) dX0_stateAt_1 w2_5 (lk_39 hP) fr_1_1 (lr_39_1 hP) ?_
  refine Y_iload_n (pc := 4) (j := 1) dX0_stateAt_4 rfl rfl ?_
  obtain ⟨hb1, h⟩ := okE h
  refine Y_iald (pc := 5) dX0_stateAt_5 (lk_41 hP) (ln_41 hP) hb1 ?_
  refine Y_iconst (pc := 6) (v := (-1 : Int32)) dX0_stateAt_6 rfl ?_
  refine Y_icmp_ne (pc := 7) (tgt := 13) dX0_stateAt_7 (by decide) (fun hc1 => ?_) (fun hc1 => ?_)
  · replace h := ifF hc1 h
    refine Y_aload_n (pc := 13) (j := 0) dX0_stateAt_13 rfl rfl ?_
    refine Z_getr (pc := 14) dX0_stateAt_14 w2_5 (lk_39 hP) fr_1_1 (lr_39_1 hP) ?_
    refine Y_iload_n (pc := 17) (j := 1) dX0_stateAt_17 rfl rfl ?_
    obtain ⟨hb2, h⟩ := okE h
    refine Y_iald (pc := 18) dX0_stateAt_18 (lk_41 hP) (ln_41 hP) hb2 ?_
    refine Y_if_ne (pc := 19) (tgt := 27) dX0_stateAt_19 (by decide) (fun hc2 => ?_) (fun hc2 => ?_)
    · replace h := ifF hc2 h
      refine Y_bipush (pc := 27) (v := (48 : Int32)) dX0_stateAt_27 rfl ?_
      refine Y_aload_n (pc := 29) (j := 0) dX0_stateAt_29 rfl rfl ?_
      refine Z_getr (pc := 30) dX0_stateAt_30 w2_5 (lk_39 hP) fr_1_1 (lr_39_1 hP) ?_
      refine Y_iload_n (pc := 33) (j := 1) dX0_stateAt_33 rfl rfl ?_
      obtain ⟨hb3, h⟩ := okE h
      refine Y_iald (pc := 34) dX0_stateAt_34 (lk_41 hP) (ln_41 hP) hb3 ?_
      refine Y_iadd (pc := 35) dX0_stateAt_35 ?_
      refine Y_i2c (pc := 36) dX0_stateAt_36 ?_
      obtain ⟨hb4, h⟩ := okE h
      cases h
      exact Y_iret (pc := 37) rfl (nar_ch hb4) dX0_stateAt_37 hP ⟨rfl, rfl⟩
    · replace h := ifT hc2 h
      refine Y_bipush (pc := 22) (v := (101 : Int32)) dX0_stateAt_22 rfl ?_
      refine Y_goto (pc := 24) (tgt := 37) dX0_stateAt_24 (by decide) ?_
      cases h
      exact Y_iret (pc := 37) rfl (nar_ch (by decide)) dX0_stateAt_37 hP ⟨rfl, rfl⟩
  · replace h := ifT hc1 h
    refine Y_bipush (pc := 10) (v := (120 : Int32)) dX0_stateAt_10 rfl ?_
    cases h
    exact Y_iret (pc := 12) rfl (nar_ch (by decide)) dX0_stateAt_12 hP ⟨rfl, rfl⟩
theorem v_X0_stateAt {x1 : Int32} {M z} (hP : Lay M) (h : d_X0_stateAt x1 M = some z) : CC Lay k_X0_stateAt [.ref 39, .int x1] M z.2 (Qv (some (.int z.1)) z.2) xF :=
  CC.ofVV (by decide) rfl (Nat.le_of_ble_eq_true rfl) (b_X0_stateAt hP h)
theorem b_X0_keeps_2b {k2 : (Int32) → Mem → Option (Int32 × Mem)} {x1 : Int32} {x2 : Int32} {x3 : Int32} {M z} (hk2 : ∀ (a : (Int32)) (M : Mem) (z : Int32 × Mem), Lay M → k2 a M = some z → VV Lay k_X0_keeps 2 [(0, .ref 39), (1, .int x1), (2, .int x2), (3, .int a)] [] M z.2 (Qv (some (.int z.1)) z.2) xF) (hP : Lay M) (h : d_X0_keeps_2b k2 x1 x2 x3 M = some z) : VV Lay k_X0_keeps 2 [(0, .ref 39), (1, .int x1), (2, .int x2), (3, .int x3)] [] M z.2 (Qv (some (.int z.1)) z.2) xF := by
  unfold d_X0_keeps_2b at h
  refine Y_iload_n (pc := 2) (j := 3) dX0_keeps_2 rfl rfl ?_
  refine Y_aload_n (pc := 3) (j := 0) dX0_keeps_3 rfl rfl ?_
  refine Z_getr (pc := 4) dX0_keeps_4 w2_5 (lk_39 hP) fr_1_1 (lr_39_1 hP) ?_
  refine Y_iload_n (pc := 7) (j := 1) dX0_keeps_7 rfl rfl ?_
  obtain ⟨hb1, h⟩ := okE h
  refine Y_iald (pc := 8) dX0_keeps_8 (lk_41 hP) (ln_41 hP) hb1 ?_
  refine Y_icmp_ge (pc := 9) (tgt := 34) dX0_keeps_9 (by decide) (fun hc1 => ?_) (fun hc1 => ?_)
  · replace h := ifT hc1 h
    refine Y_iconst (pc := 34) (v := (0 : Int32)) dX0_keeps_34 rfl ?_
    cases h
    exact Y_iret (pc := 35) rfl (nar_bo (by decide)) dX0_keeps_35 hP ⟨rfl, rfl⟩
  · replace h := ifF hc1 h
    refine Y_aload_n (pc := 12) (j := 0) dX0_keeps_12 rfl rfl ?_
    refine Z_getr (pc := 13) dX0_keeps_13 w2_4 (lk_39 hP) fr_1_0 (lr_39_0 hP) ?_
    refine Y_iload_n (pc := 16) (j := 1) dX0_keeps_16 rfl rfl ?_
    refine Y_iconst (pc := 17) (v := (3 : Int32)) dX0_keeps_17 rfl ?_
    refine Y_imul (pc := 18) dX0_keeps_18 ?_
    refine Y_iload_n (pc := 19) (j := 3) dX0_keeps_19 rfl rfl ?_
    refine Y_iadd (pc := 20) dX0_keeps_20 ?_
    obtain ⟨hb2, h⟩ := okE h
    refine Y_iald (pc := 21) dX0_keeps_21 (lk_40 hP) (ln_40 hP) hb2 ?_
    refine Y_iload_n (pc := 22) (j := 2) dX0_keeps_22 rfl rfl ?_
    refine Y_icmp_ne (pc := 23) (tgt := 28) dX0_keeps_23 (by decide) (fun hc2 => ?_) (fun hc2 => ?_)
    · replace h := ifF hc2 h
      obtain ⟨b1, eb1, h⟩ := bndE h
      refine Y_iinc (pc := 28) (j := 3) (v := b1) (lv1 := [(3, .int b1), (0, .ref 39), (1, .int x1), (2, .int x2)]) dX0_keeps_28 rfl eb1.symm (by decide) rfl ?_
      refine Y_goto (pc := 31) (tgt := 2) dX0_keeps_31 (by decide) ?_
      refine VV.sub [1, 2, 3, 0] rfl ?_
      exact hk2 _ _ _ hP h
    · replace h := ifT hc2 h
      refine Y_iconst (pc := 26) (v := (1 : Int32)) dX0_keeps_26 rfl ?_
      cases h
      exact Y_iret (pc := 27) rfl (nar_bo (by decide)) dX0_keeps_27 hP ⟨rfl, rfl⟩
theorem b_X0_keeps_2 {x1 : Int32} {x2 : Int32} (n : Nat) : ∀ (a : (Int32)) (M : Mem) (z : Int32 × Mem), d_X0_keeps_2 x1 x2 n a M = some z → Lay M → VV Lay k_X0_keeps 2 [(0, .ref 39), (1, .int x1), (2, .int x2), (3, .int a)] [] M z.2 (Qv (some (.int z.1)) z.2) xF :=
  lp_ind (G := fun (a : (Int32)) (M : Mem) (z : Int32 × Mem) => Lay M → VV Lay k_X0_keeps 2 [(0, .ref 39), (1, .int x1), (2, .int x2), (3, .int a)] [] M z.2 (Qv (some (.int z.1)) z.2) xF) (fun k hk a M z h hP => b_X0_keeps_2b  (fun a M z hP h => hk a M z h hP) hP h) n
theorem b_X0_keeps {x1 : Int32} {x2 : Int32} {M z} (hP : Lay M) (h : d_X0_keeps x1 x2 M = some z) : VV Lay k_X0_keeps 0 [(0, .ref 39), (1, .int x1), (2, .int x2)] [] M z.2 (Qv (some (.int z.1)) z.2) xF := by
  unfold d_X0_keeps at h
  refine Y_iconst (pc := 0) (v := (0 : Int32)) dX0_keeps_0 rfl ?_
  refine Y_istore_n (pc := 1) (lv1 := [(3, .int (0 : Int32)), (0, .ref 39), (1, .int x1), (2, .int x2)]) dX0_keeps_1 rfl (by decide) rfl ?_
  refine VV.sub [1, 2, 3, 0] rfl ?_
  exact b_X0_keeps_2  fuel _ _ _ h hP
theorem v_X0_keeps {x1 : Int32} {x2 : Int32} {M z} (hP : Lay M) (h : d_X0_keeps x1 x2 M = some z) : CC Lay k_X0_keeps [.ref 39, .int x1, .int x2] M z.2 (Qv (some (.int z.1)) z.2) xF :=
  CC.ofVV (by decide) rfl (Nat.le_of_ble_eq_true rfl) (b_X0_keeps hP h)
theorem b_X0_meet {x1 : Int32} {x2 : Int32} {M z} (hP : Lay M) (h : d_X0_meet x1 x2 M = some z) : VV Lay k_X0_meet 0 [(0, .ref 39), (1, .int x1), (2, .int x2)] [] M z.2 (Qv (none) z.2) xF := by
  unfold d_X0_meet at h
  refine Y_aload_n (pc := 0) (j := 0) dX0_meet_0 rfl rfl ?_
  refine Z_getr (pc := 1) dX0_meet_1 w2_5 (lk_39 hP) fr_1_1 (lr_39_1 hP) ?_
  refine Y_iload_n (pc := 4) (j := 1) dX0_meet_4 rfl rfl ?_
  obtain ⟨hb1, h⟩ := okE h
  refine Y_iald (pc := 5) dX0_meet_5 (lk_41 hP) (ln_41 hP) hb1 ?_
  refine Y_iconst (pc := 6) (v := (-1 : Int32)) dX0_meet_6 rfl ?_
  refine Y_icmp_ne (pc := 7) (tgt := 11) dX0_meet_7 (by decide) (fun hc1 => ?_) (fun hc1 => ?_)
  · replace h := ifF hc1 h
    refine Y_aload_n (pc := 11) (j := 0) dX0_meet_11 rfl rfl ?_
    refine Y_iload_n (pc := 12) (j := 1) dX0_meet_12 rfl rfl ?_
    refine Y_iload_n (pc := 13) (j := 2) dX0_meet_13 rfl rfl ?_
    obtain ⟨y1, qy1, h⟩ := bindE h
    have cy1 := v_X0_keeps hP qy1
    refine C_V2r (pc := 14) (k' := k_X0_keeps) dX0_meet_14 w6_134 i_X0_keeps (lk_39 hP) ⟨Nat.le_of_ble_eq_true rfl, Nat.le_of_ble_eq_true rfl⟩ rfl (Nat.le_of_ble_eq_true rfl) (Nat.le_of_ble_eq_true rfl) (Nat.le_of_ble_eq_true rfl) (cy1) ?_
    have hPy1 := cy1.1.1
    refine Y_if_eq (pc := 17) (tgt := 31) dX0_meet_17 (by decide) (fun hc2 => ?_) (fun hc2 => ?_)
    · replace h := ifT hc2 h
      refine Y_aload_n (pc := 31) (j := 0) dX0_meet_31 rfl rfl ?_
      refine Z_getr (pc := 32) dX0_meet_32 w2_8 (lk_39 hPy1) fr_1_3 (lr_39_3 hPy1) ?_
      refine Y_iload_n (pc := 35) (j := 1) dX0_meet_35 rfl rfl ?_
      refine Y_dup2 (pc := 36) dX0_meet_36 rfl rfl ?_
      obtain ⟨hb2, h⟩ := okE h
      refine Y_iald (pc := 37) dX0_meet_37 (lk_43 hPy1) (ln_43 hPy1) hb2 ?_
      refine Y_iconst (pc := 38) (v := (1 : Int32)) dX0_meet_38 rfl ?_
      refine Y_iadd (pc := 39) dX0_meet_39 ?_
      obtain ⟨hb3, h⟩ := okE h
      refine Y_iast (pc := 40) dX0_meet_40 (lk_43 hPy1) (ln_43 hPy1) hb3 ?_
      obtain ⟨M1, eM1, h⟩ := bndE h
      refine VV.mem eM1 ?_
      have hP1 := hPy1.wI eM1
      refine Y_aload_n (pc := 41) (j := 0) dX0_meet_41 rfl rfl ?_
      refine Z_getr (pc := 42) dX0_meet_42 w2_5 (lk_39 hP1) fr_1_1 (lr_39_1 hP1) ?_
      refine Y_iload_n (pc := 45) (j := 1) dX0_meet_45 rfl rfl ?_
      obtain ⟨hb4, h⟩ := okE h
      refine Y_iald (pc := 46) dX0_meet_46 (lk_41 hP1) (ln_41 hP1) hb4 ?_
      refine Y_iconst (pc := 47) (v := (3 : Int32)) dX0_meet_47 rfl ?_
      refine Y_icmp_lt (pc := 48) (tgt := 61) dX0_meet_48 (by decide) (fun hc3 => ?_) (fun hc3 => ?_)
      · replace h := ifT hc3 h
        refine Y_aload_n (pc := 61) (j := 0) dX0_meet_61 rfl rfl ?_
        refine Z_getr (pc := 62) dX0_meet_62 w2_4 (lk_39 hP1) fr_1_0 (lr_39_0 hP1) ?_
        refine Y_iload_n (pc := 65) (j := 1) dX0_meet_65 rfl rfl ?_
        refine Y_iconst (pc := 66) (v := (3 : Int32)) dX0_meet_66 rfl ?_
        refine Y_imul (pc := 67) dX0_meet_67 ?_
        refine Y_aload_n (pc := 68) (j := 0) dX0_meet_68 rfl rfl ?_
        refine Z_getr (pc := 69) dX0_meet_69 w2_5 (lk_39 hP1) fr_1_1 (lr_39_1 hP1) ?_
        refine Y_iload_n (pc := 72) (j := 1) dX0_meet_72 rfl rfl ?_
        obtain ⟨hb5, h⟩ := okE h
        refine Y_iald (pc := 73) dX0_meet_73 (lk_41 hP1) (ln_41 hP1) hb5 ?_
        refine Y_iadd (pc := 74) dX0_meet_74 ?_
        refine Y_iload_n (pc := 75) (j := 2) dX0_meet_75 rfl rfl ?_
        obtain ⟨hb6, h⟩ := okE h
        refine Y_iast (pc := 76) dX0_meet_76 (lk_40 hP1) (ln_40 hP1) hb6 ?_
        obtain ⟨M2, eM2, h⟩ := bndE h
        refine VV.mem eM2 ?_
        have hP2 := hP1.wI eM2
        refine Y_aload_n (pc := 77) (j := 0) dX0_meet_77 rfl rfl ?_
        refine Z_getr (pc := 78) dX0_meet_78 w2_5 (lk_39 hP2) fr_1_1 (lr_39_1 hP2) ?_
        refine Y_iload_n (pc := 81) (j := 1) dX0_meet_81 rfl rfl ?_
        refine Y_dup2 (pc := 82) dX0_meet_82 rfl rfl ?_
        obtain ⟨hb7, h⟩ := okE h
        refine Y_iald (pc := 83) dX0_meet_83 (lk_41 hP2) (ln_41 hP2) hb7 ?_
        refine Y_iconst (pc := 84) (v := (1 : Int32)) dX0_meet_84 rfl ?_
        refine Y_iadd (pc := 85) dX0_meet_85 ?_
        obtain ⟨hb8, h⟩ := okE h
        refine Y_iast (pc := 86) dX0_meet_86 (lk_41 hP2) (ln_41 hP2) hb8 ?_
        obtain ⟨M3, eM3, h⟩ := bndE h
        refine VV.mem eM3 ?_
        have hP3 := hP2.wI eM3
        cases h
        exact Y_vret (pc := 87) rfl dX0_meet_87 hP3 ⟨rfl, rfl⟩
      · replace h := ifF hc3 h
        refine Y_aload_n (pc := 51) (j := 0) dX0_meet_51 rfl rfl ?_
        refine Z_getr (pc := 52) dX0_meet_52 w2_5 (lk_39 hP1) fr_1_1 (lr_39_1 hP1) ?_
        refine Y_iload_n (pc := 55) (j := 1) dX0_meet_55 rfl rfl ?_
        refine Y_iconst (pc := 56) (v := (-1 : Int32)) dX0_meet_56 rfl ?_
        obtain ⟨hb9, h⟩ := okE h
        refine Y_iast (pc := 57) dX0_meet_57 (lk_41 hP1) (ln_41 hP1) hb9 ?_
        obtain ⟨M4, eM4, h⟩ := bndE h
        refine VV.mem eM4 ?_
        have hP4 := hP1.wI eM4
        refine Y_goto (pc := 58) (tgt := 87) dX0_meet_58 (by decide) ?_
        cases h
        exact Y_vret (pc := 87) rfl dX0_meet_87 hP4 ⟨rfl, rfl⟩
    · replace h := ifF hc2 h
      refine Y_aload_n (pc := 20) (j := 0) dX0_meet_20 rfl rfl ?_
      refine Z_getr (pc := 21) dX0_meet_21 w2_6 (lk_39 hPy1) fr_1_2 (lr_39_2 hPy1) ?_
      refine Y_iload_n (pc := 24) (j := 1) dX0_meet_24 rfl rfl ?_
      refine Y_dup2 (pc := 25) dX0_meet_25 rfl rfl ?_
      obtain ⟨hb10, h⟩ := okE h
      refine Y_iald (pc := 26) dX0_meet_26 (lk_42 hPy1) (ln_42 hPy1) hb10 ?_
      refine Y_iconst (pc := 27) (v := (1 : Int32)) dX0_meet_27 rfl ?_
      refine Y_iadd (pc := 28) dX0_meet_28 ?_
      obtain ⟨hb11, h⟩ := okE h
      refine Y_iast (pc := 29) dX0_meet_29 (lk_42 hPy1) (ln_42 hPy1) hb11 ?_
      obtain ⟨M5, eM5, h⟩ := bndE h
      refine VV.mem eM5 ?_
      have hP5 := hPy1.wI eM5
      cases h
      exact Y_vret (pc := 30) rfl dX0_meet_30 hP5 ⟨rfl, rfl⟩
  · replace h := ifT hc1 h
    cases h
    exact Y_vret (pc := 10) rfl dX0_meet_10 hP ⟨rfl, rfl⟩
theorem v_X0_meet {x1 : Int32} {x2 : Int32} {M z} (hP : Lay M) (h : d_X0_meet x1 x2 M = some z) : CC Lay k_X0_meet [.ref 39, .int x1, .int x2] M z.2 (Qv (none) z.2) xF :=
  CC.ofVV (by decide) rfl (Nat.le_of_ble_eq_true rfl) (b_X0_meet hP h)
theorem b_X0_emptyMethods_37 {k2 : (Int32) → Mem → Option (Unit × Mem)} {x2 : Int32} {M z} (hk2 : ∀ (a : (Int32)) (M : Mem) (z : Unit × Mem), Lay M → k2 a M = some z → VV Lay k_X0_emptyMethods 2 [(0, .ref 39), (1, .ref 2), (2, .int a)] [] M z.2 (Qv (none) z.2) xF) (hP : Lay M) (h : d_X0_emptyMethods_37 k2 x2 M = some z) : VV Lay k_X0_emptyMethods 37 [(0, .ref 39), (1, .ref 2), (2, .int x2)] [] M z.2 (Qv (none) z.2) xF := by
  unfold d_X0_emptyMethods_37 at h
  obtain ⟨b1, eb1, h⟩ := bndE h
  refine Y_iinc (pc := 37) (j := 2) (v := b1) (lv1 := [(2, .int b1), (0, .ref 39), (1, .ref 2)]) dX0_emptyMethods_37 rfl eb1.symm (by decide) rfl ?_
  refine Y_goto (pc := 40) (tgt := 2) dX0_emptyMethods_40 (by decide) ?_
  refine VV.sub [1, 2, 0] rfl ?_
  exact hk2 _ _ _ hP h
theorem b_X0_emptyMethods_2b {k2 : (Int32) → Mem → Option (Unit × Mem)} {x2 : Int32} {M z} (hk2 : ∀ (a : (Int32)) (M : Mem) (z : Unit × Mem), Lay M → k2 a M = some z → VV Lay k_X0_emptyMethods 2 [(0, .ref 39), (1, .ref 2), (2, .int a)] [] M z.2 (Qv (none) z.2) xF) (hP : Lay M) (h : d_X0_emptyMethods_2b k2 x2 M = some z) : VV Lay k_X0_emptyMethods 2 [(0, .ref 39), (1, .ref 2), (2, .int x2)] [] M z.2 (Qv (none) z.2) xF := by
  unfold d_X0_emptyMethods_2b at h
  refine Y_iload_n (pc := 2) (j := 2) dX0_emptyMethods_2 rfl rfl ?_
  refine Y_sipush (pc := 3) (v := (320 : Int32)) dX0_emptyMethods_3 rfl ?_
  refine Y_icmp_ge (pc := 6) (tgt := 43) dX0_emptyMethods_6 (by decide) (fun hc1 => ?_) (fun hc1 => ?_)
  · replace h := ifT hc1 h
    cases h
    exact Y_vret (pc := 43) rfl dX0_emptyMethods_43 hP ⟨rfl, rfl⟩
  · replace h := ifF hc1 h
    refine Y_aload_n (pc := 9) (j := 1) dX0_emptyMethods_9 rfl rfl ?_
    refine Z_getr (pc := 10) dX0_emptyMethods_10 w1_62 (lk_2 hP) fr_5_3 (lr_2_3 hP) ?_
    refine Y_iload_n (pc := 13) (j := 2) dX0_emptyMethods_13 rfl rfl ?_
    obtain ⟨hb1, h⟩ := okE h
    refine Y_cald (pc := 14) dX0_emptyMethods_14 (lk_6 hP) (ln_6 hP) hb1 ?_
    refine Y_bipush (pc := 15) (v := (109 : Int32)) dX0_emptyMethods_15 rfl ?_
    refine Y_icmp_ne (pc := 17) (tgt := 37) dX0_emptyMethods_17 (by decide) (fun hc2 => ?_) (fun hc2 => ?_)
    · replace h := ifF hc2 h
      refine VV.sub [0, 1, 2] rfl ?_
      exact b_X0_emptyMethods_37 hk2 hP h
    · replace h := ifT hc2 h
      refine Y_aload_n (pc := 20) (j := 0) dX0_emptyMethods_20 rfl rfl ?_
      refine Z_getr (pc := 21) dX0_emptyMethods_21 w2_5 (lk_39 hP) fr_1_1 (lr_39_1 hP) ?_
      refine Y_iload_n (pc := 24) (j := 2) dX0_emptyMethods_24 rfl rfl ?_
      obtain ⟨hb2, h⟩ := okE h
      refine Y_iald (pc := 25) dX0_emptyMethods_25 (lk_41 hP) (ln_41 hP) hb2 ?_
      refine Y_iconst (pc := 26) (v := (-1 : Int32)) dX0_emptyMethods_26 rfl ?_
      refine Y_icmp_eq (pc := 27) (tgt := 37) dX0_emptyMethods_27 (by decide) (fun hc3 => ?_) (fun hc3 => ?_)
      · replace h := ifT hc3 h
        refine VV.sub [0, 1, 2] rfl ?_
        exact b_X0_emptyMethods_37 hk2 hP h
      · replace h := ifF hc3 h
        refine Y_aload_n (pc := 30) (j := 0) dX0_emptyMethods_30 rfl rfl ?_
        refine Z_getr (pc := 31) dX0_emptyMethods_31 w2_5 (lk_39 hP) fr_1_1 (lr_39_1 hP) ?_
        refine Y_iload_n (pc := 34) (j := 2) dX0_emptyMethods_34 rfl rfl ?_
        refine Y_iconst (pc := 35) (v := (0 : Int32)) dX0_emptyMethods_35 rfl ?_
        obtain ⟨hb3, h⟩ := okE h
        refine Y_iast (pc := 36) dX0_emptyMethods_36 (lk_41 hP) (ln_41 hP) hb3 ?_
        obtain ⟨M1, eM1, h⟩ := bndE h
        refine VV.mem eM1 ?_
        have hP1 := hP.wI eM1
        refine VV.sub [0, 1, 2] rfl ?_
        exact b_X0_emptyMethods_37 hk2 hP1 h
theorem b_X0_emptyMethods_2 (n : Nat) : ∀ (a : (Int32)) (M : Mem) (z : Unit × Mem), d_X0_emptyMethods_2 n a M = some z → Lay M → VV Lay k_X0_emptyMethods 2 [(0, .ref 39), (1, .ref 2), (2, .int a)] [] M z.2 (Qv (none) z.2) xF :=
  lp_ind (G := fun (a : (Int32)) (M : Mem) (z : Unit × Mem) => Lay M → VV Lay k_X0_emptyMethods 2 [(0, .ref 39), (1, .ref 2), (2, .int a)] [] M z.2 (Qv (none) z.2) xF) (fun k hk a M z h hP => b_X0_emptyMethods_2b  (fun a M z hP h => hk a M z h hP) hP h) n
theorem b_X0_emptyMethods {M z} (hP : Lay M) (h : d_X0_emptyMethods M = some z) : VV Lay k_X0_emptyMethods 0 [(0, .ref 39), (1, .ref 2)] [] M z.2 (Qv (none) z.2) xF := by
  unfold d_X0_emptyMethods at h
  refine Y_iconst (pc := 0) (v := (0 : Int32)) dX0_emptyMethods_0 rfl ?_
  refine Y_istore_n (pc := 1) (lv1 := [(2, .int (0 : Int32)), (0, .ref 39), (1, .ref 2)]) dX0_emptyMethods_1 rfl (by decide) rfl ?_
  refine VV.sub [1, 2, 0] rfl ?_
  exact b_X0_emptyMethods_2  fuel _ _ _ h hP
theorem v_X0_emptyMethods {M z} (hP : Lay M) (h : d_X0_emptyMethods M = some z) : CC Lay k_X0_emptyMethods [.ref 39, .ref 2] M z.2 (Qv (none) z.2) xF :=
  CC.ofVV (by decide) rfl (Nat.le_of_ble_eq_true rfl) (b_X0_emptyMethods hP h)
theorem b_X0_areSmall_30 {k4 : (Int32 × Int32) → Mem → Option (Int32 × Mem)} {x2 : Int32} {s0 : Int32} {M z} (hk4 : ∀ (a : (Int32 × Int32)) (M : Mem) (z : Int32 × Mem), Lay M → k4 a M = some z → VV Lay k_X0_areSmall 4 [(0, .ref 39), (1, .int a.1), (2, .int a.2)] [] M z.2 (Qv (some (.int z.1)) z.2) xF) (hP : Lay M) (h : d_X0_areSmall_30 k4 x2 s0 M = some z) : VV Lay k_X0_areSmall 30 [(0, .ref 39), (2, .int x2)] [.int s0] M z.2 (Qv (some (.int z.1)) z.2) xF := by
  unfold d_X0_areSmall_30 at h
  refine Y_istore_n (pc := 30) (lv1 := [(1, .int s0), (0, .ref 39), (2, .int x2)]) dX0_areSmall_30 rfl (by decide) rfl ?_
  obtain ⟨b1, eb1, h⟩ := bndE h
  refine Y_iinc (pc := 31) (j := 2) (v := b1) (lv1 := [(2, .int b1), (1, .int s0), (0, .ref 39)]) dX0_areSmall_31 rfl eb1.symm (by decide) rfl ?_
  refine Y_goto (pc := 34) (tgt := 4) dX0_areSmall_34 (by decide) ?_
  refine VV.sub [2, 1, 0] rfl ?_
  exact hk4 _ _ _ hP h
theorem b_X0_areSmall_29 {k4 : (Int32 × Int32) → Mem → Option (Int32 × Mem)} {x2 : Int32} {M z} (hk4 : ∀ (a : (Int32 × Int32)) (M : Mem) (z : Int32 × Mem), Lay M → k4 a M = some z → VV Lay k_X0_areSmall 4 [(0, .ref 39), (1, .int a.1), (2, .int a.2)] [] M z.2 (Qv (some (.int z.1)) z.2) xF) (hP : Lay M) (h : d_X0_areSmall_29 k4 x2 M = some z) : VV Lay k_X0_areSmall 29 [(0, .ref 39), (2, .int x2)] [] M z.2 (Qv (some (.int z.1)) z.2) xF := by
  unfold d_X0_areSmall_29 at h
  refine Y_iconst (pc := 29) (v := (0 : Int32)) dX0_areSmall_29 rfl ?_
  refine VV.sub [0, 1] rfl ?_
  exact b_X0_areSmall_30 hk4 hP h
theorem b_X0_areSmall_4b {k4 : (Int32 × Int32) → Mem → Option (Int32 × Mem)} {x1 : Int32} {x2 : Int32} {M z} (hk4 : ∀ (a : (Int32 × Int32)) (M : Mem) (z : Int32 × Mem), Lay M → k4 a M = some z → VV Lay k_X0_areSmall 4 [(0, .ref 39), (1, .int a.1), (2, .int a.2)] [] M z.2 (Qv (some (.int z.1)) z.2) xF) (hP : Lay M) (h : d_X0_areSmall_4b k4 x1 x2 M = some z) : VV Lay k_X0_areSmall 4 [(0, .ref 39), (1, .int x1), (2, .int x2)] [] M z.2 (Qv (some (.int z.1)) z.2) xF := by
  unfold d_X0_areSmall_4b at h
  refine Y_iload_n (pc := 4) (j := 2) dX0_areSmall_4 rfl rfl ?_
  refine Y_sipush (pc := 5) (v := (320 : Int32)) dX0_areSmall_5 rfl ?_
  refine Y_icmp_ge (pc := 8) (tgt := 37) dX0_areSmall_8 (by decide) (fun hc1 => ?_) (fun hc1 => ?_)
  · replace h := ifT hc1 h
    refine Y_iload_n (pc := 37) (j := 1) dX0_areSmall_37 rfl rfl ?_
    obtain ⟨hb1, h⟩ := okE h
    cases h
    exact Y_iret (pc := 38) rfl (nar_bo hb1) dX0_areSmall_38 hP ⟨rfl, rfl⟩
  · replace h := ifF hc1 h
    refine Y_iload_n (pc := 11) (j := 1) dX0_areSmall_11 rfl rfl ?_
    refine Y_if_eq (pc := 12) (tgt := 29) dX0_areSmall_12 (by decide) (fun hc2 => ?_) (fun hc2 => ?_)
    · replace h := ifT hc2 h
      refine VV.sub [0, 2] rfl ?_
      exact b_X0_areSmall_29 hk4 hP h
    · replace h := ifF hc2 h
      refine Y_aload_n (pc := 15) (j := 0) dX0_areSmall_15 rfl rfl ?_
      refine Z_getr (pc := 16) dX0_areSmall_16 w2_5 (lk_39 hP) fr_1_1 (lr_39_1 hP) ?_
      refine Y_iload_n (pc := 19) (j := 2) dX0_areSmall_19 rfl rfl ?_
      obtain ⟨hb2, h⟩ := okE h
      refine Y_iald (pc := 20) dX0_areSmall_20 (lk_41 hP) (ln_41 hP) hb2 ?_
      refine Y_iconst (pc := 21) (v := (3 : Int32)) dX0_areSmall_21 rfl ?_
      refine Y_icmp_gt (pc := 22) (tgt := 29) dX0_areSmall_22 (by decide) (fun hc3 => ?_) (fun hc3 => ?_)
      · replace h := ifT hc3 h
        refine VV.sub [0, 2] rfl ?_
        exact b_X0_areSmall_29 hk4 hP h
      · replace h := ifF hc3 h
        refine Y_iconst (pc := 25) (v := (1 : Int32)) dX0_areSmall_25 rfl ?_
        refine Y_goto (pc := 26) (tgt := 30) dX0_areSmall_26 (by decide) ?_
        refine VV.sub [0, 2] rfl ?_
        exact b_X0_areSmall_30 hk4 hP h
theorem b_X0_areSmall_4 (n : Nat) : ∀ (a : (Int32 × Int32)) (M : Mem) (z : Int32 × Mem), d_X0_areSmall_4 n a M = some z → Lay M → VV Lay k_X0_areSmall 4 [(0, .ref 39), (1, .int a.1), (2, .int a.2)] [] M z.2 (Qv (some (.int z.1)) z.2) xF :=
  lp_ind (G := fun (a : (Int32 × Int32)) (M : Mem) (z : Int32 × Mem) => Lay M → VV Lay k_X0_areSmall 4 [(0, .ref 39), (1, .int a.1), (2, .int a.2)] [] M z.2 (Qv (some (.int z.1)) z.2) xF) (fun k hk a M z h hP => b_X0_areSmall_4b  (fun a M z hP h => hk a M z h hP) hP h) n
theorem b_X0_areSmall {M z} (hP : Lay M) (h : d_X0_areSmall M = some z) : VV Lay k_X0_areSmall 0 [(0, .ref 39)] [] M z.2 (Qv (some (.int z.1)) z.2) xF := by
  unfold d_X0_areSmall at h
  refine Y_iconst (pc := 0) (v := (1 : Int32)) dX0_areSmall_0 rfl ?_
  refine Y_istore_n (pc := 1) (lv1 := [(1, .int (1 : Int32)), (0, .ref 39)]) dX0_areSmall_1 rfl (by decide) rfl ?_
  refine Y_iconst (pc := 2) (v := (0 : Int32)) dX0_areSmall_2 rfl ?_
  refine Y_istore_n (pc := 3) (lv1 := [(2, .int (0 : Int32)), (1, .int (1 : Int32)), (0, .ref 39)]) dX0_areSmall_3 rfl (by decide) rfl ?_
  refine VV.sub [2, 1, 0] rfl ?_
  exact b_X0_areSmall_4  fuel _ _ _ h hP
theorem v_X0_areSmall {M z} (hP : Lay M) (h : d_X0_areSmall M = some z) : CC Lay k_X0_areSmall [.ref 39] M z.2 (Qv (some (.int z.1)) z.2) xF :=
  CC.ofVV (by decide) rfl (Nat.le_of_ble_eq_true rfl) (b_X0_areSmall hP h)
theorem b_X1_init_26b {M0 : Mem} {k26 : (Int32) → Mem → Option (Unit × Mem)} {r0 : Nat} {r3 : Nat} {x4 : Int32} {M z} (hk26 : ∀ (a : (Int32)) (M : Mem) (z : Unit × Mem), (Kx r0 M0) M → k26 a M = some z → VV (Kx r0 M0) k_X1_init 26 [(0, .ref r0), (3, .ref r3), (4, .int a)] [] M z.2 (Qv (none) z.2) xF) (hP : (Kx r0 M0) M) (h : d_X1_init_26b k26 r0 r3 x4 M = some z) : VV (Kx r0 M0) k_X1_init 26 [(0, .ref r0), (3, .ref r3), (4, .int x4)] [] M z.2 (Qv (none) z.2) xF := by
  unfold d_X1_init_26b at h
  refine Y_iload (pc := 26) (j := 2) dX1_init_26 rfl ?_
  refine Y_bipush (pc := 28) (v := (20 : Int32)) dX1_init_28 rfl ?_
  refine Y_icmp_ge (pc := 30) (tgt := 47) dX1_init_30 (by decide) (fun hc1 => ?_) (fun hc1 => ?_)
  · replace h := ifT hc1 h
    refine Y_aload_n (pc := 47) (j := 0) dX1_init_47 rfl rfl ?_
    refine Y_bipush (pc := 48) (v := (80 : Int32)) dX1_init_48 rfl ?_
    obtain ⟨hb1, h⟩ := okE h
    refine Z_puti (pc := 50) dX1_init_50 w2_229 hb1 fi_2_4 (Or.inl rfl) rfl ?_
    obtain ⟨M1, eM1, h⟩ := bndE h
    refine VV.mem eM1 ?_
    have hP1 := hP.wI eM1
    cases h
    exact Y_vret (pc := 53) rfl dX1_init_53 hP1 ⟨rfl, rfl⟩
  · replace h := ifF hc1 h
    refine Y_aload_n (pc := 33) (j := 0) dX1_init_33 rfl rfl ?_
    obtain ⟨hb2, h⟩ := okE h
    obtain ⟨r_1, er_1, h⟩ := bindE h
    refine Z_getr (pc := 34) dX1_init_34 w2_223 hb2 fr_2_2 er_1 ?_
    refine Y_iload (pc := 37) (j := 2) dX1_init_37 rfl ?_
    refine Y_aload_n (pc := 39) (j := 1) dX1_init_39 rfl rfl ?_
    obtain ⟨hb3, h⟩ := okE h
    obtain ⟨hb4, h⟩ := okE h
    obtain ⟨hb5, h⟩ := okE h
    obtain ⟨hb6, h⟩ := okE h
    refine Y_aast (pc := 40) dX1_init_40 hb3 rfl hb4 hb5 ?_
    obtain ⟨M2, eM2, h⟩ := bndE h
    refine VV.mem eM2 ?_
    have hP2 := hP.wR0 hb6 eM2
    obtain ⟨b1, eb1, h⟩ := bndE h
    refine Y_iinc (pc := 41) (j := 2) (v := b1) (lv1 := [(4, .int b1), (0, .ref r0), (3, .ref r3)]) dX1_init_41 rfl eb1.symm (by decide) rfl ?_
    refine Y_goto (pc := 44) (tgt := 26) dX1_init_44 (by decide) ?_
    refine VV.sub [1, 2, 0] rfl ?_
    exact hk26 _ _ _ hP2 h
theorem b_X1_init_26 {M0 : Mem} {r0 : Nat} {r3 : Nat} (n : Nat) : ∀ (a : (Int32)) (M : Mem) (z : Unit × Mem), d_X1_init_26 r0 r3 n a M = some z → (Kx r0 M0) M → VV (Kx r0 M0) k_X1_init 26 [(0, .ref r0), (3, .ref r3), (4, .int a)] [] M z.2 (Qv (none) z.2) xF :=
  lp_ind (G := fun (a : (Int32)) (M : Mem) (z : Unit × Mem) => (Kx r0 M0) M → VV (Kx r0 M0) k_X1_init 26 [(0, .ref r0), (3, .ref r3), (4, .int a)] [] M z.2 (Qv (none) z.2) xF) (fun k hk a M z h hP => b_X1_init_26b  (fun a M z hP h => hk a M z h hP) hP h) n
theorem b_X1_init {M0 : Mem} {r0 : Nat} {r1 : Nat} {r2 : Nat} {r3 : Nat} {M z} (hP : (Kx r0 M0) M) (h : d_X1_init r0 r1 r2 r3 M = some z) : VV (Kx r0 M0) k_X1_init 0 [(0, .ref r0), (1, .ref r1), (2, .ref r2), (3, .ref r3)] [] M z.2 (Qv (none) z.2) xF := by
  unfold d_X1_init at h
  refine Y_aload_n (pc := 0) (j := 0) dX1_init_0 rfl rfl ?_
  refine Y_oinit (pc := 1) dX1_init_1 w2_218 (Nat.le_of_ble_eq_true rfl) (Nat.le_of_ble_eq_true rfl) (Nat.le_of_ble_eq_true rfl) ?_
  refine Y_aload_n (pc := 4) (j := 0) dX1_init_4 rfl rfl ?_
  refine Y_aload_n (pc := 5) (j := 1) dX1_init_5 rfl rfl ?_
  obtain ⟨hb1, h⟩ := okE h
  refine Z_putr (pc := 6) dX1_init_6 w2_221 hb1 fr_2_0 (Or.inr ⟨rfl, rfl⟩) (Or.inl ⟨_, rfl⟩) ?_
  obtain ⟨M1, eM1, h⟩ := bndE h
  refine VV.mem eM1 ?_
  have hP1 := hP.wR0 (by omega) eM1
  refine Y_aload_n (pc := 9) (j := 0) dX1_init_9 rfl rfl ?_
  refine Y_aload_n (pc := 10) (j := 2) dX1_init_10 rfl rfl ?_
  obtain ⟨hb2, h⟩ := okE h
  refine Z_putr (pc := 11) dX1_init_11 w2_222 hb2 fr_2_1 (Or.inr ⟨rfl, rfl⟩) (Or.inl ⟨_, rfl⟩) ?_
  obtain ⟨M2, eM2, h⟩ := bndE h
  refine VV.mem eM2 ?_
  have hP2 := hP1.wR0 (by omega) eM2
  refine Y_aload_n (pc := 14) (j := 0) dX1_init_14 rfl rfl ?_
  refine Y_bipush (pc := 15) (v := (20 : Int32)) dX1_init_15 rfl ?_
  obtain ⟨r_1, er_1, h⟩ := bndE h
  obtain ⟨hb3, h⟩ := okE h
  refine Y_anewa (pc := 17) (a := r_1) (N := 20) dX1_init_17 (hP2.free er_1) hb3 (by decide) rfl (by decide) w2_219 ?_
  obtain ⟨M3, eM3, h⟩ := bndE h
  refine VV.mem eM3 ?_
  have hP3 := hP2.wN er_1 (by decide) eM3
  obtain ⟨hb4, h⟩ := okE h
  refine Z_putr (pc := 20) dX1_init_20 w2_223 hb4 fr_2_2 (Or.inr ⟨rfl, rfl⟩) (Or.inr ⟨_, rfl⟩) ?_
  obtain ⟨M4, eM4, h⟩ := bndE h
  refine VV.mem eM4 ?_
  have hP4 := hP3.wR0 (by omega) eM4
  refine Y_iconst (pc := 23) (v := (0 : Int32)) dX1_init_23 rfl ?_
  refine Y_istore (pc := 24) (lv1 := [(4, .int (0 : Int32)), (0, .ref r0), (1, .ref r1), (2, .ref r2), (3, .ref r3)]) dX1_init_24 (by decide) rfl ?_
  refine VV.sub [1, 4, 0] rfl ?_
  exact b_X1_init_26  fuel _ _ _ h hP4
theorem v_X1_init {r0 : Nat} {r1 : Nat} {r2 : Nat} {r3 : Nat} {M z} (hP : Fsh M) (hr : r0 ≤ nx M) (h : d_X1_init r0 r1 r2 r3 M = some z) : CC (Kx r0 M) k_X1_init [.ref r0, .ref r1, .ref r2, .ref r3] M z.2 (Qv (none) z.2) xF :=
  CC.ofVV (by decide) rfl (Nat.le_of_ble_eq_true rfl) (b_X1_init (Kx.refl hP hr) h)
theorem b_X1_isFull {M z} (hP : Lay M) (h : d_X1_isFull M = some z) : VV Lay k_X1_isFull 0 [(0, .ref 67)] [] M z.2 (Qv (some (.int z.1)) z.2) xF := by
  unfold d_X1_isFull at h
  refine Y_aload_n (pc := 0) (j := 0) dX1_isFull_0 rfl rfl ?_
  refine Z_geti (pc := 1) dX1_isFull_1 w2_226 (lk_67 hP) fi_2_3 ?_
  refine Y_bipush (pc := 4) (v := (20 : Int32)) dX1_isFull_4 rfl ?_
  refine Y_icmp_lt (pc := 6) (tgt := 13) dX1_isFull_6 (by decide) (fun hc1 => ?_) (fun hc1 => ?_)
  · replace h := ifT hc1 h
    refine Y_iconst (pc := 13) (v := (0 : Int32)) dX1_isFull_13 rfl ?_
    cases h
    exact Y_iret (pc := 14) rfl (nar_bo (by decide)) dX1_isFull_14 hP ⟨rfl, rfl⟩
  · replace h := ifF hc1 h
    refine Y_iconst (pc := 9) (v := (1 : Int32)) dX1_isFull_9 rfl ?_
    refine Y_goto (pc := 10) (tgt := 14) dX1_isFull_10 (by decide) ?_
    cases h
    exact Y_iret (pc := 14) rfl (nar_bo (by decide)) dX1_isFull_14 hP ⟨rfl, rfl⟩
theorem v_X1_isFull {M z} (hP : Lay M) (h : d_X1_isFull M = some z) : CC Lay k_X1_isFull [.ref 67] M z.2 (Qv (some (.int z.1)) z.2) xF :=
  CC.ofVV (by decide) rfl (Nat.le_of_ble_eq_true rfl) (b_X1_isFull hP h)
theorem b_X1_size_38 {k4 : (Int32 × Int32) → Mem → Option (Int32 × Mem)} {x2 : Int32} {s0 : Int32} {s1 : Int32} {M z} (hk4 : ∀ (a : (Int32 × Int32)) (M : Mem) (z : Int32 × Mem), Lay M → k4 a M = some z → VV Lay k_X1_size 4 [(0, .ref 67), (1, .int a.1), (2, .int a.2)] [] M z.2 (Qv (some (.int z.1)) z.2) xF) (hP : Lay M) (h : d_X1_size_38 k4 x2 s0 s1 M = some z) : VV Lay k_X1_size 38 [(0, .ref 67), (2, .int x2)] [.int s1, .int s0] M z.2 (Qv (some (.int z.1)) z.2) xF := by
  unfold d_X1_size_38 at h
  refine Y_iadd (pc := 38) dX1_size_38 ?_
  obtain ⟨b1, eb1, h⟩ := bndE h
  refine VV.topI eb1 ?_
  refine Y_istore_n (pc := 39) (lv1 := [(1, .int b1), (0, .ref 67), (2, .int x2)]) dX1_size_39 rfl (by decide) rfl ?_
  obtain ⟨b2, eb2, h⟩ := bndE h
  refine Y_iinc (pc := 40) (j := 2) (v := b2) (lv1 := [(2, .int b2), (1, .int b1), (0, .ref 67)]) dX1_size_40 rfl eb2.symm (by decide) rfl ?_
  refine Y_goto (pc := 43) (tgt := 4) dX1_size_43 (by decide) ?_
  refine VV.sub [2, 1, 0] rfl ?_
  exact hk4 _ _ _ hP h
theorem b_X1_size_4b {k4 : (Int32 × Int32) → Mem → Option (Int32 × Mem)} {x1 : Int32} {x2 : Int32} {M z} (hk4 : ∀ (a : (Int32 × Int32)) (M : Mem) (z : Int32 × Mem), Lay M → k4 a M = some z → VV Lay k_X1_size 4 [(0, .ref 67), (1, .int a.1), (2, .int a.2)] [] M z.2 (Qv (some (.int z.1)) z.2) xF) (hP : Lay M) (h : d_X1_size_4b k4 x1 x2 M = some z) : VV Lay k_X1_size 4 [(0, .ref 67), (1, .int x1), (2, .int x2)] [] M z.2 (Qv (some (.int z.1)) z.2) xF := by
  unfold d_X1_size_4b at h
  refine Y_iload_n (pc := 4) (j := 2) dX1_size_4 rfl rfl ?_
  refine Y_aload_n (pc := 5) (j := 0) dX1_size_5 rfl rfl ?_
  refine Z_geti (pc := 6) dX1_size_6 w2_226 (lk_67 hP) fi_2_3 ?_
  refine Y_icmp_ge (pc := 9) (tgt := 46) dX1_size_9 (by decide) (fun hc1 => ?_) (fun hc1 => ?_)
  · replace h := ifT hc1 h
    refine Y_iload_n (pc := 46) (j := 1) dX1_size_46 rfl rfl ?_
    cases h
    exact Y_iret (pc := 47) rfl rfl dX1_size_47 hP ⟨rfl, rfl⟩
  · replace h := ifF hc1 h
    refine Y_iload_n (pc := 12) (j := 1) dX1_size_12 rfl rfl ?_
    refine Y_aload_n (pc := 13) (j := 0) dX1_size_13 rfl rfl ?_
    refine Z_getr (pc := 14) dX1_size_14 w2_223 (lk_67 hP) fr_2_2 (lr_67_2 hP) ?_
    refine Y_iload_n (pc := 17) (j := 2) dX1_size_17 rfl rfl ?_
    obtain ⟨hb1, h⟩ := okE h
    obtain ⟨r_1, er_1, h⟩ := bindE h
    refine Y_aald (pc := 18) dX1_size_18 (lk_68 hP) (ln_68 hP) hb1 er_1 ?_
    obtain ⟨hb2, h⟩ := okE h
    refine Z_geti (pc := 19) dX1_size_19 w2_172 hb2 fi_9_14 ?_
    refine Y_if_eq (pc := 22) (tgt := 37) dX1_size_22 (by decide) (fun hc2 => ?_) (fun hc2 => ?_)
    · replace h := ifT hc2 h
      refine Y_iconst (pc := 37) (v := (0 : Int32)) dX1_size_37 rfl ?_
      refine VV.sub [0, 2] rfl ?_
      exact b_X1_size_38 hk4 hP h
    · replace h := ifF hc2 h
      refine Y_aload_n (pc := 25) (j := 0) dX1_size_25 rfl rfl ?_
      refine Z_getr (pc := 26) dX1_size_26 w2_223 (lk_67 hP) fr_2_2 (lr_67_2 hP) ?_
      refine Y_iload_n (pc := 29) (j := 2) dX1_size_29 rfl rfl ?_
      obtain ⟨hb3, h⟩ := okE h
      obtain ⟨r_2, er_2, h⟩ := bindE h
      refine Y_aald (pc := 30) dX1_size_30 (lk_68 hP) (ln_68 hP) hb3 er_2 ?_
      obtain ⟨hb4, h⟩ := okE h
      refine Z_geti (pc := 31) dX1_size_31 w2_135 hb4 fi_9_0 ?_
      refine Y_goto (pc := 34) (tgt := 38) dX1_size_34 (by decide) ?_
      refine VV.sub [0, 2] rfl ?_
      exact b_X1_size_38 hk4 hP h
theorem b_X1_size_4 (n : Nat) : ∀ (a : (Int32 × Int32)) (M : Mem) (z : Int32 × Mem), d_X1_size_4 n a M = some z → Lay M → VV Lay k_X1_size 4 [(0, .ref 67), (1, .int a.1), (2, .int a.2)] [] M z.2 (Qv (some (.int z.1)) z.2) xF :=
  lp_ind (G := fun (a : (Int32 × Int32)) (M : Mem) (z : Int32 × Mem) => Lay M → VV Lay k_X1_size 4 [(0, .ref 67), (1, .int a.1), (2, .int a.2)] [] M z.2 (Qv (some (.int z.1)) z.2) xF) (fun k hk a M z h hP => b_X1_size_4b  (fun a M z hP h => hk a M z h hP) hP h) n
theorem b_X1_size {M z} (hP : Lay M) (h : d_X1_size M = some z) : VV Lay k_X1_size 0 [(0, .ref 67)] [] M z.2 (Qv (some (.int z.1)) z.2) xF := by
  unfold d_X1_size at h
  refine Y_iconst (pc := 0) (v := (0 : Int32)) dX1_size_0 rfl ?_
  refine Y_istore_n (pc := 1) (lv1 := [(1, .int (0 : Int32)), (0, .ref 67)]) dX1_size_1 rfl (by decide) rfl ?_
  refine Y_iconst (pc := 2) (v := (0 : Int32)) dX1_size_2 rfl ?_
  refine Y_istore_n (pc := 3) (lv1 := [(2, .int (0 : Int32)), (1, .int (0 : Int32)), (0, .ref 67)]) dX1_size_3 rfl (by decide) rfl ?_
  refine VV.sub [2, 1, 0] rfl ?_
  exact b_X1_size_4  fuel _ _ _ h hP
theorem v_X1_size {M z} (hP : Lay M) (h : d_X1_size M = some z) : CC Lay k_X1_size [.ref 67] M z.2 (Qv (some (.int z.1)) z.2) xF :=
  CC.ofVV (by decide) rfl (Nat.le_of_ble_eq_true rfl) (b_X1_size hP h)
theorem b_X1_countThere_30 {k4 : (Int32 × Int32) → Mem → Option (Int32 × Mem)} {x2 : Int32} {s0 : Int32} {s1 : Int32} {M z} (hk4 : ∀ (a : (Int32 × Int32)) (M : Mem) (z : Int32 × Mem), Lay M → k4 a M = some z → VV Lay k_X1_countThere 4 [(0, .ref 67), (1, .int a.1), (2, .int a.2)] [] M z.2 (Qv (some (.int z.1)) z.2) xF) (hP : Lay M) (h : d_X1_countThere_30 k4 x2 s0 s1 M = some z) : VV Lay k_X1_countThere 30 [(0, .ref 67), (2, .int x2)] [.int s1, .int s0] M z.2 (Qv (some (.int z.1)) z.2) xF := by
  unfold d_X1_countThere_30 at h
  refine Y_iadd (pc := 30) dX1_countThere_30 ?_
  obtain ⟨b1, eb1, h⟩ := bndE h
  refine VV.topI eb1 ?_
  refine Y_istore_n (pc := 31) (lv1 := [(1, .int b1), (0, .ref 67), (2, .int x2)]) dX1_countThere_31 rfl (by decide) rfl ?_
  obtain ⟨b2, eb2, h⟩ := bndE h
  refine Y_iinc (pc := 32) (j := 2) (v := b2) (lv1 := [(2, .int b2), (1, .int b1), (0, .ref 67)]) dX1_countThere_32 rfl eb2.symm (by decide) rfl ?_
  refine Y_goto (pc := 35) (tgt := 4) dX1_countThere_35 (by decide) ?_
  refine VV.sub [2, 1, 0] rfl ?_
  exact hk4 _ _ _ hP h
theorem b_X1_countThere_4b {k4 : (Int32 × Int32) → Mem → Option (Int32 × Mem)} {x1 : Int32} {x2 : Int32} {M z} (hk4 : ∀ (a : (Int32 × Int32)) (M : Mem) (z : Int32 × Mem), Lay M → k4 a M = some z → VV Lay k_X1_countThere 4 [(0, .ref 67), (1, .int a.1), (2, .int a.2)] [] M z.2 (Qv (some (.int z.1)) z.2) xF) (hP : Lay M) (h : d_X1_countThere_4b k4 x1 x2 M = some z) : VV Lay k_X1_countThere 4 [(0, .ref 67), (1, .int x1), (2, .int x2)] [] M z.2 (Qv (some (.int z.1)) z.2) xF := by
  unfold d_X1_countThere_4b at h
  refine Y_iload_n (pc := 4) (j := 2) dX1_countThere_4 rfl rfl ?_
  refine Y_aload_n (pc := 5) (j := 0) dX1_countThere_5 rfl rfl ?_
  refine Z_geti (pc := 6) dX1_countThere_6 w2_226 (lk_67 hP) fi_2_3 ?_
  refine Y_icmp_ge (pc := 9) (tgt := 38) dX1_countThere_9 (by decide) (fun hc1 => ?_) (fun hc1 => ?_)
  · replace h := ifT hc1 h
    refine Y_iload_n (pc := 38) (j := 1) dX1_countThere_38 rfl rfl ?_
    cases h
    exact Y_iret (pc := 39) rfl rfl dX1_countThere_39 hP ⟨rfl, rfl⟩
  · replace h := ifF hc1 h
    refine Y_iload_n (pc := 12) (j := 1) dX1_countThere_12 rfl rfl ?_
    refine Y_aload_n (pc := 13) (j := 0) dX1_countThere_13 rfl rfl ?_
    refine Z_getr (pc := 14) dX1_countThere_14 w2_223 (lk_67 hP) fr_2_2 (lr_67_2 hP) ?_
    refine Y_iload_n (pc := 17) (j := 2) dX1_countThere_17 rfl rfl ?_
    obtain ⟨hb1, h⟩ := okE h
    obtain ⟨r_1, er_1, h⟩ := bindE h
    refine Y_aald (pc := 18) dX1_countThere_18 (lk_68 hP) (ln_68 hP) hb1 er_1 ?_
    obtain ⟨hb2, h⟩ := okE h
    refine Z_geti (pc := 19) dX1_countThere_19 w2_172 hb2 fi_9_14 ?_
    refine Y_if_eq (pc := 22) (tgt := 29) dX1_countThere_22 (by decide) (fun hc2 => ?_) (fun hc2 => ?_)
    · replace h := ifT hc2 h
      refine Y_iconst (pc := 29) (v := (0 : Int32)) dX1_countThere_29 rfl ?_
      refine VV.sub [0, 2] rfl ?_
      exact b_X1_countThere_30 hk4 hP h
    · replace h := ifF hc2 h
      refine Y_iconst (pc := 25) (v := (1 : Int32)) dX1_countThere_25 rfl ?_
      refine Y_goto (pc := 26) (tgt := 30) dX1_countThere_26 (by decide) ?_
      refine VV.sub [0, 2] rfl ?_
      exact b_X1_countThere_30 hk4 hP h
theorem b_X1_countThere_4 (n : Nat) : ∀ (a : (Int32 × Int32)) (M : Mem) (z : Int32 × Mem), d_X1_countThere_4 n a M = some z → Lay M → VV Lay k_X1_countThere 4 [(0, .ref 67), (1, .int a.1), (2, .int a.2)] [] M z.2 (Qv (some (.int z.1)) z.2) xF :=
  lp_ind (G := fun (a : (Int32 × Int32)) (M : Mem) (z : Int32 × Mem) => Lay M → VV Lay k_X1_countThere 4 [(0, .ref 67), (1, .int a.1), (2, .int a.2)] [] M z.2 (Qv (some (.int z.1)) z.2) xF) (fun k hk a M z h hP => b_X1_countThere_4b  (fun a M z hP h => hk a M z h hP) hP h) n
theorem b_X1_countThere {M z} (hP : Lay M) (h : d_X1_countThere M = some z) : VV Lay k_X1_countThere 0 [(0, .ref 67)] [] M z.2 (Qv (some (.int z.1)) z.2) xF := by
  unfold d_X1_countThere at h
  refine Y_iconst (pc := 0) (v := (0 : Int32)) dX1_countThere_0 rfl ?_
  refine Y_istore_n (pc := 1) (lv1 := [(1, .int (0 : Int32)), (0, .ref 67)]) dX1_countThere_1 rfl (by decide) rfl ?_
  refine Y_iconst (pc := 2) (v := (0 : Int32)) dX1_countThere_2 rfl ?_
  refine Y_istore_n (pc := 3) (lv1 := [(2, .int (0 : Int32)), (1, .int (0 : Int32)), (0, .ref 67)]) dX1_countThere_3 rfl (by decide) rfl ?_
  refine VV.sub [2, 1, 0] rfl ?_
  exact b_X1_countThere_4  fuel _ _ _ h hP
theorem v_X1_countThere {M z} (hP : Lay M) (h : d_X1_countThere M = some z) : CC Lay k_X1_countThere [.ref 67] M z.2 (Qv (some (.int z.1)) z.2) xF :=
  CC.ofVV (by decide) rfl (Nat.le_of_ble_eq_true rfl) (b_X1_countThere hP h)
theorem b_X1_guardsThere_38 {k4 : (Int32 × Int32) → Mem → Option (Int32 × Mem)} {x2 : Int32} {s0 : Int32} {s1 : Int32} {M z} (hk4 : ∀ (a : (Int32 × Int32)) (M : Mem) (z : Int32 × Mem), Lay M → k4 a M = some z → VV Lay k_X1_guardsThere 4 [(0, .ref 67), (1, .int a.1), (2, .int a.2)] [] M z.2 (Qv (some (.int z.1)) z.2) xF) (hP : Lay M) (h : d_X1_guardsThere_38 k4 x2 s0 s1 M = some z) : VV Lay k_X1_guardsThere 38 [(0, .ref 67), (2, .int x2)] [.int s1, .int s0] M z.2 (Qv (some (.int z.1)) z.2) xF := by
  unfold d_X1_guardsThere_38 at h
  refine Y_iadd (pc := 38) dX1_guardsThere_38 ?_
  obtain ⟨b1, eb1, h⟩ := bndE h
  refine VV.topI eb1 ?_
  refine Y_istore_n (pc := 39) (lv1 := [(1, .int b1), (0, .ref 67), (2, .int x2)]) dX1_guardsThere_39 rfl (by decide) rfl ?_
  obtain ⟨b2, eb2, h⟩ := bndE h
  refine Y_iinc (pc := 40) (j := 2) (v := b2) (lv1 := [(2, .int b2), (1, .int b1), (0, .ref 67)]) dX1_guardsThere_40 rfl eb2.symm (by decide) rfl ?_
  refine Y_goto (pc := 43) (tgt := 4) dX1_guardsThere_43 (by decide) ?_
  refine VV.sub [2, 1, 0] rfl ?_
  exact hk4 _ _ _ hP h
theorem b_X1_guardsThere_4b {k4 : (Int32 × Int32) → Mem → Option (Int32 × Mem)} {x1 : Int32} {x2 : Int32} {M z} (hk4 : ∀ (a : (Int32 × Int32)) (M : Mem) (z : Int32 × Mem), Lay M → k4 a M = some z → VV Lay k_X1_guardsThere 4 [(0, .ref 67), (1, .int a.1), (2, .int a.2)] [] M z.2 (Qv (some (.int z.1)) z.2) xF) (hP : Lay M) (h : d_X1_guardsThere_4b k4 x1 x2 M = some z) : VV Lay k_X1_guardsThere 4 [(0, .ref 67), (1, .int x1), (2, .int x2)] [] M z.2 (Qv (some (.int z.1)) z.2) xF := by
  unfold d_X1_guardsThere_4b at h
  refine Y_iload_n (pc := 4) (j := 2) dX1_guardsThere_4 rfl rfl ?_
  refine Y_aload_n (pc := 5) (j := 0) dX1_guardsThere_5 rfl rfl ?_
  refine Z_geti (pc := 6) dX1_guardsThere_6 w2_226 (lk_67 hP) fi_2_3 ?_
  refine Y_icmp_ge (pc := 9) (tgt := 46) dX1_guardsThere_9 (by decide) (fun hc1 => ?_) (fun hc1 => ?_)
  · replace h := ifT hc1 h
    refine Y_iload_n (pc := 46) (j := 1) dX1_guardsThere_46 rfl rfl ?_
    cases h
    exact Y_iret (pc := 47) rfl rfl dX1_guardsThere_47 hP ⟨rfl, rfl⟩
  · replace h := ifF hc1 h
    refine Y_iload_n (pc := 12) (j := 1) dX1_guardsThere_12 rfl rfl ?_
    refine Y_aload_n (pc := 13) (j := 0) dX1_guardsThere_13 rfl rfl ?_
    refine Z_getr (pc := 14) dX1_guardsThere_14 w2_223 (lk_67 hP) fr_2_2 (lr_67_2 hP) ?_
    refine Y_iload_n (pc := 17) (j := 2) dX1_guardsThere_17 rfl rfl ?_
    obtain ⟨hb1, h⟩ := okE h
    obtain ⟨r_1, er_1, h⟩ := bindE h
    refine Y_aald (pc := 18) dX1_guardsThere_18 (lk_68 hP) (ln_68 hP) hb1 er_1 ?_
    obtain ⟨hb2, h⟩ := okE h
    refine Z_geti (pc := 19) dX1_guardsThere_19 w2_172 hb2 fi_9_14 ?_
    refine Y_if_eq (pc := 22) (tgt := 37) dX1_guardsThere_22 (by decide) (fun hc2 => ?_) (fun hc2 => ?_)
    · replace h := ifT hc2 h
      refine Y_iconst (pc := 37) (v := (0 : Int32)) dX1_guardsThere_37 rfl ?_
      refine VV.sub [0, 2] rfl ?_
      exact b_X1_guardsThere_38 hk4 hP h
    · replace h := ifF hc2 h
      refine Y_aload_n (pc := 25) (j := 0) dX1_guardsThere_25 rfl rfl ?_
      refine Z_getr (pc := 26) dX1_guardsThere_26 w2_223 (lk_67 hP) fr_2_2 (lr_67_2 hP) ?_
      refine Y_iload_n (pc := 29) (j := 2) dX1_guardsThere_29 rfl rfl ?_
      obtain ⟨hb3, h⟩ := okE h
      obtain ⟨r_2, er_2, h⟩ := bindE h
      refine Y_aald (pc := 30) dX1_guardsThere_30 (lk_68 hP) (ln_68 hP) hb3 er_2 ?_
      obtain ⟨hb4, h⟩ := okE h
      refine Z_geti (pc := 31) dX1_guardsThere_31 w2_139 hb4 fi_9_1 ?_
      refine Y_goto (pc := 34) (tgt := 38) dX1_guardsThere_34 (by decide) ?_
      refine VV.sub [0, 2] rfl ?_
      exact b_X1_guardsThere_38 hk4 hP h
theorem b_X1_guardsThere_4 (n : Nat) : ∀ (a : (Int32 × Int32)) (M : Mem) (z : Int32 × Mem), d_X1_guardsThere_4 n a M = some z → Lay M → VV Lay k_X1_guardsThere 4 [(0, .ref 67), (1, .int a.1), (2, .int a.2)] [] M z.2 (Qv (some (.int z.1)) z.2) xF :=
  lp_ind (G := fun (a : (Int32 × Int32)) (M : Mem) (z : Int32 × Mem) => Lay M → VV Lay k_X1_guardsThere 4 [(0, .ref 67), (1, .int a.1), (2, .int a.2)] [] M z.2 (Qv (some (.int z.1)) z.2) xF) (fun k hk a M z h hP => b_X1_guardsThere_4b  (fun a M z hP h => hk a M z h hP) hP h) n
theorem b_X1_guardsThere {M z} (hP : Lay M) (h : d_X1_guardsThere M = some z) : VV Lay k_X1_guardsThere 0 [(0, .ref 67)] [] M z.2 (Qv (some (.int z.1)) z.2) xF := by
  unfold d_X1_guardsThere at h
  refine Y_iconst (pc := 0) (v := (0 : Int32)) dX1_guardsThere_0 rfl ?_
  refine Y_istore_n (pc := 1) (lv1 := [(1, .int (0 : Int32)), (0, .ref 67)]) dX1_guardsThere_1 rfl (by decide) rfl ?_
  refine Y_iconst (pc := 2) (v := (0 : Int32)) dX1_guardsThere_2 rfl ?_
  refine Y_istore_n (pc := 3) (lv1 := [(2, .int (0 : Int32)), (1, .int (0 : Int32)), (0, .ref 67)]) dX1_guardsThere_3 rfl (by decide) rfl ?_
  refine VV.sub [2, 1, 0] rfl ?_
  exact b_X1_guardsThere_4  fuel _ _ _ h hP
theorem v_X1_guardsThere {M z} (hP : Lay M) (h : d_X1_guardsThere M = some z) : CC Lay k_X1_guardsThere [.ref 67] M z.2 (Qv (some (.int z.1)) z.2) xF :=
  CC.ofVV (by decide) rfl (Nat.le_of_ble_eq_true rfl) (b_X1_guardsThere hP h)
theorem b_X1_hasRoots_53 {k4 : (Int32 × Int32) → Mem → Option (Int32 × Mem)} {x2 : Int32} {s0 : Int32} {M z} (hk4 : ∀ (a : (Int32 × Int32)) (M : Mem) (z : Int32 × Mem), Lay M → k4 a M = some z → VV Lay k_X1_hasRoots 4 [(0, .ref 67), (1, .int a.1), (2, .int a.2)] [] M z.2 (Qv (some (.int z.1)) z.2) xF) (hP : Lay M) (h : d_X1_hasRoots_53 k4 x2 s0 M = some z) : VV Lay k_X1_hasRoots 53 [(0, .ref 67), (2, .int x2)] [.int s0] M z.2 (Qv (some (.int z.1)) z.2) xF := by
  unfold d_X1_hasRoots_53 at h
  refine Y_istore_n (pc := 53) (lv1 := [(1, .int s0), (0, .ref 67), (2, .int x2)]) dX1_hasRoots_53 rfl (by decide) rfl ?_
  obtain ⟨b1, eb1, h⟩ := bndE h
  refine Y_iinc (pc := 54) (j := 2) (v := b1) (lv1 := [(2, .int b1), (1, .int s0), (0, .ref 67)]) dX1_hasRoots_54 rfl eb1.symm (by decide) rfl ?_
  refine Y_goto (pc := 57) (tgt := 4) dX1_hasRoots_57 (by decide) ?_
  refine VV.sub [2, 1, 0] rfl ?_
  exact hk4 _ _ _ hP h
theorem b_X1_hasRoots_52 {k4 : (Int32 × Int32) → Mem → Option (Int32 × Mem)} {x2 : Int32} {M z} (hk4 : ∀ (a : (Int32 × Int32)) (M : Mem) (z : Int32 × Mem), Lay M → k4 a M = some z → VV Lay k_X1_hasRoots 4 [(0, .ref 67), (1, .int a.1), (2, .int a.2)] [] M z.2 (Qv (some (.int z.1)) z.2) xF) (hP : Lay M) (h : d_X1_hasRoots_52 k4 x2 M = some z) : VV Lay k_X1_hasRoots 52 [(0, .ref 67), (2, .int x2)] [] M z.2 (Qv (some (.int z.1)) z.2) xF := by
  unfold d_X1_hasRoots_52 at h
  refine Y_iconst (pc := 52) (v := (0 : Int32)) dX1_hasRoots_52 rfl ?_
  refine VV.sub [0, 1] rfl ?_
  exact b_X1_hasRoots_53 hk4 hP h
theorem b_X1_hasRoots_48 {k4 : (Int32 × Int32) → Mem → Option (Int32 × Mem)} {x2 : Int32} {M z} (hk4 : ∀ (a : (Int32 × Int32)) (M : Mem) (z : Int32 × Mem), Lay M → k4 a M = some z → VV Lay k_X1_hasRoots 4 [(0, .ref 67), (1, .int a.1), (2, .int a.2)] [] M z.2 (Qv (some (.int z.1)) z.2) xF) (hP : Lay M) (h : d_X1_hasRoots_48 k4 x2 M = some z) : VV Lay k_X1_hasRoots 48 [(0, .ref 67), (2, .int x2)] [] M z.2 (Qv (some (.int z.1)) z.2) xF := by
  unfold d_X1_hasRoots_48 at h
  refine Y_iconst (pc := 48) (v := (1 : Int32)) dX1_hasRoots_48 rfl ?_
  refine Y_goto (pc := 49) (tgt := 53) dX1_hasRoots_49 (by decide) ?_
  refine VV.sub [0, 1] rfl ?_
  exact b_X1_hasRoots_53 hk4 hP h
theorem b_X1_hasRoots_4b {k4 : (Int32 × Int32) → Mem → Option (Int32 × Mem)} {x1 : Int32} {x2 : Int32} {M z} (hk4 : ∀ (a : (Int32 × Int32)) (M : Mem) (z : Int32 × Mem), Lay M → k4 a M = some z → VV Lay k_X1_hasRoots 4 [(0, .ref 67), (1, .int a.1), (2, .int a.2)] [] M z.2 (Qv (some (.int z.1)) z.2) xF) (hP : Lay M) (h : d_X1_hasRoots_4b k4 x1 x2 M = some z) : VV Lay k_X1_hasRoots 4 [(0, .ref 67), (1, .int x1), (2, .int x2)] [] M z.2 (Qv (some (.int z.1)) z.2) xF := by
  unfold d_X1_hasRoots_4b at h
  refine Y_iload_n (pc := 4) (j := 2) dX1_hasRoots_4 rfl rfl ?_
  refine Y_aload_n (pc := 5) (j := 0) dX1_hasRoots_5 rfl rfl ?_
  refine Z_geti (pc := 6) dX1_hasRoots_6 w2_226 (lk_67 hP) fi_2_3 ?_
  refine Y_icmp_ge (pc := 9) (tgt := 60) dX1_hasRoots_9 (by decide) (fun hc1 => ?_) (fun hc1 => ?_)
  · replace h := ifT hc1 h
    refine Y_iload_n (pc := 60) (j := 1) dX1_hasRoots_60 rfl rfl ?_
    obtain ⟨hb1, h⟩ := okE h
    cases h
    exact Y_iret (pc := 61) rfl (nar_bo hb1) dX1_hasRoots_61 hP ⟨rfl, rfl⟩
  · replace h := ifF hc1 h
    refine Y_iload_n (pc := 12) (j := 1) dX1_hasRoots_12 rfl rfl ?_
    refine Y_if_eq (pc := 13) (tgt := 52) dX1_hasRoots_13 (by decide) (fun hc2 => ?_) (fun hc2 => ?_)
    · replace h := ifT hc2 h
      refine VV.sub [0, 2] rfl ?_
      exact b_X1_hasRoots_52 hk4 hP h
    · replace h := ifF hc2 h
      refine Y_aload_n (pc := 16) (j := 0) dX1_hasRoots_16 rfl rfl ?_
      refine Z_getr (pc := 17) dX1_hasRoots_17 w2_223 (lk_67 hP) fr_2_2 (lr_67_2 hP) ?_
      refine Y_iload_n (pc := 20) (j := 2) dX1_hasRoots_20 rfl rfl ?_
      obtain ⟨hb2, h⟩ := okE h
      obtain ⟨r_1, er_1, h⟩ := bindE h
      refine Y_aald (pc := 21) dX1_hasRoots_21 (lk_68 hP) (ln_68 hP) hb2 er_1 ?_
      obtain ⟨hb3, h⟩ := okE h
      refine Z_geti (pc := 22) dX1_hasRoots_22 w2_172 hb3 fi_9_14 ?_
      refine Y_if_eq (pc := 25) (tgt := 48) dX1_hasRoots_25 (by decide) (fun hc3 => ?_) (fun hc3 => ?_)
      · replace h := ifT hc3 h
        refine VV.sub [0, 2] rfl ?_
        exact b_X1_hasRoots_48 hk4 hP h
      · replace h := ifF hc3 h
        refine Y_aload_n (pc := 28) (j := 0) dX1_hasRoots_28 rfl rfl ?_
        refine Z_getr (pc := 29) dX1_hasRoots_29 w2_223 (lk_67 hP) fr_2_2 (lr_67_2 hP) ?_
        refine Y_aload_n (pc := 32) (j := 0) dX1_hasRoots_32 rfl rfl ?_
        refine Z_getr (pc := 33) dX1_hasRoots_33 w2_223 (lk_67 hP) fr_2_2 (lr_67_2 hP) ?_
        refine Y_iload_n (pc := 36) (j := 2) dX1_hasRoots_36 rfl rfl ?_
        obtain ⟨hb4, h⟩ := okE h
        obtain ⟨r_2, er_2, h⟩ := bindE h
        refine Y_aald (pc := 37) dX1_hasRoots_37 (lk_68 hP) (ln_68 hP) hb4 er_2 ?_
        obtain ⟨hb5, h⟩ := okE h
        refine Z_geti (pc := 38) dX1_hasRoots_38 w2_166 hb5 fi_9_12 ?_
        obtain ⟨hb6, h⟩ := okE h
        obtain ⟨r_3, er_3, h⟩ := bindE h
        refine Y_aald (pc := 41) dX1_hasRoots_41 (lk_68 hP) (ln_68 hP) hb6 er_3 ?_
        obtain ⟨hb7, h⟩ := okE h
        refine Z_geti (pc := 42) dX1_hasRoots_42 w2_172 hb7 fi_9_14 ?_
        refine Y_if_eq (pc := 45) (tgt := 52) dX1_hasRoots_45 (by decide) (fun hc4 => ?_) (fun hc4 => ?_)
        · replace h := ifT hc4 h
          refine VV.sub [0, 2] rfl ?_
          exact b_X1_hasRoots_52 hk4 hP h
        · replace h := ifF hc4 h
          refine VV.sub [0, 2] rfl ?_
          exact b_X1_hasRoots_48 hk4 hP h
theorem b_X1_hasRoots_4 (n : Nat) : ∀ (a : (Int32 × Int32)) (M : Mem) (z : Int32 × Mem), d_X1_hasRoots_4 n a M = some z → Lay M → VV Lay k_X1_hasRoots 4 [(0, .ref 67), (1, .int a.1), (2, .int a.2)] [] M z.2 (Qv (some (.int z.1)) z.2) xF :=
  lp_ind (G := fun (a : (Int32 × Int32)) (M : Mem) (z : Int32 × Mem) => Lay M → VV Lay k_X1_hasRoots 4 [(0, .ref 67), (1, .int a.1), (2, .int a.2)] [] M z.2 (Qv (some (.int z.1)) z.2) xF) (fun k hk a M z h hP => b_X1_hasRoots_4b  (fun a M z hP h => hk a M z h hP) hP h) n
theorem b_X1_hasRoots {M z} (hP : Lay M) (h : d_X1_hasRoots M = some z) : VV Lay k_X1_hasRoots 0 [(0, .ref 67)] [] M z.2 (Qv (some (.int z.1)) z.2) xF := by
  unfold d_X1_hasRoots at h
  refine Y_iconst (pc := 0) (v := (1 : Int32)) dX1_hasRoots_0 rfl ?_
  refine Y_istore_n (pc := 1) (lv1 := [(1, .int (1 : Int32)), (0, .ref 67)]) dX1_hasRoots_1 rfl (by decide) rfl ?_
  refine Y_iconst (pc := 2) (v := (0 : Int32)) dX1_hasRoots_2 rfl ?_
  refine Y_istore_n (pc := 3) (lv1 := [(2, .int (0 : Int32)), (1, .int (1 : Int32)), (0, .ref 67)]) dX1_hasRoots_3 rfl (by decide) rfl ?_
  refine VV.sub [2, 1, 0] rfl ?_
  exact b_X1_hasRoots_4  fuel _ _ _ h hP
theorem v_X1_hasRoots {M z} (hP : Lay M) (h : d_X1_hasRoots M = some z) : CC Lay k_X1_hasRoots [.ref 67] M z.2 (Qv (some (.int z.1)) z.2) xF :=
  CC.ofVV (by decide) rfl (Nat.le_of_ble_eq_true rfl) (b_X1_hasRoots hP h)
theorem b_X1_leastLatelyEntered_82 {k4 : (Int32 × Int32) → Mem → Option (Int32 × Mem)} {x1 : Int32} {x2 : Int32} {x3 : Int32} {M z} (hk4 : ∀ (a : (Int32 × Int32)) (M : Mem) (z : Int32 × Mem), Lay M → k4 a M = some z → VV Lay k_X1_leastLatelyEntered 4 [(0, .ref 67), (1, .int x1), (2, .int a.1), (3, .int a.2)] [] M z.2 (Qv (some (.int z.1)) z.2) xF) (hP : Lay M) (h : d_X1_leastLatelyEntered_82 k4 x1 x2 x3 M = some z) : VV Lay k_X1_leastLatelyEntered 82 [(0, .ref 67), (1, .int x1), (2, .int x2), (3, .int x3)] [] M z.2 (Qv (some (.int z.1)) z.2) xF := by
  unfold d_X1_leastLatelyEntered_82 at h
  obtain ⟨b1, eb1, h⟩ := bndE h
  refine Y_iinc (pc := 82) (j := 3) (v := b1) (lv1 := [(3, .int b1), (0, .ref 67), (1, .int x1), (2, .int x2)]) dX1_leastLatelyEntered_82 rfl eb1.symm (by decide) rfl ?_
  refine Y_goto (pc := 85) (tgt := 4) dX1_leastLatelyEntered_85 (by decide) ?_
  refine VV.sub [1, 2, 3, 0] rfl ?_
  exact hk4 _ _ _ hP h
theorem b_X1_leastLatelyEntered_80 {k4 : (Int32 × Int32) → Mem → Option (Int32 × Mem)} {x1 : Int32} {x3 : Int32} {M z} (hk4 : ∀ (a : (Int32 × Int32)) (M : Mem) (z : Int32 × Mem), Lay M → k4 a M = some z → VV Lay k_X1_leastLatelyEntered 4 [(0, .ref 67), (1, .int x1), (2, .int a.1), (3, .int a.2)] [] M z.2 (Qv (some (.int z.1)) z.2) xF) (hP : Lay M) (h : d_X1_leastLatelyEntered_80 k4 x1 x3 M = some z) : VV Lay k_X1_leastLatelyEntered 80 [(0, .ref 67), (1, .int x1), (3, .int x3)] [] M z.2 (Qv (some (.int z.1)) z.2) xF := by
  unfold d_X1_leastLatelyEntered_80 at h
  refine Y_iload_n (pc := 80) (j := 2) dX1_leastLatelyEntered_80 rfl rfl ?_
  refine Y_istore_n (pc := 81) (lv1 := [(2, .int x3), (0, .ref 67), (1, .int x1), (3, .int x3)]) dX1_leastLatelyEntered_81 rfl (by decide) rfl ?_
  refine VV.sub [1, 2, 0, 3] rfl ?_
  exact b_X1_leastLatelyEntered_82 hk4 hP h
theorem b_X1_leastLatelyEntered_47 {k4 : (Int32 × Int32) → Mem → Option (Int32 × Mem)} {x1 : Int32} {x2 : Int32} {x3 : Int32} {s0 : Int32} {M z} (hk4 : ∀ (a : (Int32 × Int32)) (M : Mem) (z : Int32 × Mem), Lay M → k4 a M = some z → VV Lay k_X1_leastLatelyEntered 4 [(0, .ref 67), (1, .int x1), (2, .int a.1), (3, .int a.2)] [] M z.2 (Qv (some (.int z.1)) z.2) xF) (hP : Lay M) (h : d_X1_leastLatelyEntered_47 k4 x1 x2 x3 s0 M = some z) : VV Lay k_X1_leastLatelyEntered 47 [(0, .ref 67), (1, .int x1), (2, .int x2), (3, .int x3)] [.int s0] M z.2 (Qv (some (.int z.1)) z.2) xF := by
  unfold d_X1_leastLatelyEntered_47 at h
  refine Y_istore (pc := 47) (lv1 := [(4, .int s0), (0, .ref 67), (1, .int x1), (2, .int x2), (3, .int x3)]) dX1_leastLatelyEntered_47 (by decide) rfl ?_
  refine Y_iload (pc := 49) (j := 0) dX1_leastLatelyEntered_49 rfl ?_
  refine Y_if_eq (pc := 51) (tgt := 82) dX1_leastLatelyEntered_51 (by decide) (fun hc1 => ?_) (fun hc1 => ?_)
  · replace h := ifT hc1 h
    refine VV.sub [1, 2, 3, 4] rfl ?_
    exact b_X1_leastLatelyEntered_82 hk4 hP h
  · replace h := ifF hc1 h
    refine Y_iload_n (pc := 54) (j := 3) dX1_leastLatelyEntered_54 rfl rfl ?_
    refine Y_iconst (pc := 55) (v := (-1 : Int32)) dX1_leastLatelyEntered_55 rfl ?_
    refine Y_icmp_eq (pc := 56) (tgt := 80) dX1_leastLatelyEntered_56 (by decide) (fun hc2 => ?_) (fun hc2 => ?_)
    · replace h := ifT hc2 h
      refine VV.sub [1, 2, 4] rfl ?_
      exact b_X1_leastLatelyEntered_80 hk4 hP h
    · replace h := ifF hc2 h
      refine Y_aload_n (pc := 59) (j := 1) dX1_leastLatelyEntered_59 rfl rfl ?_
      refine Z_getr (pc := 60) dX1_leastLatelyEntered_60 w2_223 (lk_67 hP) fr_2_2 (lr_67_2 hP) ?_
      refine Y_iload_n (pc := 63) (j := 4) dX1_leastLatelyEntered_63 rfl rfl ?_
      obtain ⟨hb1, h⟩ := okE h
      obtain ⟨r_1, er_1, h⟩ := bindE h
      refine Y_aald (pc := 64) dX1_leastLatelyEntered_64 (lk_68 hP) (ln_68 hP) hb1 er_1 ?_
      obtain ⟨hb2, h⟩ := okE h
      refine Z_geti (pc := 65) dX1_leastLatelyEntered_65 w2_177 hb2 fi_9_16 ?_
      refine Y_aload_n (pc := 68) (j := 1) dX1_leastLatelyEntered_68 rfl rfl ?_
      refine Z_getr (pc := 69) dX1_leastLatelyEntered_69 w2_223 (lk_67 hP) fr_2_2 (lr_67_2 hP) ?_
      refine Y_iload_n (pc := 72) (j := 3) dX1_leastLatelyEntered_72 rfl rfl ?_
      obtain ⟨hb3, h⟩ := okE h
      obtain ⟨r_2, er_2, h⟩ := bindE h
      refine Y_aald (pc := 73) dX1_leastLatelyEntered_73 (lk_68 hP) (ln_68 hP) hb3 er_2 ?_
      obtain ⟨hb4, h⟩ := okE h
      refine Z_geti (pc := 74) dX1_leastLatelyEntered_74 w2_177 hb4 fi_9_16 ?_
      refine Y_icmp_ge (pc := 77) (tgt := 82) dX1_leastLatelyEntered_77 (by decide) (fun hc3 => ?_) (fun hc3 => ?_)
      · replace h := ifT hc3 h
        refine VV.sub [1, 2, 3, 4] rfl ?_
        exact b_X1_leastLatelyEntered_82 hk4 hP h
      · replace h := ifF hc3 h
        refine VV.sub [1, 2, 4] rfl ?_
        exact b_X1_leastLatelyEntered_80 hk4 hP h
theorem b_X1_leastLatelyEntered_46 {k4 : (Int32 × Int32) → Mem → Option (Int32 × Mem)} {x1 : Int32} {x2 : Int32} {x3 : Int32} {M z} (hk4 : ∀ (a : (Int32 × Int32)) (M : Mem) (z : Int32 × Mem), Lay M → k4 a M = some z → VV Lay k_X1_leastLatelyEntered 4 [(0, .ref 67), (1, .int x1), (2, .int a.1), (3, .int a.2)] [] M z.2 (Qv (some (.int z.1)) z.2) xF) (hP : Lay M) (h : d_X1_leastLatelyEntered_46 k4 x1 x2 x3 M = some z) : VV Lay k_X1_leastLatelyEntered 46 [(0, .ref 67), (1, .int x1), (2, .int x2), (3, .int x3)] [] M z.2 (Qv (some (.int z.1)) z.2) xF := by
  unfold d_X1_leastLatelyEntered_46 at h
  refine Y_iconst (pc := 46) (v := (0 : Int32)) dX1_leastLatelyEntered_46 rfl ?_
  refine VV.sub [0, 1, 2, 3] rfl ?_
  exact b_X1_leastLatelyEntered_47 hk4 hP h
theorem b_X1_leastLatelyEntered_4b {k4 : (Int32 × Int32) → Mem → Option (Int32 × Mem)} {x1 : Int32} {x2 : Int32} {x3 : Int32} {M z} (hk4 : ∀ (a : (Int32 × Int32)) (M : Mem) (z : Int32 × Mem), Lay M → k4 a M = some z → VV Lay k_X1_leastLatelyEntered 4 [(0, .ref 67), (1, .int x1), (2, .int a.1), (3, .int a.2)] [] M z.2 (Qv (some (.int z.1)) z.2) xF) (hP : Lay M) (h : d_X1_leastLatelyEntered_4b k4 x1 x2 x3 M = some z) : VV Lay k_X1_leastLatelyEntered 4 [(0, .ref 67), (1, .int x1), (2, .int x2), (3, .int x3)] [] M z.2 (Qv (some (.int z.1)) z.2) xF := by
  unfold d_X1_leastLatelyEntered_4b at h
  refine Y_iload_n (pc := 4) (j := 3) dX1_leastLatelyEntered_4 rfl rfl ?_
  refine Y_aload_n (pc := 5) (j := 0) dX1_leastLatelyEntered_5 rfl rfl ?_
  refine Z_geti (pc := 6) dX1_leastLatelyEntered_6 w2_226 (lk_67 hP) fi_2_3 ?_
  refine Y_icmp_ge (pc := 9) (tgt := 88) dX1_leastLatelyEntered_9 (by decide) (fun hc1 => ?_) (fun hc1 => ?_)
  · replace h := ifT hc1 h
    refine Y_iload_n (pc := 88) (j := 2) dX1_leastLatelyEntered_88 rfl rfl ?_
    cases h
    exact Y_iret (pc := 89) rfl rfl dX1_leastLatelyEntered_89 hP ⟨rfl, rfl⟩
  · replace h := ifF hc1 h
    refine Y_aload_n (pc := 12) (j := 0) dX1_leastLatelyEntered_12 rfl rfl ?_
    refine Z_getr (pc := 13) dX1_leastLatelyEntered_13 w2_223 (lk_67 hP) fr_2_2 (lr_67_2 hP) ?_
    refine Y_iload_n (pc := 16) (j := 3) dX1_leastLatelyEntered_16 rfl rfl ?_
    obtain ⟨hb1, h⟩ := okE h
    obtain ⟨r_1, er_1, h⟩ := bindE h
    refine Y_aald (pc := 17) dX1_leastLatelyEntered_17 (lk_68 hP) (ln_68 hP) hb1 er_1 ?_
    obtain ⟨hb2, h⟩ := okE h
    refine Z_geti (pc := 18) dX1_leastLatelyEntered_18 w2_172 hb2 fi_9_14 ?_
    refine Y_if_eq (pc := 21) (tgt := 46) dX1_leastLatelyEntered_21 (by decide) (fun hc2 => ?_) (fun hc2 => ?_)
    · replace h := ifT hc2 h
      refine VV.sub [0, 1, 2, 3] rfl ?_
      exact b_X1_leastLatelyEntered_46 hk4 hP h
    · replace h := ifF hc2 h
      refine Y_aload_n (pc := 24) (j := 0) dX1_leastLatelyEntered_24 rfl rfl ?_
      refine Z_getr (pc := 25) dX1_leastLatelyEntered_25 w2_223 (lk_67 hP) fr_2_2 (lr_67_2 hP) ?_
      refine Y_iload_n (pc := 28) (j := 3) dX1_leastLatelyEntered_28 rfl rfl ?_
      obtain ⟨hb3, h⟩ := okE h
      obtain ⟨r_2, er_2, h⟩ := bindE h
      refine Y_aald (pc := 29) dX1_leastLatelyEntered_29 (lk_68 hP) (ln_68 hP) hb3 er_2 ?_
      obtain ⟨hb4, h⟩ := okE h
      refine Z_geti (pc := 30) dX1_leastLatelyEntered_30 w2_166 hb4 fi_9_12 ?_
      refine Y_iload_n (pc := 33) (j := 3) dX1_leastLatelyEntered_33 rfl rfl ?_
      refine Y_icmp_ne (pc := 34) (tgt := 46) dX1_leastLatelyEntered_34 (by decide) (fun hc3 => ?_) (fun hc3 => ?_)
      · replace h := ifF hc3 h
        refine VV.sub [0, 1, 2, 3] rfl ?_
        exact b_X1_leastLatelyEntered_46 hk4 hP h
      · replace h := ifT hc3 h
        refine Y_iload_n (pc := 37) (j := 3) dX1_leastLatelyEntered_37 rfl rfl ?_
        refine Y_iload_n (pc := 38) (j := 1) dX1_leastLatelyEntered_38 rfl rfl ?_
        refine Y_icmp_eq (pc := 39) (tgt := 46) dX1_leastLatelyEntered_39 (by decide) (fun hc4 => ?_) (fun hc4 => ?_)
        · replace h := ifT hc4 h
          refine VV.sub [0, 1, 2, 3] rfl ?_
          exact b_X1_leastLatelyEntered_46 hk4 hP h
        · replace h := ifF hc4 h
          refine Y_iconst (pc := 42) (v := (1 : Int32)) dX1_leastLatelyEntered_42 rfl ?_
          refine Y_goto (pc := 43) (tgt := 47) dX1_leastLatelyEntered_43 (by decide) ?_
          refine VV.sub [0, 1, 2, 3] rfl ?_
          exact b_X1_leastLatelyEntered_47 hk4 hP h
theorem b_X1_leastLatelyEntered_4 {x1 : Int32} (n : Nat) : ∀ (a : (Int32 × Int32)) (M : Mem) (z : Int32 × Mem), d_X1_leastLatelyEntered_4 x1 n a M = some z → Lay M → VV Lay k_X1_leastLatelyEntered 4 [(0, .ref 67), (1, .int x1), (2, .int a.1), (3, .int a.2)] [] M z.2 (Qv (some (.int z.1)) z.2) xF :=
  lp_ind (G := fun (a : (Int32 × Int32)) (M : Mem) (z : Int32 × Mem) => Lay M → VV Lay k_X1_leastLatelyEntered 4 [(0, .ref 67), (1, .int x1), (2, .int a.1), (3, .int a.2)] [] M z.2 (Qv (some (.int z.1)) z.2) xF) (fun k hk a M z h hP => b_X1_leastLatelyEntered_4b  (fun a M z hP h => hk a M z h hP) hP h) n
theorem b_X1_leastLatelyEntered {x1 : Int32} {M z} (hP : Lay M) (h : d_X1_leastLatelyEntered x1 M = some z) : VV Lay k_X1_leastLatelyEntered 0 [(0, .ref 67), (1, .int x1)] [] M z.2 (Qv (some (.int z.1)) z.2) xF := by
  unfold d_X1_leastLatelyEntered at h
  refine Y_iconst (pc := 0) (v := (-1 : Int32)) dX1_leastLatelyEntered_0 rfl ?_
  refine Y_istore_n (pc := 1) (lv1 := [(2, .int (-1 : Int32)), (0, .ref 67), (1, .int x1)]) dX1_leastLatelyEntered_1 rfl (by decide) rfl ?_
  refine Y_iconst (pc := 2) (v := (0 : Int32)) dX1_leastLatelyEntered_2 rfl ?_
  refine Y_istore_n (pc := 3) (lv1 := [(3, .int (0 : Int32)), (2, .int (-1 : Int32)), (0, .ref 67), (1, .int x1)]) dX1_leastLatelyEntered_3 rfl (by decide) rfl ?_
  refine VV.sub [2, 3, 1, 0] rfl ?_
  exact b_X1_leastLatelyEntered_4  fuel _ _ _ h hP
theorem v_X1_leastLatelyEntered {x1 : Int32} {M z} (hP : Lay M) (h : d_X1_leastLatelyEntered x1 M = some z) : CC Lay k_X1_leastLatelyEntered [.ref 67, .int x1] M z.2 (Qv (some (.int z.1)) z.2) xF :=
  CC.ofVV (by decide) rfl (Nat.le_of_ble_eq_true rfl) (b_X1_leastLatelyEntered hP h)
theorem b_X1_throwTree_39 {k8 : (Int32) → Mem → Option (Unit × Mem)} {x1 : Int32} {x2 : Int32} {M z} (hk8 : ∀ (a : (Int32)) (M : Mem) (z : Unit × Mem), Lay M → k8 a M = some z → VV Lay k_X1_throwTree 8 [(0, .ref 67), (1, .int x1), (2, .int a)] [] M z.2 (Qv (none) z.2) xF) (hP : Lay M) (h : d_X1_throwTree_39 k8 x1 x2 M = some z) : VV Lay k_X1_throwTree 39 [(0, .ref 67), (1, .int x1), (2, .int x2)] [] M z.2 (Qv (none) z.2) xF := by
  unfold d_X1_throwTree_39 at h
  obtain ⟨b1, eb1, h⟩ := bndE h
  refine Y_iinc (pc := 39) (j := 2) (v := b1) (lv1 := [(2, .int b1), (0, .ref 67), (1, .int x1)]) dX1_throwTree_39 rfl eb1.symm (by decide) rfl ?_
  refine Y_goto (pc := 42) (tgt := 8) dX1_throwTree_42 (by decide) ?_
  refine VV.sub [1, 2, 0] rfl ?_
  exact hk8 _ _ _ hP h
theorem b_X1_throwTree_8b {k8 : (Int32) → Mem → Option (Unit × Mem)} {x1 : Int32} {x2 : Int32} {M z} (hk8 : ∀ (a : (Int32)) (M : Mem) (z : Unit × Mem), Lay M → k8 a M = some z → VV Lay k_X1_throwTree 8 [(0, .ref 67), (1, .int x1), (2, .int a)] [] M z.2 (Qv (none) z.2) xF) (hP : Lay M) (h : d_X1_throwTree_8b k8 x1 x2 M = some z) : VV Lay k_X1_throwTree 8 [(0, .ref 67), (1, .int x1), (2, .int x2)] [] M z.2 (Qv (none) z.2) xF := by
  unfold d_X1_throwTree_8b at h
  refine Y_iload_n (pc := 8) (j := 2) dX1_throwTree_8 rfl rfl ?_
  refine Y_aload_n (pc := 9) (j := 0) dX1_throwTree_9 rfl rfl ?_
  refine Z_geti (pc := 10) dX1_throwTree_10 w2_226 (lk_67 hP) fi_2_3 ?_
  refine Y_icmp_ge (pc := 13) (tgt := 45) dX1_throwTree_13 (by decide) (fun hc1 => ?_) (fun hc1 => ?_)
  · replace h := ifT hc1 h
    refine Y_aload_n (pc := 45) (j := 0) dX1_throwTree_45 rfl rfl ?_
    refine Z_getr (pc := 46) dX1_throwTree_46 w2_223 (lk_67 hP) fr_2_2 (lr_67_2 hP) ?_
    refine Y_iload_n (pc := 49) (j := 1) dX1_throwTree_49 rfl rfl ?_
    obtain ⟨hb1, h⟩ := okE h
    obtain ⟨r_1, er_1, h⟩ := bindE h
    refine Y_aald (pc := 50) dX1_throwTree_50 (lk_68 hP) (ln_68 hP) hb1 er_1 ?_
    obtain ⟨hb2, h⟩ := okE h
    refine Z_geti (pc := 51) dX1_throwTree_51 w2_170 hb2 fi_9_13 ?_
    obtain ⟨b1, eb1, h⟩ := bndE h
    refine VV.topI eb1 ?_
    refine Y_istore_n (pc := 54) (lv1 := [(2, .int b1), (0, .ref 67), (1, .int x1)]) dX1_throwTree_54 rfl (by decide) rfl ?_
    refine Y_aload_n (pc := 55) (j := 1) dX1_throwTree_55 rfl rfl ?_
    refine Z_getr (pc := 56) dX1_throwTree_56 w2_222 (lk_67 hP) fr_2_1 (lr_67_1 hP) ?_
    refine Z_getr (pc := 59) dX1_throwTree_59 w2_33 (lk_44 hP) fr_3_2 (lr_44_2 hP) ?_
    refine Y_iload_n (pc := 62) (j := 0) dX1_throwTree_62 rfl rfl ?_
    refine Y_iconst (pc := 63) (v := (-1 : Int32)) dX1_throwTree_63 rfl ?_
    obtain ⟨hb3, h⟩ := okE h
    refine Y_iast (pc := 64) dX1_throwTree_64 (lk_47 hP) (ln_47 hP) hb3 ?_
    obtain ⟨M1, eM1, h⟩ := bndE h
    refine VV.mem eM1 ?_
    have hP1 := hP.wI eM1
    refine Y_aload_n (pc := 65) (j := 1) dX1_throwTree_65 rfl rfl ?_
    refine Z_getr (pc := 66) dX1_throwTree_66 w2_222 (lk_67 hP1) fr_2_1 (lr_67_1 hP1) ?_
    refine Z_getr (pc := 69) dX1_throwTree_69 w2_28 (lk_44 hP1) fr_3_0 (lr_44_0 hP1) ?_
    refine Y_iload_n (pc := 72) (j := 0) dX1_throwTree_72 rfl rfl ?_
    refine Y_iconst (pc := 73) (v := (0 : Int32)) dX1_throwTree_73 rfl ?_
    obtain ⟨hb4, h⟩ := okE h
    refine Y_iast (pc := 74) dX1_throwTree_74 (lk_45 hP1) (ln_45 hP1) hb4 ?_
    obtain ⟨M2, eM2, h⟩ := bndE h
    refine VV.mem eM2 ?_
    have hP2 := hP1.wI eM2
    cases h
    exact Y_vret (pc := 75) rfl dX1_throwTree_75 hP2 ⟨rfl, rfl⟩
  · replace h := ifF hc1 h
    refine Y_aload_n (pc := 16) (j := 0) dX1_throwTree_16 rfl rfl ?_
    refine Z_getr (pc := 17) dX1_throwTree_17 w2_223 (lk_67 hP) fr_2_2 (lr_67_2 hP) ?_
    refine Y_iload_n (pc := 20) (j := 2) dX1_throwTree_20 rfl rfl ?_
    obtain ⟨hb5, h⟩ := okE h
    obtain ⟨r_2, er_2, h⟩ := bindE h
    refine Y_aald (pc := 21) dX1_throwTree_21 (lk_68 hP) (ln_68 hP) hb5 er_2 ?_
    obtain ⟨hb6, h⟩ := okE h
    refine Z_geti (pc := 22) dX1_throwTree_22 w2_166 hb6 fi_9_12 ?_
    refine Y_iload_n (pc := 25) (j := 1) dX1_throwTree_25 rfl rfl ?_
    refine Y_icmp_ne (pc := 26) (tgt := 39) dX1_throwTree_26 (by decide) (fun hc2 => ?_) (fun hc2 => ?_)
    · replace h := ifF hc2 h
      refine VV.sub [0, 1, 2] rfl ?_
      exact b_X1_throwTree_39 hk8 hP h
    · replace h := ifT hc2 h
      refine Y_aload_n (pc := 29) (j := 0) dX1_throwTree_29 rfl rfl ?_
      refine Z_getr (pc := 30) dX1_throwTree_30 w2_223 (lk_67 hP) fr_2_2 (lr_67_2 hP) ?_
      refine Y_iload_n (pc := 33) (j := 2) dX1_throwTree_33 rfl rfl ?_
      obtain ⟨hb7, h⟩ := okE h
      obtain ⟨r_3, er_3, h⟩ := bindE h
      refine Y_aald (pc := 34) dX1_throwTree_34 (lk_68 hP) (ln_68 hP) hb7 er_3 ?_
      refine Y_iconst (pc := 35) (v := (0 : Int32)) dX1_throwTree_35 rfl ?_
      obtain ⟨hb8, h⟩ := okE h
      refine Z_putz (pc := 36) dX1_throwTree_36 w2_172 hb8 fi_9_14 (Or.inl rfl) rfl (by decide) ?_
      obtain ⟨M3, eM3, h⟩ := bndE h
      refine VV.mem eM3 ?_
      have hP3 := hP.wI eM3
      refine VV.sub [0, 1, 2] rfl ?_
      exact b_X1_throwTree_39 hk8 hP3 h
theorem b_X1_throwTree_8 {x1 : Int32} (n : Nat) : ∀ (a : (Int32)) (M : Mem) (z : Unit × Mem), d_X1_throwTree_8 x1 n a M = some z → Lay M → VV Lay k_X1_throwTree 8 [(0, .ref 67), (1, .int x1), (2, .int a)] [] M z.2 (Qv (none) z.2) xF :=
  lp_ind (G := fun (a : (Int32)) (M : Mem) (z : Unit × Mem) => Lay M → VV Lay k_X1_throwTree 8 [(0, .ref 67), (1, .int x1), (2, .int a)] [] M z.2 (Qv (none) z.2) xF) (fun k hk a M z h hP => b_X1_throwTree_8b  (fun a M z hP h => hk a M z h hP) hP h) n
theorem b_X1_throwTree {x1 : Int32} {M z} (hP : Lay M) (h : d_X1_throwTree x1 M = some z) : VV Lay k_X1_throwTree 0 [(0, .ref 67), (1, .int x1)] [] M z.2 (Qv (none) z.2) xF := by
  unfold d_X1_throwTree at h
  refine Y_iload_n (pc := 0) (j := 1) dX1_throwTree_0 rfl rfl ?_
  refine Y_iconst (pc := 1) (v := (-1 : Int32)) dX1_throwTree_1 rfl ?_
  refine Y_icmp_ne (pc := 2) (tgt := 6) dX1_throwTree_2 (by decide) (fun hc1 => ?_) (fun hc1 => ?_)
  · replace h := ifF hc1 h
    refine Y_iconst (pc := 6) (v := (0 : Int32)) dX1_throwTree_6 rfl ?_
    refine Y_istore_n (pc := 7) (lv1 := [(2, .int (0 : Int32)), (0, .ref 67), (1, .int x1)]) dX1_throwTree_7 rfl (by decide) rfl ?_
    refine VV.sub [1, 2, 0] rfl ?_
    exact b_X1_throwTree_8  fuel _ _ _ h hP
  · replace h := ifT hc1 h
    cases h
    exact Y_vret (pc := 5) rfl dX1_throwTree_5 hP ⟨rfl, rfl⟩
theorem v_X1_throwTree {x1 : Int32} {M z} (hP : Lay M) (h : d_X1_throwTree x1 M = some z) : CC Lay k_X1_throwTree [.ref 67, .int x1] M z.2 (Qv (none) z.2) xF :=
  CC.ofVV (by decide) rfl (Nat.le_of_ble_eq_true rfl) (b_X1_throwTree hP h)
theorem b_X1_shrink_2b {k2 : (Int32) → Mem → Option (Int32 × Mem)} {x1 : Int32} {M z} (hk2 : ∀ (a : (Int32)) (M : Mem) (z : Int32 × Mem), Lay M → k2 a M = some z → VV Lay k_X1_shrink 2 [(0, .ref 67), (1, .int a)] [] M z.2 (Qv (some (.int z.1)) z.2) xF) (hP : Lay M) (h : d_X1_shrink_2b k2 x1 M = some z) : VV Lay k_X1_shrink 2 [(0, .ref 67), (1, .int x1)] [] M z.2 (Qv (some (.int z.1)) z.2) xF := by
  unfold d_X1_shrink_2b at h
  refine Y_iload_n (pc := 2) (j := 1) dX1_shrink_2 rfl rfl ?_
  refine Y_bipush (pc := 3) (v := (20 : Int32)) dX1_shrink_3 rfl ?_
  refine Y_icmp_ge (pc := 5) (tgt := 34) dX1_shrink_5 (by decide) (fun hc1 => ?_) (fun hc1 => ?_)
  · replace h := ifT hc1 h
    refine Y_iload_n (pc := 34) (j := 1) dX1_shrink_34 rfl rfl ?_
    cases h
    exact Y_iret (pc := 35) rfl rfl dX1_shrink_35 hP ⟨rfl, rfl⟩
  · replace h := ifF hc1 h
    refine Y_aload_n (pc := 8) (j := 0) dX1_shrink_8 rfl rfl ?_
    obtain ⟨y1, qy1, h⟩ := bindE h
    have cy1 := v_X1_size hP qy1
    refine C_V0r (pc := 9) (k' := k_X1_size) dX1_shrink_9 w5_14 i_X1_size (lk_67 hP) ⟨Nat.le_of_ble_eq_true rfl, Nat.le_of_ble_eq_true rfl⟩ rfl (Nat.le_of_ble_eq_true rfl) (Nat.le_of_ble_eq_true rfl) (Nat.le_of_ble_eq_true rfl) (cy1) ?_
    have hPy1 := cy1.1.1
    refine Y_aload_n (pc := 12) (j := 0) dX1_shrink_12 rfl rfl ?_
    refine Z_geti (pc := 13) dX1_shrink_13 w2_229 (lk_67 hPy1) fi_2_4 ?_
    refine Y_icmp_le (pc := 16) (tgt := 34) dX1_shrink_16 (by decide) (fun hc2 => ?_) (fun hc2 => ?_)
    · replace h := ifT hc2 h
      refine Y_iload_n (pc := 34) (j := 1) dX1_shrink_34 rfl rfl ?_
      cases h
      exact Y_iret (pc := 35) rfl rfl dX1_shrink_35 hPy1 ⟨rfl, rfl⟩
    · replace h := ifF hc2 h
      refine Y_aload_n (pc := 19) (j := 0) dX1_shrink_19 rfl rfl ?_
      refine Y_aload_n (pc := 20) (j := 0) dX1_shrink_20 rfl rfl ?_
      refine Y_iconst (pc := 21) (v := (-1 : Int32)) dX1_shrink_21 rfl ?_
      obtain ⟨y2, qy2, h⟩ := bindE h
      have cy2 := v_X1_leastLatelyEntered hPy1 qy2
      refine C_V1r (pc := 22) (k' := k_X1_leastLatelyEntered) dX1_shrink_22 w5_15 i_X1_leastLatelyEntered (lk_67 hPy1) ⟨Nat.le_of_ble_eq_true rfl, Nat.le_of_ble_eq_true rfl⟩ rfl (Nat.le_of_ble_eq_true rfl) (Nat.le_of_ble_eq_true rfl) (Nat.le_of_ble_eq_true rfl) (cy2) ?_
      have hPy2 := cy2.1.1
      obtain ⟨y3, qy3, h⟩ := bindE h
      have cy3 := v_X1_throwTree hPy2 qy3
      refine C_V1o (pc := 25) (k' := k_X1_throwTree) dX1_shrink_25 w4_230 i_X1_throwTree (lk_67 hPy2) ⟨Nat.le_of_ble_eq_true rfl, Nat.le_of_ble_eq_true rfl⟩ rfl (Nat.le_of_ble_eq_true rfl) (Nat.le_of_ble_eq_true rfl) (Nat.le_of_ble_eq_true rfl) (cy3) ?_
      have hPy3 := cy3.1.1
      obtain ⟨b1, eb1, h⟩ := bndE h
      refine Y_iinc (pc := 28) (j := 1) (v := b1) (lv1 := [(1, .int b1), (0, .ref 67)]) dX1_shrink_28 rfl eb1.symm (by decide) rfl ?_
      refine Y_goto (pc := 31) (tgt := 2) dX1_shrink_31 (by decide) ?_
      refine VV.sub [1, 0] rfl ?_
      exact hk2 _ _ _ hPy3 h
theorem b_X1_shrink_2 (n : Nat) : ∀ (a : (Int32)) (M : Mem) (z : Int32 × Mem), d_X1_shrink_2 n a M = some z → Lay M → VV Lay k_X1_shrink 2 [(0, .ref 67), (1, .int a)] [] M z.2 (Qv (some (.int z.1)) z.2) xF :=
  lp_ind (G := fun (a : (Int32)) (M : Mem) (z : Int32 × Mem) => Lay M → VV Lay k_X1_shrink 2 [(0, .ref 67), (1, .int a)] [] M z.2 (Qv (some (.int z.1)) z.2) xF) (fun k hk a M z h hP => b_X1_shrink_2b  (fun a M z hP h => hk a M z h hP) hP h) n
theorem b_X1_shrink {M z} (hP : Lay M) (h : d_X1_shrink M = some z) : VV Lay k_X1_shrink 0 [(0, .ref 67)] [] M z.2 (Qv (some (.int z.1)) z.2) xF := by
  unfold d_X1_shrink at h
  refine Y_iconst (pc := 0) (v := (0 : Int32)) dX1_shrink_0 rfl ?_
  refine Y_istore_n (pc := 1) (lv1 := [(1, .int (0 : Int32)), (0, .ref 67)]) dX1_shrink_1 rfl (by decide) rfl ?_
  refine VV.sub [1, 0] rfl ?_
  exact b_X1_shrink_2  fuel _ _ _ h hP
theorem v_X1_shrink {M z} (hP : Lay M) (h : d_X1_shrink M = some z) : CC Lay k_X1_shrink [.ref 67] M z.2 (Qv (some (.int z.1)) z.2) xF :=
  CC.ofVV (by decide) rfl (Nat.le_of_ble_eq_true rfl) (b_X1_shrink hP h)
theorem b_X1_makeRoom_36 {x1 : Int32} {M z} (hP : Lay M) (h : d_X1_makeRoom_36 x1 M = some z) : VV Lay k_X1_makeRoom 36 [(0, .ref 67), (1, .int x1)] [] M z.2 (Qv (some (.int z.1)) z.2) xF := by
  unfold d_X1_makeRoom_36 at h
  refine Y_aload_n (pc := 36) (j := 0) dX1_makeRoom_36 rfl rfl ?_
  obtain ⟨y1, qy1, h⟩ := bindE h
  have cy1 := v_X1_size hP qy1
  refine C_V0r (pc := 37) (k' := k_X1_size) dX1_makeRoom_37 w5_14 i_X1_size (lk_67 hP) ⟨Nat.le_of_ble_eq_true rfl, Nat.le_of_ble_eq_true rfl⟩ rfl (Nat.le_of_ble_eq_true rfl) (Nat.le_of_ble_eq_true rfl) (Nat.le_of_ble_eq_true rfl) (cy1) ?_
  have hPy1 := cy1.1.1
  refine Y_iload_n (pc := 40) (j := 1) dX1_makeRoom_40 rfl rfl ?_
  refine Y_iadd (pc := 41) dX1_makeRoom_41 ?_
  refine Y_aload_n (pc := 42) (j := 0) dX1_makeRoom_42 rfl rfl ?_
  refine Z_geti (pc := 43) dX1_makeRoom_43 w2_229 (lk_67 hPy1) fi_2_4 ?_
  refine Y_icmp_gt (pc := 46) (tgt := 53) dX1_makeRoom_46 (by decide) (fun hc1 => ?_) (fun hc1 => ?_)
  · replace h := ifT hc1 h
    refine Y_iconst (pc := 53) (v := (0 : Int32)) dX1_makeRoom_53 rfl ?_
    cases h
    exact Y_iret (pc := 54) rfl (nar_bo (by decide)) dX1_makeRoom_54 hPy1 ⟨rfl, rfl⟩
  · replace h := ifF hc1 h
    refine Y_iconst (pc := 49) (v := (1 : Int32)) dX1_makeRoom_49 rfl ?_
    refine Y_goto (pc := 50) (tgt := 54) dX1_makeRoom_50 (by decide) ?_
    cases h
    exact Y_iret (pc := 54) rfl (nar_bo (by decide)) dX1_makeRoom_54 hPy1 ⟨rfl, rfl⟩
theorem b_X1_makeRoom_2b {k2 : (Int32) → Mem → Option (Int32 × Mem)} {x1 : Int32} {x2 : Int32} {x3 : Int32} {M z} (hk2 : ∀ (a : (Int32)) (M : Mem) (z : Int32 × Mem), Lay M → k2 a M = some z → VV Lay k_X1_makeRoom 2 [(0, .ref 67), (1, .int x1), (2, .int x2), (3, .int a)] [] M z.2 (Qv (some (.int z.1)) z.2) xF) (hP : Lay M) (h : d_X1_makeRoom_2b k2 x1 x2 x3 M = some z) : VV Lay k_X1_makeRoom 2 [(0, .ref 67), (1, .int x1), (2, .int x2), (3, .int x3)] [] M z.2 (Qv (some (.int z.1)) z.2) xF := by
  unfold d_X1_makeRoom_2b at h
  refine Y_iload_n (pc := 2) (j := 3) dX1_makeRoom_2 rfl rfl ?_
  refine Y_bipush (pc := 3) (v := (20 : Int32)) dX1_makeRoom_3 rfl ?_
  refine Y_icmp_ge (pc := 5) (tgt := 36) dX1_makeRoom_5 (by decide) (fun hc1 => ?_) (fun hc1 => ?_)
  · replace h := ifT hc1 h
    refine VV.sub [0, 1] rfl ?_
    exact b_X1_makeRoom_36  hP h
  · replace h := ifF hc1 h
    refine Y_aload_n (pc := 8) (j := 0) dX1_makeRoom_8 rfl rfl ?_
    obtain ⟨y1, qy1, h⟩ := bindE h
    have cy1 := v_X1_size hP qy1
    refine C_V0r (pc := 9) (k' := k_X1_size) dX1_makeRoom_9 w5_14 i_X1_size (lk_67 hP) ⟨Nat.le_of_ble_eq_true rfl, Nat.le_of_ble_eq_true rfl⟩ rfl (Nat.le_of_ble_eq_true rfl) (Nat.le_of_ble_eq_true rfl) (Nat.le_of_ble_eq_true rfl) (cy1) ?_
    have hPy1 := cy1.1.1
    refine Y_iload_n (pc := 12) (j := 1) dX1_makeRoom_12 rfl rfl ?_
    refine Y_iadd (pc := 13) dX1_makeRoom_13 ?_
    refine Y_aload_n (pc := 14) (j := 0) dX1_makeRoom_14 rfl rfl ?_
    refine Z_geti (pc := 15) dX1_makeRoom_15 w2_229 (lk_67 hPy1) fi_2_4 ?_
    refine Y_icmp_le (pc := 18) (tgt := 36) dX1_makeRoom_18 (by decide) (fun hc2 => ?_) (fun hc2 => ?_)
    · replace h := ifT hc2 h
      refine VV.sub [0, 1] rfl ?_
      exact b_X1_makeRoom_36  hPy1 h
    · replace h := ifF hc2 h
      refine Y_aload_n (pc := 21) (j := 0) dX1_makeRoom_21 rfl rfl ?_
      refine Y_aload_n (pc := 22) (j := 0) dX1_makeRoom_22 rfl rfl ?_
      refine Y_iload_n (pc := 23) (j := 2) dX1_makeRoom_23 rfl rfl ?_
      obtain ⟨y2, qy2, h⟩ := bindE h
      have cy2 := v_X1_leastLatelyEntered hPy1 qy2
      refine C_V1r (pc := 24) (k' := k_X1_leastLatelyEntered) dX1_makeRoom_24 w5_15 i_X1_leastLatelyEntered (lk_67 hPy1) ⟨Nat.le_of_ble_eq_true rfl, Nat.le_of_ble_eq_true rfl⟩ rfl (Nat.le_of_ble_eq_true rfl) (Nat.le_of_ble_eq_true rfl) (Nat.le_of_ble_eq_true rfl) (cy2) ?_
      have hPy2 := cy2.1.1
      obtain ⟨y3, qy3, h⟩ := bindE h
      have cy3 := v_X1_throwTree hPy2 qy3
      refine C_V1o (pc := 27) (k' := k_X1_throwTree) dX1_makeRoom_27 w4_230 i_X1_throwTree (lk_67 hPy2) ⟨Nat.le_of_ble_eq_true rfl, Nat.le_of_ble_eq_true rfl⟩ rfl (Nat.le_of_ble_eq_true rfl) (Nat.le_of_ble_eq_true rfl) (Nat.le_of_ble_eq_true rfl) (cy3) ?_
      have hPy3 := cy3.1.1
      obtain ⟨b1, eb1, h⟩ := bndE h
      refine Y_iinc (pc := 30) (j := 3) (v := b1) (lv1 := [(3, .int b1), (0, .ref 67), (1, .int x1), (2, .int x2)]) dX1_makeRoom_30 rfl eb1.symm (by decide) rfl ?_
      refine Y_goto (pc := 33) (tgt := 2) dX1_makeRoom_33 (by decide) ?_
      refine VV.sub [1, 2, 3, 0] rfl ?_
      exact hk2 _ _ _ hPy3 h
theorem b_X1_makeRoom_2 {x1 : Int32} {x2 : Int32} (n : Nat) : ∀ (a : (Int32)) (M : Mem) (z : Int32 × Mem), d_X1_makeRoom_2 x1 x2 n a M = some z → Lay M → VV Lay k_X1_makeRoom 2 [(0, .ref 67), (1, .int x1), (2, .int x2), (3, .int a)] [] M z.2 (Qv (some (.int z.1)) z.2) xF :=
  lp_ind (G := fun (a : (Int32)) (M : Mem) (z : Int32 × Mem) => Lay M → VV Lay k_X1_makeRoom 2 [(0, .ref 67), (1, .int x1), (2, .int x2), (3, .int a)] [] M z.2 (Qv (some (.int z.1)) z.2) xF) (fun k hk a M z h hP => b_X1_makeRoom_2b  (fun a M z hP h => hk a M z h hP) hP h) n
theorem b_X1_makeRoom {x1 : Int32} {x2 : Int32} {M z} (hP : Lay M) (h : d_X1_makeRoom x1 x2 M = some z) : VV Lay k_X1_makeRoom 0 [(0, .ref 67), (1, .int x1), (2, .int x2)] [] M z.2 (Qv (some (.int z.1)) z.2) xF := by
  unfold d_X1_makeRoom at h
  refine Y_iconst (pc := 0) (v := (0 : Int32)) dX1_makeRoom_0 rfl ?_
  refine Y_istore_n (pc := 1) (lv1 := [(3, .int (0 : Int32)), (0, .ref 67), (1, .int x1), (2, .int x2)]) dX1_makeRoom_1 rfl (by decide) rfl ?_
  refine VV.sub [1, 2, 3, 0] rfl ?_
  exact b_X1_makeRoom_2  fuel _ _ _ h hP
theorem v_X1_makeRoom {x1 : Int32} {x2 : Int32} {M z} (hP : Lay M) (h : d_X1_makeRoom x1 x2 M = some z) : CC Lay k_X1_makeRoom [.ref 67, .int x1, .int x2] M z.2 (Qv (some (.int z.1)) z.2) xF :=
  CC.ofVV (by decide) rfl (Nat.le_of_ble_eq_true rfl) (b_X1_makeRoom hP h)
theorem b_X11_siteOf {x0 : Int32} {x1 : Int32} {M z} (hP : Lay M) (h : d_X11_siteOf x0 x1 M = some z) : VV Lay k_X11_siteOf 0 [(0, .int x0), (1, .int x1)] [] M z.2 (Qv (some (.int z.1)) z.2) xF := by
  unfold d_X11_siteOf at h
  refine Y_iload_n (pc := 0) (j := 0) dX11_siteOf_0 rfl rfl ?_
  refine Y_bipush (pc := 1) (v := (40 : Int32)) dX11_siteOf_1 rfl ?_
  refine Y_imul (pc := 3) dX11_siteOf_3 ?_
  refine Y_iload_n (pc := 4) (j := 1) dX11_siteOf_4 rfl rfl ?_
  refine Y_iadd (pc := 5) dX11_siteOf_5 ?_
  cases h
  exact Y_iret (pc := 6) rfl rfl dX11_siteOf_6 hP ⟨rfl, rfl⟩
theorem v_X11_siteOf {x0 : Int32} {x1 : Int32} {M z} (hP : Lay M) (h : d_X11_siteOf x0 x1 M = some z) : CC Lay k_X11_siteOf [.int x0, .int x1] M z.2 (Qv (some (.int z.1)) z.2) xF :=
  CC.ofVV (by decide) rfl (Nat.le_of_ble_eq_true rfl) (b_X11_siteOf hP h)
theorem b_X11_siteOfLine {x0 : Int32} {M z} (hP : Lay M) (h : d_X11_siteOfLine x0 M = some z) : VV Lay k_X11_siteOfLine 0 [(0, .int x0)] [] M z.2 (Qv (some (.int z.1)) z.2) xF := by
  unfold d_X11_siteOfLine at h
  refine Y_iload_n (pc := 0) (j := 0) dX11_siteOfLine_0 rfl rfl ?_
  refine Y_bipush (pc := 1) (v := (100 : Int32)) dX11_siteOfLine_1 rfl ?_
  refine Y_idiv (pc := 3) dX11_siteOfLine_3 (by decide) ?_
  refine Y_iload_n (pc := 4) (j := 0) dX11_siteOfLine_4 rfl rfl ?_
  refine Y_bipush (pc := 5) (v := (100 : Int32)) dX11_siteOfLine_5 rfl ?_
  refine Y_irem (pc := 7) dX11_siteOfLine_7 (by decide) ?_
  obtain ⟨y1, qy1, h⟩ := bindE h
  have cy1 := v_X11_siteOf hP qy1
  refine C_S2r (pc := 8) (k' := k_X11_siteOf) dX11_siteOfLine_8 w4_229 i_X11_siteOf (Nat.le_of_ble_eq_true rfl) (Nat.le_of_ble_eq_true rfl) (Nat.le_of_ble_eq_true rfl) (cy1) ?_
  have hPy1 := cy1.1.1
  cases h
  exact Y_iret (pc := 11) rfl rfl dX11_siteOfLine_11 hPy1 ⟨rfl, rfl⟩
theorem v_X11_siteOfLine {x0 : Int32} {M z} (hP : Lay M) (h : d_X11_siteOfLine x0 M = some z) : CC Lay k_X11_siteOfLine [.int x0] M z.2 (Qv (some (.int z.1)) z.2) xF :=
  CC.ofVV (by decide) rfl (Nat.le_of_ble_eq_true rfl) (b_X11_siteOfLine hP h)
theorem b_X1_hasStep_71 {k6 : (Int32 × Int32) → Mem → Option (Int32 × Mem)} {r1 : Nat} {x2 : Int32} {x3 : Int32} {x5 : Int32} {s0 : Int32} {M z} (hk6 : ∀ (a : (Int32 × Int32)) (M : Mem) (z : Int32 × Mem), Lay M → k6 a M = some z → VV Lay k_X1_hasStep 6 [(0, .ref 67), (1, .ref r1), (2, .int x2), (3, .int x3), (4, .int a.1), (5, .int a.2)] [] M z.2 (Qv (some (.int z.1)) z.2) xF) (hP : Lay M) (h : d_X1_hasStep_71 k6 r1 x2 x3 x5 s0 M = some z) : VV Lay k_X1_hasStep 71 [(0, .ref 67), (1, .ref r1), (2, .int x2), (3, .int x3), (5, .int x5)] [.int s0] M z.2 (Qv (some (.int z.1)) z.2) xF := by
  unfold d_X1_hasStep_71 at h
  refine Y_istore (pc := 71) (lv1 := [(4, .int s0), (0, .ref 67), (1, .ref r1), (2, .int x2), (3, .int x3), (5, .int x5)]) dX1_hasStep_71 (by decide) rfl ?_
  obtain ⟨b1, eb1, h⟩ := bndE h
  refine Y_iinc (pc := 73) (j := 5) (v := b1) (lv1 := [(5, .int b1), (4, .int s0), (0, .ref 67), (1, .ref r1), (2, .int x2), (3, .int x3)]) dX1_hasStep_73 rfl eb1.symm (by decide) rfl ?_
  refine Y_goto (pc := 76) (tgt := 6) dX1_hasStep_76 (by decide) ?_
  refine VV.sub [2, 3, 4, 5, 1, 0] rfl ?_
  exact hk6 _ _ _ hP h
theorem b_X1_hasStep_66 {k6 : (Int32 × Int32) → Mem → Option (Int32 × Mem)} {r1 : Nat} {x2 : Int32} {x3 : Int32} {x5 : Int32} {M z} (hk6 : ∀ (a : (Int32 × Int32)) (M : Mem) (z : Int32 × Mem), Lay M → k6 a M = some z → VV Lay k_X1_hasStep 6 [(0, .ref 67), (1, .ref r1), (2, .int x2), (3, .int x3), (4, .int a.1), (5, .int a.2)] [] M z.2 (Qv (some (.int z.1)) z.2) xF) (hP : Lay M) (h : d_X1_hasStep_66 k6 r1 x2 x3 x5 M = some z) : VV Lay k_X1_hasStep 66 [(0, .ref 67), (1, .ref r1), (2, .int x2), (3, .int x3), (5, .int x5)] [] M z.2 (Qv (some (.int z.1)) z.2) xF := by
  unfold d_X1_hasStep_66 at h
  refine Y_iconst (pc := 66) (v := (1 : Int32)) dX1_hasStep_66 rfl ?_
  refine Y_goto (pc := 67) (tgt := 71) dX1_hasStep_67 (by decide) ?_
  refine VV.sub [0, 1, 2, 3, 4] rfl ?_
  exact b_X1_hasStep_71 hk6 hP h
theorem b_X1_hasStep_70 {k6 : (Int32 × Int32) → Mem → Option (Int32 × Mem)} {r1 : Nat} {x2 : Int32} {x3 : Int32} {x5 : Int32} {M z} (hk6 : ∀ (a : (Int32 × Int32)) (M : Mem) (z : Int32 × Mem), Lay M → k6 a M = some z → VV Lay k_X1_hasStep 6 [(0, .ref 67), (1, .ref r1), (2, .int x2), (3, .int x3), (4, .int a.1), (5, .int a.2)] [] M z.2 (Qv (some (.int z.1)) z.2) xF) (hP : Lay M) (h : d_X1_hasStep_70 k6 r1 x2 x3 x5 M = some z) : VV Lay k_X1_hasStep 70 [(0, .ref 67), (1, .ref r1), (2, .int x2), (3, .int x3), (5, .int x5)] [] M z.2 (Qv (some (.int z.1)) z.2) xF := by
  unfold d_X1_hasStep_70 at h
  refine Y_iconst (pc := 70) (v := (0 : Int32)) dX1_hasStep_70 rfl ?_
  refine VV.sub [0, 1, 2, 3, 4] rfl ?_
  exact b_X1_hasStep_71 hk6 hP h
theorem b_X1_hasStep_6b {k6 : (Int32 × Int32) → Mem → Option (Int32 × Mem)} {r1 : Nat} {x2 : Int32} {x3 : Int32} {x4 : Int32} {x5 : Int32} {M z} (hk6 : ∀ (a : (Int32 × Int32)) (M : Mem) (z : Int32 × Mem), Lay M → k6 a M = some z → VV Lay k_X1_hasStep 6 [(0, .ref 67), (1, .ref r1), (2, .int x2), (3, .int x3), (4, .int a.1), (5, .int a.2)] [] M z.2 (Qv (some (.int z.1)) z.2) xF) (hP : Lay M) (h : d_X1_hasStep_6b k6 r1 x2 x3 x4 x5 M = some z) : VV Lay k_X1_hasStep 6 [(0, .ref 67), (1, .ref r1), (2, .int x2), (3, .int x3), (4, .int x4), (5, .int x5)] [] M z.2 (Qv (some (.int z.1)) z.2) xF := by
  unfold d_X1_hasStep_6b at h
  refine Y_iload (pc := 6) (j := 5) dX1_hasStep_6 rfl ?_
  refine Y_aload_n (pc := 8) (j := 1) dX1_hasStep_8 rfl rfl ?_
  obtain ⟨hb1, h⟩ := okE h
  refine Z_geti (pc := 9) dX1_hasStep_9 w2_135 hb1 fi_9_0 ?_
  refine Y_icmp_ge (pc := 12) (tgt := 79) dX1_hasStep_12 (by decide) (fun hc1 => ?_) (fun hc1 => ?_)
  · replace h := ifT hc1 h
    refine Y_iload (pc := 79) (j := 4) dX1_hasStep_79 rfl ?_
    obtain ⟨hb2, h⟩ := okE h
    cases h
    exact Y_iret (pc := 81) rfl (nar_bo hb2) dX1_hasStep_81 hP ⟨rfl, rfl⟩
  · replace h := ifF hc1 h
    refine Y_aload_n (pc := 15) (j := 1) dX1_hasStep_15 rfl rfl ?_
    obtain ⟨hb3, h⟩ := okE h
    obtain ⟨r_1, er_1, h⟩ := bindE h
    refine Z_getr (pc := 16) dX1_hasStep_16 w2_142 hb3 fr_9_2 er_1 ?_
    refine Y_iload (pc := 19) (j := 5) dX1_hasStep_19 rfl ?_
    obtain ⟨hb4, h⟩ := okE h
    obtain ⟨hb5, h⟩ := okE h
    refine Y_iald (pc := 21) dX1_hasStep_21 hb4 rfl hb5 ?_
    obtain ⟨y1, qy1, h⟩ := bindE h
    have cy1 := v_X11_siteOfLine hP qy1
    refine C_N1r (pc := 22) (k' := k_X11_siteOfLine) dX1_hasStep_22 nl_Forest_68 i_X11_siteOfLine (Nat.le_of_ble_eq_true rfl) (Nat.le_of_ble_eq_true rfl) (Nat.le_of_ble_eq_true rfl) (cy1) ?_
    have hPy1 := cy1.1.1
    refine Y_istore (pc := 25) (lv1 := [(6, .int y1.1), (0, .ref 67), (1, .ref r1), (2, .int x2), (3, .int x3), (4, .int x4), (5, .int x5)]) dX1_hasStep_25 (by decide) rfl ?_
    refine Y_iload (pc := 27) (j := 5) dX1_hasStep_27 rfl ?_
    refine Y_if_ne (pc := 29) (tgt := 66) dX1_hasStep_29 (by decide) (fun hc2 => ?_) (fun hc2 => ?_)
    · replace h := ifF hc2 h
      refine VV.sub [1, 2, 3, 4, 6] rfl ?_
      exact b_X1_hasStep_66 hk6 hPy1 h
    · replace h := ifT hc2 h
      refine Y_aload_n (pc := 32) (j := 1) dX1_hasStep_32 rfl rfl ?_
      refine Z_getr (pc := 33) dX1_hasStep_33 w2_221 (lk_67 hPy1) fr_2_0 (lr_67_0 hPy1) ?_
      refine Z_getr (pc := 36) dX1_hasStep_36 w1_63 (lk_2 hPy1) fr_5_3 (lr_2_3 hPy1) ?_
      refine Y_iload (pc := 39) (j := 0) dX1_hasStep_39 rfl ?_
      obtain ⟨hb6, h⟩ := okE h
      refine Y_cald (pc := 41) dX1_hasStep_41 (lk_6 hPy1) (ln_6 hPy1) hb6 ?_
      refine Y_iload_n (pc := 42) (j := 3) dX1_hasStep_42 rfl rfl ?_
      refine Y_icmp_ne (pc := 43) (tgt := 70) dX1_hasStep_43 (by decide) (fun hc3 => ?_) (fun hc3 => ?_)
      · replace h := ifF hc3 h
        refine VV.sub [1, 2, 3, 4, 6] rfl ?_
        exact b_X1_hasStep_70 hk6 hPy1 h
      · replace h := ifT hc3 h
        refine Y_iload_n (pc := 46) (j := 3) dX1_hasStep_46 rfl rfl ?_
        refine Y_bipush (pc := 47) (v := (109 : Int32)) dX1_hasStep_47 rfl ?_
        refine Y_icmp_eq (pc := 49) (tgt := 66) dX1_hasStep_49 (by decide) (fun hc4 => ?_) (fun hc4 => ?_)
        · replace h := ifT hc4 h
          refine VV.sub [1, 2, 3, 4, 6] rfl ?_
          exact b_X1_hasStep_66 hk6 hPy1 h
        · replace h := ifF hc4 h
          refine Y_aload_n (pc := 52) (j := 1) dX1_hasStep_52 rfl rfl ?_
          refine Z_getr (pc := 53) dX1_hasStep_53 w2_221 (lk_67 hPy1) fr_2_0 (lr_67_0 hPy1) ?_
          refine Z_getr (pc := 56) dX1_hasStep_56 w1_67 (lk_2 hPy1) fr_5_4 (lr_2_4 hPy1) ?_
          refine Y_iload (pc := 59) (j := 0) dX1_hasStep_59 rfl ?_
          obtain ⟨hb7, h⟩ := okE h
          refine Y_iald (pc := 61) dX1_hasStep_61 (lk_7 hPy1) (ln_7 hPy1) hb7 ?_
          refine Y_iload_n (pc := 62) (j := 4) dX1_hasStep_62 rfl rfl ?_
          refine Y_icmp_ne (pc := 63) (tgt := 70) dX1_hasStep_63 (by decide) (fun hc5 => ?_) (fun hc5 => ?_)
          · replace h := ifF hc5 h
            refine VV.sub [1, 2, 3, 4, 6] rfl ?_
            exact b_X1_hasStep_70 hk6 hPy1 h
          · replace h := ifT hc5 h
            refine VV.sub [1, 2, 3, 4, 6] rfl ?_
            exact b_X1_hasStep_66 hk6 hPy1 h
theorem b_X1_hasStep_6 {r1 : Nat} {x2 : Int32} {x3 : Int32} (n : Nat) : ∀ (a : (Int32 × Int32)) (M : Mem) (z : Int32 × Mem), d_X1_hasStep_6 r1 x2 x3 n a M = some z → Lay M → VV Lay k_X1_hasStep 6 [(0, .ref 67), (1, .ref r1), (2, .int x2), (3, .int x3), (4, .int a.1), (5, .int a.2)] [] M z.2 (Qv (some (.int z.1)) z.2) xF :=
  lp_ind (G := fun (a : (Int32 × Int32)) (M : Mem) (z : Int32 × Mem) => Lay M → VV Lay k_X1_hasStep 6 [(0, .ref 67), (1, .ref r1), (2, .int x2), (3, .int x3), (4, .int a.1), (5, .int a.2)] [] M z.2 (Qv (some (.int z.1)) z.2) xF) (fun k hk a M z h hP => b_X1_hasStep_6b  (fun a M z hP h => hk a M z h hP) hP h) n
theorem b_X1_hasStep {r1 : Nat} {x2 : Int32} {x3 : Int32} {M z} (hP : Lay M) (h : d_X1_hasStep r1 x2 x3 M = some z) : VV Lay k_X1_hasStep 0 [(0, .ref 67), (1, .ref r1), (2, .int x2), (3, .int x3)] [] M z.2 (Qv (some (.int z.1)) z.2) xF := by
  unfold d_X1_hasStep at h
  refine Y_iconst (pc := 0) (v := (0 : Int32)) dX1_hasStep_0 rfl ?_
  refine Y_istore (pc := 1) (lv1 := [(4, .int (0 : Int32)), (0, .ref 67), (1, .ref r1), (2, .int x2), (3, .int x3)]) dX1_hasStep_1 (by decide) rfl ?_
  refine Y_iconst (pc := 3) (v := (0 : Int32)) dX1_hasStep_3 rfl ?_
  refine Y_istore (pc := 4) (lv1 := [(5, .int (0 : Int32)), (4, .int (0 : Int32)), (0, .ref 67), (1, .ref r1), (2, .int x2), (3, .int x3)]) dX1_hasStep_4 (by decide) rfl ?_
  refine VV.sub [2, 3, 4, 5, 1, 0] rfl ?_
  exact b_X1_hasStep_6  fuel _ _ _ h hP
theorem v_X1_hasStep {r1 : Nat} {x2 : Int32} {x3 : Int32} {M z} (hP : Lay M) (h : d_X1_hasStep r1 x2 x3 M = some z) : CC Lay k_X1_hasStep [.ref 67, .ref r1, .int x2, .int x3] M z.2 (Qv (some (.int z.1)) z.2) xF :=
  CC.ofVV (by decide) rfl (Nat.le_of_ble_eq_true rfl) (b_X1_hasStep hP h)
theorem b_X1_throwThoseWith_60 {k5 : (Int32 × Int32) → Mem → Option (Int32 × Mem)} {x1 : Int32} {x2 : Int32} {x3 : Int32} {x4 : Int32} {M z} (hk5 : ∀ (a : (Int32 × Int32)) (M : Mem) (z : Int32 × Mem), Lay M → k5 a M = some z → VV Lay k_X1_throwThoseWith 5 [(0, .ref 67), (1, .int x1), (2, .int x2), (3, .int a.1), (4, .int a.2)] [] M z.2 (Qv (some (.int z.1)) z.2) xF) (hP : Lay M) (h : d_X1_throwThoseWith_60 k5 x1 x2 x3 x4 M = some z) : VV Lay k_X1_throwThoseWith 60 [(0, .ref 67), (1, .int x1), (2, .int x2), (3, .int x3), (4, .int x4)] [] M z.2 (Qv (some (.int z.1)) z.2) xF := by
  unfold d_X1_throwThoseWith_60 at h
  obtain ⟨b1, eb1, h⟩ := bndE h
  refine Y_iinc (pc := 60) (j := 4) (v := b1) (lv1 := [(4, .int b1), (0, .ref 67), (1, .int x1), (2, .int x2), (3, .int x3)]) dX1_throwThoseWith_60 rfl eb1.symm (by decide) rfl ?_
  refine Y_goto (pc := 63) (tgt := 5) dX1_throwThoseWith_63 (by decide) ?_
  refine VV.sub [1, 2, 3, 4, 0] rfl ?_
  exact hk5 _ _ _ hP h
theorem b_X1_throwThoseWith_5b {k5 : (Int32 × Int32) → Mem → Option (Int32 × Mem)} {x1 : Int32} {x2 : Int32} {x3 : Int32} {x4 : Int32} {M z} (hk5 : ∀ (a : (Int32 × Int32)) (M : Mem) (z : Int32 × Mem), Lay M → k5 a M = some z → VV Lay k_X1_throwThoseWith 5 [(0, .ref 67), (1, .int x1), (2, .int x2), (3, .int a.1), (4, .int a.2)] [] M z.2 (Qv (some (.int z.1)) z.2) xF) (hP : Lay M) (h : d_X1_throwThoseWith_5b k5 x1 x2 x3 x4 M = some z) : VV Lay k_X1_throwThoseWith 5 [(0, .ref 67), (1, .int x1), (2, .int x2), (3, .int x3), (4, .int x4)] [] M z.2 (Qv (some (.int z.1)) z.2) xF := by
  unfold d_X1_throwThoseWith_5b at h
  refine Y_iload (pc := 5) (j := 4) dX1_throwThoseWith_5 rfl ?_
  refine Y_aload_n (pc := 7) (j := 0) dX1_throwThoseWith_7 rfl rfl ?_
  refine Z_geti (pc := 8) dX1_throwThoseWith_8 w2_226 (lk_67 hP) fi_2_3 ?_
  refine Y_icmp_ge (pc := 11) (tgt := 66) dX1_throwThoseWith_11 (by decide) (fun hc1 => ?_) (fun hc1 => ?_)
  · replace h := ifT hc1 h
    refine Y_iload_n (pc := 66) (j := 3) dX1_throwThoseWith_66 rfl rfl ?_
    cases h
    exact Y_iret (pc := 67) rfl rfl dX1_throwThoseWith_67 hP ⟨rfl, rfl⟩
  · replace h := ifF hc1 h
    refine Y_aload_n (pc := 14) (j := 0) dX1_throwThoseWith_14 rfl rfl ?_
    refine Z_getr (pc := 15) dX1_throwThoseWith_15 w2_223 (lk_67 hP) fr_2_2 (lr_67_2 hP) ?_
    refine Y_iload (pc := 18) (j := 4) dX1_throwThoseWith_18 rfl ?_
    obtain ⟨hb1, h⟩ := okE h
    obtain ⟨r_1, er_1, h⟩ := bindE h
    refine Y_aald (pc := 20) dX1_throwThoseWith_20 (lk_68 hP) (ln_68 hP) hb1 er_1 ?_
    obtain ⟨hb2, h⟩ := okE h
    refine Z_geti (pc := 21) dX1_throwThoseWith_21 w2_172 hb2 fi_9_14 ?_
    refine Y_if_eq (pc := 24) (tgt := 60) dX1_throwThoseWith_24 (by decide) (fun hc2 => ?_) (fun hc2 => ?_)
    · replace h := ifT hc2 h
      refine VV.sub [0, 1, 2, 3, 4] rfl ?_
      exact b_X1_throwThoseWith_60 hk5 hP h
    · replace h := ifF hc2 h
      refine Y_aload_n (pc := 27) (j := 0) dX1_throwThoseWith_27 rfl rfl ?_
      refine Y_aload_n (pc := 28) (j := 0) dX1_throwThoseWith_28 rfl rfl ?_
      refine Z_getr (pc := 29) dX1_throwThoseWith_29 w2_223 (lk_67 hP) fr_2_2 (lr_67_2 hP) ?_
      refine Y_iload (pc := 32) (j := 4) dX1_throwThoseWith_32 rfl ?_
      obtain ⟨hb3, h⟩ := okE h
      obtain ⟨r_2, er_2, h⟩ := bindE h
      refine Y_aald (pc := 34) dX1_throwThoseWith_34 (lk_68 hP) (ln_68 hP) hb3 er_2 ?_
      refine Y_iload_n (pc := 35) (j := 1) dX1_throwThoseWith_35 rfl rfl ?_
      refine Y_iload_n (pc := 36) (j := 2) dX1_throwThoseWith_36 rfl rfl ?_
      obtain ⟨y1, qy1, h⟩ := bindE h
      have cy1 := v_X1_hasStep hP qy1
      refine C_V3r (pc := 37) (k' := k_X1_hasStep) dX1_throwThoseWith_37 w4_222 i_X1_hasStep (lk_67 hP) ⟨Nat.le_of_ble_eq_true rfl, Nat.le_of_ble_eq_true rfl⟩ rfl (Nat.le_of_ble_eq_true rfl) (Nat.le_of_ble_eq_true rfl) (Nat.le_of_ble_eq_true rfl) (cy1) ?_
      have hPy1 := cy1.1.1
      refine Y_if_eq (pc := 40) (tgt := 60) dX1_throwThoseWith_40 (by decide) (fun hc3 => ?_) (fun hc3 => ?_)
      · replace h := ifT hc3 h
        refine VV.sub [0, 1, 2, 3, 4] rfl ?_
        exact b_X1_throwThoseWith_60 hk5 hPy1 h
      · replace h := ifF hc3 h
        refine Y_aload_n (pc := 43) (j := 0) dX1_throwThoseWith_43 rfl rfl ?_
        refine Y_aload_n (pc := 44) (j := 0) dX1_throwThoseWith_44 rfl rfl ?_
        refine Z_getr (pc := 45) dX1_throwThoseWith_45 w2_223 (lk_67 hPy1) fr_2_2 (lr_67_2 hPy1) ?_
        refine Y_iload (pc := 48) (j := 4) dX1_throwThoseWith_48 rfl ?_
        obtain ⟨hb4, h⟩ := okE h
        obtain ⟨r_3, er_3, h⟩ := bindE h
        refine Y_aald (pc := 50) dX1_throwThoseWith_50 (lk_68 hPy1) (ln_68 hPy1) hb4 er_3 ?_
        obtain ⟨hb5, h⟩ := okE h
        refine Z_geti (pc := 51) dX1_throwThoseWith_51 w2_166 hb5 fi_9_12 ?_
        obtain ⟨y2, qy2, h⟩ := bindE h
        have cy2 := v_X1_throwTree hPy1 qy2
        refine C_V1o (pc := 54) (k' := k_X1_throwTree) dX1_throwThoseWith_54 w4_230 i_X1_throwTree (lk_67 hPy1) ⟨Nat.le_of_ble_eq_true rfl, Nat.le_of_ble_eq_true rfl⟩ rfl (Nat.le_of_ble_eq_true rfl) (Nat.le_of_ble_eq_true rfl) (Nat.le_of_ble_eq_true rfl) (cy2) ?_
        have hPy2 := cy2.1.1
        obtain ⟨b1, eb1, h⟩ := bndE h
        refine Y_iinc (pc := 57) (j := 3) (v := b1) (lv1 := [(3, .int b1), (0, .ref 67), (1, .int x1), (2, .int x2), (4, .int x4)]) dX1_throwThoseWith_57 rfl eb1.symm (by decide) rfl ?_
        refine VV.sub [1, 2, 3, 0, 4] rfl ?_
        exact b_X1_throwThoseWith_60 hk5 hPy2 h
theorem b_X1_throwThoseWith_5 {x1 : Int32} {x2 : Int32} (n : Nat) : ∀ (a : (Int32 × Int32)) (M : Mem) (z : Int32 × Mem), d_X1_throwThoseWith_5 x1 x2 n a M = some z → Lay M → VV Lay k_X1_throwThoseWith 5 [(0, .ref 67), (1, .int x1), (2, .int x2), (3, .int a.1), (4, .int a.2)] [] M z.2 (Qv (some (.int z.1)) z.2) xF :=
  lp_ind (G := fun (a : (Int32 × Int32)) (M : Mem) (z : Int32 × Mem) => Lay M → VV Lay k_X1_throwThoseWith 5 [(0, .ref 67), (1, .int x1), (2, .int x2), (3, .int a.1), (4, .int a.2)] [] M z.2 (Qv (some (.int z.1)) z.2) xF) (fun k hk a M z h hP => b_X1_throwThoseWith_5b  (fun a M z hP h => hk a M z h hP) hP h) n
theorem b_X1_throwThoseWith {x1 : Int32} {x2 : Int32} {M z} (hP : Lay M) (h : d_X1_throwThoseWith x1 x2 M = some z) : VV Lay k_X1_throwThoseWith 0 [(0, .ref 67), (1, .int x1), (2, .int x2)] [] M z.2 (Qv (some (.int z.1)) z.2) xF := by
  unfold d_X1_throwThoseWith at h
  refine Y_iconst (pc := 0) (v := (0 : Int32)) dX1_throwThoseWith_0 rfl ?_
  refine Y_istore_n (pc := 1) (lv1 := [(3, .int (0 : Int32)), (0, .ref 67), (1, .int x1), (2, .int x2)]) dX1_throwThoseWith_1 rfl (by decide) rfl ?_
  refine Y_iconst (pc := 2) (v := (0 : Int32)) dX1_throwThoseWith_2 rfl ?_
  refine Y_istore (pc := 3) (lv1 := [(4, .int (0 : Int32)), (3, .int (0 : Int32)), (0, .ref 67), (1, .int x1), (2, .int x2)]) dX1_throwThoseWith_3 (by decide) rfl ?_
  refine VV.sub [2, 3, 4, 1, 0] rfl ?_
  exact b_X1_throwThoseWith_5  fuel _ _ _ h hP
theorem v_X1_throwThoseWith {x1 : Int32} {x2 : Int32} {M z} (hP : Lay M) (h : d_X1_throwThoseWith x1 x2 M = some z) : CC Lay k_X1_throwThoseWith [.ref 67, .int x1, .int x2] M z.2 (Qv (some (.int z.1)) z.2) xF :=
  CC.ofVV (by decide) rfl (Nat.le_of_ble_eq_true rfl) (b_X1_throwThoseWith hP h)
theorem b_J7_fill_53178_5b {M0 : Mem} {k5 : (Int32) → Mem → Option (Unit × Mem)} {r0 : Nat} {x1 : Int32} {x2 : Int32} {x3 : Int32} {M z} (hk5 : ∀ (a : (Int32)) (M : Mem) (z : Unit × Mem), (Kx (nx M0) M0) M → k5 a M = some z → VV (Kx (nx M0) M0) k_J7_fill_53178 5 [(0, .ref r0), (1, .int x1), (2, .int a), (3, .int x3)] [] M z.2 (Qv (none) z.2) xF) (hP : (Kx (nx M0) M0) M) (h : d_J7_fill_53178_5b k5 r0 x1 x2 x3 M = some z) : VV (Kx (nx M0) M0) k_J7_fill_53178 5 [(0, .ref r0), (1, .int x1), (2, .int x2), (3, .int x3)] [] M z.2 (Qv (none) z.2) xF := by
  unfold d_J7_fill_53178_5b at h
  refine Y_iload_n (pc := 5) (j := 2) dJ7_fill_53178_5 rfl rfl ?_
  refine Y_iload_n (pc := 6) (j := 3) dJ7_fill_53178_6 rfl rfl ?_
  refine Y_icmp_ge (pc := 7) (tgt := 20) dJ7_fill_53178_7 (by decide) (fun hc1 => ?_) (fun hc1 => ?_)
  · replace h := ifT hc1 h
    cases h
    exact Y_vret (pc := 20) rfl dJ7_fill_53178_20 hP ⟨rfl, rfl⟩
  · replace h := ifF hc1 h
    refine Y_aload_n (pc := 10) (j := 0) dJ7_fill_53178_10 rfl rfl ?_
    refine Y_iload_n (pc := 11) (j := 2) dJ7_fill_53178_11 rfl rfl ?_
    refine Y_iload_n (pc := 12) (j := 1) dJ7_fill_53178_12 rfl rfl ?_
    obtain ⟨hb1, h⟩ := okE h
    obtain ⟨hb2, h⟩ := okE h
    refine Y_iast (pc := 13) dJ7_fill_53178_13 hb1 rfl hb2 ?_
    obtain ⟨M1, eM1, h⟩ := bndE h
    refine VV.mem eM1 ?_
    have hP1 := hP.wI eM1
    obtain ⟨b1, eb1, h⟩ := bndE h
    refine Y_iinc (pc := 14) (j := 2) (v := b1) (lv1 := [(2, .int b1), (0, .ref r0), (1, .int x1), (3, .int x3)]) dJ7_fill_53178_14 rfl eb1.symm (by decide) rfl ?_
    refine Y_goto (pc := 17) (tgt := 5) dJ7_fill_53178_17 (by decide) ?_
    refine VV.sub [1, 2, 0, 3] rfl ?_
    exact hk5 _ _ _ hP1 h
theorem b_J7_fill_53178_5 {M0 : Mem} {r0 : Nat} {x1 : Int32} {x3 : Int32} (n : Nat) : ∀ (a : (Int32)) (M : Mem) (z : Unit × Mem), d_J7_fill_53178_5 r0 x1 x3 n a M = some z → (Kx (nx M0) M0) M → VV (Kx (nx M0) M0) k_J7_fill_53178 5 [(0, .ref r0), (1, .int x1), (2, .int a), (3, .int x3)] [] M z.2 (Qv (none) z.2) xF :=
  lp_ind (G := fun (a : (Int32)) (M : Mem) (z : Unit × Mem) => (Kx (nx M0) M0) M → VV (Kx (nx M0) M0) k_J7_fill_53178 5 [(0, .ref r0), (1, .int x1), (2, .int a), (3, .int x3)] [] M z.2 (Qv (none) z.2) xF) (fun k hk a M z h hP => b_J7_fill_53178_5b  (fun a M z hP h => hk a M z h hP) hP h) n
theorem b_J7_fill_53178 {M0 : Mem} {r0 : Nat} {x1 : Int32} {M z} (hP : (Kx (nx M0) M0) M) (h : d_J7_fill_53178 r0 x1 M = some z) : VV (Kx (nx M0) M0) k_J7_fill_53178 0 [(0, .ref r0), (1, .int x1)] [] M z.2 (Qv (none) z.2) xF := by
  unfold d_J7_fill_53178 at h
  refine Y_iconst (pc := 0) (v := (0 : Int32)) dJ7_fill_53178_0 rfl ?_
  refine Y_istore_n (pc := 1) (lv1 := [(2, .int (0 : Int32)), (0, .ref r0), (1, .int x1)]) dJ7_fill_53178_1 rfl (by decide) rfl ?_
  refine Y_aload_n (pc := 2) (j := 1) dJ7_fill_53178_2 rfl rfl ?_
  obtain ⟨hb1, h⟩ := okE h
  refine Y_alen (pc := 3) dJ7_fill_53178_3 hb1 (by decide) ?_
  obtain ⟨b1, eb1, h⟩ := bndE h
  refine VV.topI eb1 ?_
  refine Y_istore_n (pc := 4) (lv1 := [(3, .int b1), (2, .int (0 : Int32)), (0, .ref r0), (1, .int x1)]) dJ7_fill_53178_4 rfl (by decide) rfl ?_
  refine VV.sub [2, 3, 1, 0] rfl ?_
  exact b_J7_fill_53178_5  fuel _ _ _ h hP
theorem v_J7_fill_53178 {r0 : Nat} {x1 : Int32} {M z} (hP : Fsh M) (h : d_J7_fill_53178 r0 x1 M = some z) : CC (Kx (nx M) M) k_J7_fill_53178 [.ref r0, .int x1] M z.2 (Qv (none) z.2) xF :=
  CC.ofVV (by decide) rfl (Nat.le_of_ble_eq_true rfl) (b_J7_fill_53178 (Kx.refl hP (Nat.le_refl _)) h)
theorem b_X2_init {M0 : Mem} {r0 : Nat} {M z} (hP : (Kx r0 M0) M) (h : d_X2_init r0 M = some z) : VV (Kx r0 M0) k_X2_init 0 [(0, .ref r0)] [] M z.2 (Qv (none) z.2) xF := by
  unfold d_X2_init at h
  refine Y_aload_n (pc := 0) (j := 0) dX2_init_0 rfl rfl ?_
  refine Y_oinit (pc := 1) dX2_init_1 w2_24 (Nat.le_of_ble_eq_true rfl) (Nat.le_of_ble_eq_true rfl) (Nat.le_of_ble_eq_true rfl) ?_
  refine Y_aload_n (pc := 4) (j := 0) dX2_init_4 rfl rfl ?_
  refine Y_sipush (pc := 5) (v := (320 : Int32)) dX2_init_5 rfl ?_
  obtain ⟨r_1, er_1, h⟩ := bndE h
  obtain ⟨hb1, h⟩ := okE h
  refine Y_newa (pc := 8) (a := r_1) (t := 21) (N := 320) dX2_init_8 (by decide) (by decide) rfl w1_100 (hP.free er_1) hb1 (by decide) rfl (by decide) ?_
  obtain ⟨M1, eM1, h⟩ := bndE h
  refine VV.mem eM1 ?_
  have hP1 := hP.wN er_1 (by decide) eM1
  obtain ⟨hb2, h⟩ := okE h
  refine Z_putr (pc := 10) dX2_init_10 w2_26 hb2 fr_3_0 (Or.inr ⟨rfl, rfl⟩) (Or.inr ⟨_, rfl⟩) ?_
  obtain ⟨M2, eM2, h⟩ := bndE h
  refine VV.mem eM2 ?_
  have hP2 := hP1.wR0 (by omega) eM2
  refine Y_aload_n (pc := 13) (j := 0) dX2_init_13 rfl rfl ?_
  refine Y_sipush (pc := 14) (v := (320 : Int32)) dX2_init_14 rfl ?_
  obtain ⟨r_2, er_2, h⟩ := bndE h
  obtain ⟨hb3, h⟩ := okE h
  refine Y_newa (pc := 17) (a := r_2) (t := 21) (N := 320) dX2_init_17 (by decide) (by decide) rfl w1_100 (hP2.free er_2) hb3 (by decide) rfl (by decide) ?_
  obtain ⟨M3, eM3, h⟩ := bndE h
  refine VV.mem eM3 ?_
  have hP3 := hP2.wN er_2 (by decide) eM3
  obtain ⟨hb4, h⟩ := okE h
  refine Z_putr (pc := 19) dX2_init_19 w2_30 hb4 fr_3_1 (Or.inr ⟨rfl, rfl⟩) (Or.inr ⟨_, rfl⟩) ?_
  obtain ⟨M4, eM4, h⟩ := bndE h
  refine VV.mem eM4 ?_
  have hP4 := hP3.wR0 (by omega) eM4
  refine Y_aload_n (pc := 22) (j := 0) dX2_init_22 rfl rfl ?_
  refine Y_sipush (pc := 23) (v := (320 : Int32)) dX2_init_23 rfl ?_
  obtain ⟨r_3, er_3, h⟩ := bndE h
  obtain ⟨hb5, h⟩ := okE h
  refine Y_newa (pc := 26) (a := r_3) (t := 21) (N := 320) dX2_init_26 (by decide) (by decide) rfl w1_100 (hP4.free er_3) hb5 (by decide) rfl (by decide) ?_
  obtain ⟨M5, eM5, h⟩ := bndE h
  refine VV.mem eM5 ?_
  have hP5 := hP4.wN er_3 (by decide) eM5
  obtain ⟨hb6, h⟩ := okE h
  refine Z_putr (pc := 28) dX2_init_28 w2_31 hb6 fr_3_2 (Or.inr ⟨rfl, rfl⟩) (Or.inr ⟨_, rfl⟩) ?_
  obtain ⟨M6, eM6, h⟩ := bndE h
  refine VV.mem eM6 ?_
  have hP6 := hP5.wR0 (by omega) eM6
  refine Y_aload_n (pc := 31) (j := 0) dX2_init_31 rfl rfl ?_
  obtain ⟨hb7, h⟩ := okE h
  obtain ⟨r_4, er_4, h⟩ := bindE h
  refine Z_getr (pc := 32) dX2_init_32 w2_31 hb7 fr_3_2 er_4 ?_
  refine Y_iconst (pc := 35) (v := (-1 : Int32)) dX2_init_35 rfl ?_
  obtain ⟨y1, qy1, h⟩ := bindE h
  have cy1 := v_J7_fill_53178 hP6.fsh qy1
  refine C_S2o (pc := 36) (k' := k_J7_fill_53178) dX2_init_36 w2_25 i_J7_fill_53178 (Nat.le_of_ble_eq_true rfl) (Nat.le_of_ble_eq_true rfl) (Nat.le_of_ble_eq_true rfl) (cy1) ?_
  have hPy1 := hP6.jdk cy1.1.1
  cases h
  exact Y_vret (pc := 39) rfl dX2_init_39 hPy1 ⟨rfl, rfl⟩
theorem v_X2_init {r0 : Nat} {M z} (hP : Fsh M) (hr : r0 ≤ nx M) (h : d_X2_init r0 M = some z) : CC (Kx r0 M) k_X2_init [.ref r0] M z.2 (Qv (none) z.2) xF :=
  CC.ofVV (by decide) rfl (Nat.le_of_ble_eq_true rfl) (b_X2_init (Kx.refl hP hr) h)
theorem b_X2_bars {x1 : Int32} {M z} (hP : Lay M) (h : d_X2_bars x1 M = some z) : VV Lay k_X2_bars 0 [(0, .ref 44), (1, .int x1)] [] M z.2 (Qv (some (.int z.1)) z.2) xF := by
  unfold d_X2_bars at h
  refine Y_aload_n (pc := 0) (j := 0) dX2_bars_0 rfl rfl ?_
  refine Z_getr (pc := 1) dX2_bars_1 w2_30 (lk_44 hP) fr_3_1 (lr_44_1 hP) ?_
  refine Y_iload_n (pc := 4) (j := 1) dX2_bars_4 rfl rfl ?_
  obtain ⟨hb1, h⟩ := okE h
  refine Y_iald (pc := 5) dX2_bars_5 (lk_46 hP) (ln_46 hP) hb1 ?_
  refine Y_iconst (pc := 6) (v := (2 : Int32)) dX2_bars_6 rfl ?_
  refine Y_icmp_lt (pc := 7) (tgt := 14) dX2_bars_7 (by decide) (fun hc1 => ?_) (fun hc1 => ?_)
  · replace h := ifT hc1 h
    refine Y_iconst (pc := 14) (v := (0 : Int32)) dX2_bars_14 rfl ?_
    cases h
    exact Y_iret (pc := 15) rfl (nar_bo (by decide)) dX2_bars_15 hP ⟨rfl, rfl⟩
  · replace h := ifF hc1 h
    refine Y_iconst (pc := 10) (v := (1 : Int32)) dX2_bars_10 rfl ?_
    refine Y_goto (pc := 11) (tgt := 15) dX2_bars_11 (by decide) ?_
    cases h
    exact Y_iret (pc := 15) rfl (nar_bo (by decide)) dX2_bars_15 hP ⟨rfl, rfl⟩
theorem v_X2_bars {x1 : Int32} {M z} (hP : Lay M) (h : d_X2_bars x1 M = some z) : CC Lay k_X2_bars [.ref 44, .int x1] M z.2 (Qv (some (.int z.1)) z.2) xF :=
  CC.ofVV (by decide) rfl (Nat.le_of_ble_eq_true rfl) (b_X2_bars hP h)
theorem b_X2_breakOff {x1 : Int32} {M z} (hP : Lay M) (h : d_X2_breakOff x1 M = some z) : VV Lay k_X2_breakOff 0 [(0, .ref 44), (1, .int x1)] [] M z.2 (Qv (none) z.2) xF := by
  unfold d_X2_breakOff at h
  refine Y_aload_n (pc := 0) (j := 0) dX2_breakOff_0 rfl rfl ?_
  refine Z_getr (pc := 1) dX2_breakOff_1 w2_26 (lk_44 hP) fr_3_0 (lr_44_0 hP) ?_
  refine Y_iload_n (pc := 4) (j := 1) dX2_breakOff_4 rfl rfl ?_
  refine Y_iconst (pc := 5) (v := (0 : Int32)) dX2_breakOff_5 rfl ?_
  obtain ⟨hb1, h⟩ := okE h
  refine Y_iast (pc := 6) dX2_breakOff_6 (lk_45 hP) (ln_45 hP) hb1 ?_
  obtain ⟨M1, eM1, h⟩ := bndE h
  refine VV.mem eM1 ?_
  have hP1 := hP.wI eM1
  refine Y_aload_n (pc := 7) (j := 0) dX2_breakOff_7 rfl rfl ?_
  refine Z_getr (pc := 8) dX2_breakOff_8 w2_30 (lk_44 hP1) fr_3_1 (lr_44_1 hP1) ?_
  refine Y_iload_n (pc := 11) (j := 1) dX2_breakOff_11 rfl rfl ?_
  refine Y_dup2 (pc := 12) dX2_breakOff_12 rfl rfl ?_
  obtain ⟨hb2, h⟩ := okE h
  refine Y_iald (pc := 13) dX2_breakOff_13 (lk_46 hP1) (ln_46 hP1) hb2 ?_
  refine Y_iconst (pc := 14) (v := (1 : Int32)) dX2_breakOff_14 rfl ?_
  refine Y_iadd (pc := 15) dX2_breakOff_15 ?_
  obtain ⟨hb3, h⟩ := okE h
  refine Y_iast (pc := 16) dX2_breakOff_16 (lk_46 hP1) (ln_46 hP1) hb3 ?_
  obtain ⟨M2, eM2, h⟩ := bndE h
  refine VV.mem eM2 ?_
  have hP2 := hP1.wI eM2
  cases h
  exact Y_vret (pc := 17) rfl dX2_breakOff_17 hP2 ⟨rfl, rfl⟩
theorem v_X2_breakOff {x1 : Int32} {M z} (hP : Lay M) (h : d_X2_breakOff x1 M = some z) : CC Lay k_X2_breakOff [.ref 44, .int x1] M z.2 (Qv (none) z.2) xF :=
  CC.ofVV (by decide) rfl (Nat.le_of_ble_eq_true rfl) (b_X2_breakOff hP h)
theorem b_X8_init {M0 : Mem} {r0 : Nat} {M z} (hP : (Kx r0 M0) M) (h : d_X8_init r0 M = some z) : VV (Kx r0 M0) k_X8_init 0 [(0, .ref r0)] [] M z.2 (Qv (none) z.2) xF := by
  unfold d_X8_init at h
  refine Y_aload_n (pc := 0) (j := 0) dX8_init_0 rfl rfl ?_
  refine Y_oinit (pc := 1) dX8_init_1 w1_148 (Nat.le_of_ble_eq_true rfl) (Nat.le_of_ble_eq_true rfl) (Nat.le_of_ble_eq_true rfl) ?_
  refine Y_aload_n (pc := 4) (j := 0) dX8_init_4 rfl rfl ?_
  refine Y_sipush (pc := 5) (v := (549 : Int32)) dX8_init_5 rfl ?_
  obtain ⟨r_1, er_1, h⟩ := bndE h
  obtain ⟨hb1, h⟩ := okE h
  refine Y_newa (pc := 8) (a := r_1) (t := 22) (N := 549) dX8_init_8 (by decide) (by decide) rfl w1_101 (hP.free er_1) hb1 (by decide) rfl (by decide) ?_
  obtain ⟨M1, eM1, h⟩ := bndE h
  refine VV.mem eM1 ?_
  have hP1 := hP.wN er_1 (by decide) eM1
  obtain ⟨hb2, h⟩ := okE h
  refine Z_putr (pc := 10) dX8_init_10 w1_149 hb2 fr_8_0 (Or.inr ⟨rfl, rfl⟩) (Or.inr ⟨_, rfl⟩) ?_
  obtain ⟨M2, eM2, h⟩ := bndE h
  refine VV.mem eM2 ?_
  have hP2 := hP1.wR0 (by omega) eM2
  refine Y_aload_n (pc := 13) (j := 0) dX8_init_13 rfl rfl ?_
  refine Y_sipush (pc := 14) (v := (549 : Int32)) dX8_init_14 rfl ?_
  obtain ⟨r_2, er_2, h⟩ := bndE h
  obtain ⟨hb3, h⟩ := okE h
  refine Y_newa (pc := 17) (a := r_2) (t := 21) (N := 549) dX8_init_17 (by decide) (by decide) rfl w1_100 (hP2.free er_2) hb3 (by decide) rfl (by decide) ?_
  obtain ⟨M3, eM3, h⟩ := bndE h
  refine VV.mem eM3 ?_
  have hP3 := hP2.wN er_2 (by decide) eM3
  obtain ⟨hb4, h⟩ := okE h
  refine Z_putr (pc := 19) dX8_init_19 w1_152 hb4 fr_8_1 (Or.inr ⟨rfl, rfl⟩) (Or.inr ⟨_, rfl⟩) ?_
  obtain ⟨M4, eM4, h⟩ := bndE h
  refine VV.mem eM4 ?_
  have hP4 := hP3.wR0 (by omega) eM4
  refine Y_aload_n (pc := 22) (j := 0) dX8_init_22 rfl rfl ?_
  refine Y_sipush (pc := 23) (v := (549 : Int32)) dX8_init_23 rfl ?_
  obtain ⟨r_3, er_3, h⟩ := bndE h
  obtain ⟨hb5, h⟩ := okE h
  refine Y_newa (pc := 26) (a := r_3) (t := 25) (N := 549) dX8_init_26 (by decide) (by decide) rfl w1_166 (hP4.free er_3) hb5 (by decide) rfl (by decide) ?_
  obtain ⟨M5, eM5, h⟩ := bndE h
  refine VV.mem eM5 ?_
  have hP5 := hP4.wN er_3 (by decide) eM5
  obtain ⟨hb6, h⟩ := okE h
  refine Z_putr (pc := 28) dX8_init_28 w1_154 hb6 fr_8_2 (Or.inr ⟨rfl, rfl⟩) (Or.inr ⟨_, rfl⟩) ?_
  obtain ⟨M6, eM6, h⟩ := bndE h
  refine VV.mem eM6 ?_
  have hP6 := hP5.wR0 (by omega) eM6
  refine Y_aload_n (pc := 31) (j := 0) dX8_init_31 rfl rfl ?_
  refine Y_sipush (pc := 32) (v := (549 : Int32)) dX8_init_32 rfl ?_
  obtain ⟨r_4, er_4, h⟩ := bndE h
  obtain ⟨hb7, h⟩ := okE h
  refine Y_newa (pc := 35) (a := r_4) (t := 21) (N := 549) dX8_init_35 (by decide) (by decide) rfl w1_100 (hP6.free er_4) hb7 (by decide) rfl (by decide) ?_
  obtain ⟨M7, eM7, h⟩ := bndE h
  refine VV.mem eM7 ?_
  have hP7 := hP6.wN er_4 (by decide) eM7
  obtain ⟨hb8, h⟩ := okE h
  refine Z_putr (pc := 37) dX8_init_37 w1_155 hb8 fr_8_3 (Or.inr ⟨rfl, rfl⟩) (Or.inr ⟨_, rfl⟩) ?_
  obtain ⟨M8, eM8, h⟩ := bndE h
  refine VV.mem eM8 ?_
  have hP8 := hP7.wR0 (by omega) eM8
  cases h
  exact Y_vret (pc := 40) rfl dX8_init_40 hP8 ⟨rfl, rfl⟩
theorem v_X8_init {r0 : Nat} {M z} (hP : Fsh M) (hr : r0 ≤ nx M) (h : d_X8_init r0 M = some z) : CC (Kx r0 M) k_X8_init [.ref r0] M z.2 (Qv (none) z.2) xF :=
  CC.ofVV (by decide) rfl (Nat.le_of_ble_eq_true rfl) (b_X8_init (Kx.refl hP hr) h)
theorem b_X3_init {M0 : Mem} {r0 : Nat} {r1 : Nat} {r2 : Nat} {M z} (hP : (Kx r0 M0) M) (h : d_X3_init r0 r1 r2 M = some z) : VV (Kx r0 M0) k_X3_init 0 [(0, .ref r0), (1, .ref r1), (2, .ref r2)] [] M z.2 (Qv (none) z.2) xF := by
  unfold d_X3_init at h
  refine Y_aload_n (pc := 0) (j := 0) dX3_init_0 rfl rfl ?_
  refine Y_oinit (pc := 1) dX3_init_1 w1_142 (Nat.le_of_ble_eq_true rfl) (Nat.le_of_ble_eq_true rfl) (Nat.le_of_ble_eq_true rfl) ?_
  refine Y_aload_n (pc := 4) (j := 0) dX3_init_4 rfl rfl ?_
  refine Y_aload_n (pc := 5) (j := 1) dX3_init_5 rfl rfl ?_
  obtain ⟨hb1, h⟩ := okE h
  refine Z_putr (pc := 6) dX3_init_6 w1_167 hb1 fr_4_0 (Or.inr ⟨rfl, rfl⟩) (Or.inl ⟨_, rfl⟩) ?_
  obtain ⟨M1, eM1, h⟩ := bndE h
  refine VV.mem eM1 ?_
  have hP1 := hP.wR0 (by omega) eM1
  refine Y_aload_n (pc := 9) (j := 0) dX3_init_9 rfl rfl ?_
  refine Y_aload_n (pc := 10) (j := 2) dX3_init_10 rfl rfl ?_
  obtain ⟨hb2, h⟩ := okE h
  refine Z_putr (pc := 11) dX3_init_11 w1_169 hb2 fr_4_1 (Or.inr ⟨rfl, rfl⟩) (Or.inl ⟨_, rfl⟩) ?_
  obtain ⟨M2, eM2, h⟩ := bndE h
  refine VV.mem eM2 ?_
  have hP2 := hP1.wR0 (by omega) eM2
  refine Y_aload_n (pc := 14) (j := 0) dX3_init_14 rfl rfl ?_
  obtain ⟨r_1, er_1, h⟩ := bndE h
  obtain ⟨hb3, h⟩ := okE h
  refine Y_new (pc := 15) (a := r_1) (t := 8) dX3_init_15 (by decide) (by decide) w1_143 w1_144 w1_6 (hP2.free er_1) hb3 ?_
  obtain ⟨M3, eM3, h⟩ := bndE h
  refine VV.mem eM3 ?_
  have hP3 := hP2.wN er_1 (by decide) eM3
  refine Y_dup (pc := 18) dX3_init_18 rfl ?_
  obtain ⟨hb4, h⟩ := okE h
  obtain ⟨hb5, h⟩ := okE h
  obtain ⟨y1, qy1, h⟩ := bindE h
  have cy1 := v_X8_init hP3.fsh hb4 qy1
  refine C_I0o (pc := 19) (k' := k_X8_init) dX3_init_19 w1_145 i_X8_init (Nat.le_of_ble_eq_true rfl) (Nat.le_of_ble_eq_true rfl) (Nat.le_of_ble_eq_true rfl) (cy1) ?_
  have hPy1 := hP3.ini cy1.1.1 hb5
  obtain ⟨hb6, h⟩ := okE h
  refine Z_putr (pc := 22) dX3_init_22 w1_171 hb6 fr_4_2 (Or.inr ⟨rfl, rfl⟩) (Or.inl ⟨_, rfl⟩) ?_
  obtain ⟨M4, eM4, h⟩ := bndE h
  refine VV.mem eM4 ?_
  have hP4 := hPy1.wR0 (by omega) eM4
  refine Y_aload_n (pc := 25) (j := 0) dX3_init_25 rfl rfl ?_
  refine Y_bipush (pc := 26) (v := (12 : Int32)) dX3_init_26 rfl ?_
  obtain ⟨r_2, er_2, h⟩ := bndE h
  obtain ⟨hb7, h⟩ := okE h
  refine Y_newa (pc := 28) (a := r_2) (t := 21) (N := 12) dX3_init_28 (by decide) (by decide) rfl w1_100 (hP4.free er_2) hb7 (by decide) rfl (by decide) ?_
  obtain ⟨M5, eM5, h⟩ := bndE h
  refine VV.mem eM5 ?_
  have hP5 := hP4.wN er_2 (by decide) eM5
  obtain ⟨hb8, h⟩ := okE h
  refine Z_putr (pc := 30) dX3_init_30 w1_174 hb8 fr_4_3 (Or.inr ⟨rfl, rfl⟩) (Or.inr ⟨_, rfl⟩) ?_
  obtain ⟨M6, eM6, h⟩ := bndE h
  refine VV.mem eM6 ?_
  have hP6 := hP5.wR0 (by omega) eM6
  refine Y_aload_n (pc := 33) (j := 0) dX3_init_33 rfl rfl ?_
  refine Y_bipush (pc := 34) (v := (12 : Int32)) dX3_init_34 rfl ?_
  obtain ⟨r_3, er_3, h⟩ := bndE h
  obtain ⟨hb9, h⟩ := okE h
  refine Y_newa (pc := 36) (a := r_3) (t := 21) (N := 12) dX3_init_36 (by decide) (by decide) rfl w1_100 (hP6.free er_3) hb9 (by decide) rfl (by decide) ?_
  obtain ⟨M7, eM7, h⟩ := bndE h
  refine VV.mem eM7 ?_
  have hP7 := hP6.wN er_3 (by decide) eM7
  obtain ⟨hb10, h⟩ := okE h
  refine Z_putr (pc := 38) dX3_init_38 w1_175 hb10 fr_4_4 (Or.inr ⟨rfl, rfl⟩) (Or.inr ⟨_, rfl⟩) ?_
  obtain ⟨M8, eM8, h⟩ := bndE h
  refine VV.mem eM8 ?_
  have hP8 := hP7.wR0 (by omega) eM8
  refine Y_aload_n (pc := 41) (j := 0) dX3_init_41 rfl rfl ?_
  refine Y_bipush (pc := 42) (v := (12 : Int32)) dX3_init_42 rfl ?_
  obtain ⟨r_4, er_4, h⟩ := bndE h
  obtain ⟨hb11, h⟩ := okE h
  refine Y_newa (pc := 44) (a := r_4) (t := 21) (N := 12) dX3_init_44 (by decide) (by decide) rfl w1_100 (hP8.free er_4) hb11 (by decide) rfl (by decide) ?_
  obtain ⟨M9, eM9, h⟩ := bndE h
  refine VV.mem eM9 ?_
  have hP9 := hP8.wN er_4 (by decide) eM9
  obtain ⟨hb12, h⟩ := okE h
  refine Z_putr (pc := 46) dX3_init_46 w1_176 hb12 fr_4_5 (Or.inr ⟨rfl, rfl⟩) (Or.inr ⟨_, rfl⟩) ?_
  obtain ⟨M10, eM10, h⟩ := bndE h
  refine VV.mem eM10 ?_
  have hP10 := hP9.wR0 (by omega) eM10
  refine Y_aload_n (pc := 49) (j := 0) dX3_init_49 rfl rfl ?_
  refine Y_bipush (pc := 50) (v := (60 : Int32)) dX3_init_50 rfl ?_
  obtain ⟨r_5, er_5, h⟩ := bndE h
  obtain ⟨hb13, h⟩ := okE h
  refine Y_newa (pc := 52) (a := r_5) (t := 21) (N := 60) dX3_init_52 (by decide) (by decide) rfl w1_100 (hP10.free er_5) hb13 (by decide) rfl (by decide) ?_
  obtain ⟨M11, eM11, h⟩ := bndE h
  refine VV.mem eM11 ?_
  have hP11 := hP10.wN er_5 (by decide) eM11
  obtain ⟨hb14, h⟩ := okE h
  refine Z_putr (pc := 54) dX3_init_54 w1_177 hb14 fr_4_6 (Or.inr ⟨rfl, rfl⟩) (Or.inr ⟨_, rfl⟩) ?_
  obtain ⟨M12, eM12, h⟩ := bndE h
  refine VV.mem eM12 ?_
  have hP12 := hP11.wR0 (by omega) eM12
  refine Y_aload_n (pc := 57) (j := 0) dX3_init_57 rfl rfl ?_
  refine Y_bipush (pc := 58) (v := (45 : Int32)) dX3_init_58 rfl ?_
  obtain ⟨hb15, h⟩ := okE h
  refine Z_putc (pc := 60) dX3_init_60 w1_193 hb15 fi_4_13 (Or.inl rfl) rfl (by decide) ?_
  obtain ⟨M13, eM13, h⟩ := bndE h
  refine VV.mem eM13 ?_
  have hP13 := hP12.wI eM13
  refine Y_aload_n (pc := 63) (j := 0) dX3_init_63 rfl rfl ?_
  refine Y_bipush (pc := 64) (v := (45 : Int32)) dX3_init_64 rfl ?_
  obtain ⟨hb16, h⟩ := okE h
  refine Z_putc (pc := 66) dX3_init_66 w1_195 hb16 fi_4_14 (Or.inl rfl) rfl (by decide) ?_
  obtain ⟨M14, eM14, h⟩ := bndE h
  refine VV.mem eM14 ?_
  have hP14 := hP13.wI eM14
  cases h
  exact Y_vret (pc := 69) rfl dX3_init_69 hP14 ⟨rfl, rfl⟩
theorem v_X3_init {r0 : Nat} {r1 : Nat} {r2 : Nat} {M z} (hP : Fsh M) (hr : r0 ≤ nx M) (h : d_X3_init r0 r1 r2 M = some z) : CC (Kx r0 M) k_X3_init [.ref r0, .ref r1, .ref r2] M z.2 (Qv (none) z.2) xF :=
  CC.ofVV (by decide) rfl (Nat.le_of_ble_eq_true rfl) (b_X3_init (Kx.refl hP hr) h)
theorem b_X11_localPlace {x0 : Int32} {x1 : Int32} {M z} (hP : Lay M) (h : d_X11_localPlace x0 x1 M = some z) : VV Lay k_X11_localPlace 0 [(0, .int x0), (1, .int x1)] [] M z.2 (Qv (some (.int z.1)) z.2) xF := by
  unfold d_X11_localPlace at h
  refine Y_iload_n (pc := 0) (j := 0) dX11_localPlace_0 rfl rfl ?_
  refine Y_bipush (pc := 1) (v := (14 : Int32)) dX11_localPlace_1 rfl ?_
  refine Y_imul (pc := 3) dX11_localPlace_3 ?_
  refine Y_iload_n (pc := 4) (j := 1) dX11_localPlace_4 rfl rfl ?_
  refine Y_iadd (pc := 5) dX11_localPlace_5 ?_
  cases h
  exact Y_iret (pc := 6) rfl rfl dX11_localPlace_6 hP ⟨rfl, rfl⟩
theorem v_X11_localPlace {x0 : Int32} {x1 : Int32} {M z} (hP : Lay M) (h : d_X11_localPlace x0 x1 M = some z) : CC Lay k_X11_localPlace [.int x0, .int x1] M z.2 (Qv (some (.int z.1)) z.2) xF :=
  CC.ofVV (by decide) rfl (Nat.le_of_ble_eq_true rfl) (b_X11_localPlace hP h)
theorem b_X8_put {o : Nat} {x1 : Int32} {x2 : Int32} {x3 : Int32} {M z} (ho : o = 18 ∨ o = 28) (hP : Lay M) (h : d_X8_put o x1 x2 x3 M = some z) : VV Lay k_X8_put 0 [(0, .ref (o + 1)), (1, .int x1), (2, .int x2), (3, .int x3)] [] M z.2 (Qv (none) z.2) xF := by
  unfold d_X8_put at h
  refine Y_aload_n (pc := 0) (j := 0) dX8_put_0 rfl rfl ?_
  refine Z_getr (pc := 1) dX8_put_1 w1_149 (lo_1 hP ho) fr_8_0 (lor_1_0 hP ho) ?_
  refine Y_iload_n (pc := 4) (j := 1) dX8_put_4 rfl rfl ?_
  refine Y_iload_n (pc := 5) (j := 2) dX8_put_5 rfl rfl ?_
  obtain ⟨hb1, h⟩ := okE h
  obtain ⟨hb2, h⟩ := okE h
  refine Y_cast (pc := 6) dX8_put_6 (lo_2 hP ho) (lon_2 hP ho) hb1 (nar_ch hb2) ?_
  obtain ⟨M1, eM1, h⟩ := bndE h
  refine VV.mem eM1 ?_
  have hP1 := hP.wI eM1
  refine Y_aload_n (pc := 7) (j := 0) dX8_put_7 rfl rfl ?_
  refine Z_getr (pc := 8) dX8_put_8 w1_152 (lo_1 hP1 ho) fr_8_1 (lor_1_1 hP1 ho) ?_
  refine Y_iload_n (pc := 11) (j := 1) dX8_put_11 rfl rfl ?_
  refine Y_iload_n (pc := 12) (j := 3) dX8_put_12 rfl rfl ?_
  obtain ⟨hb3, h⟩ := okE h
  refine Y_iast (pc := 13) dX8_put_13 (lo_3 hP1 ho) (lon_3 hP1 ho) hb3 ?_
  obtain ⟨M2, eM2, h⟩ := bndE h
  refine VV.mem eM2 ?_
  have hP2 := hP1.wI eM2
  refine Y_aload_n (pc := 14) (j := 0) dX8_put_14 rfl rfl ?_
  refine Z_getr (pc := 15) dX8_put_15 w1_154 (lo_1 hP2 ho) fr_8_2 (lor_1_2 hP2 ho) ?_
  refine Y_iload_n (pc := 18) (j := 1) dX8_put_18 rfl rfl ?_
  refine Y_dconst0 (pc := 19) dX8_put_19 ?_
  obtain ⟨hb4, h⟩ := okE h
  refine Y_dast (pc := 20) dX8_put_20 (lo_4 hP2 ho) (lon_4 hP2 ho) hb4 ?_
  obtain ⟨M3, eM3, h⟩ := bndE h
  refine VV.mem eM3 ?_
  have hP3 := hP2.wD eM3
  cases h
  exact Y_vret (pc := 21) rfl dX8_put_21 hP3 ⟨rfl, rfl⟩
theorem v_X8_put {o : Nat} {x1 : Int32} {x2 : Int32} {x3 : Int32} {M z} (ho : o = 18 ∨ o = 28) (hP : Lay M) (h : d_X8_put o x1 x2 x3 M = some z) : CC Lay k_X8_put [.ref (o + 1), .int x1, .int x2, .int x3] M z.2 (Qv (none) z.2) xF :=
  CC.ofVV (by decide) rfl (Nat.le_of_ble_eq_true rfl) (b_X8_put ho hP h)
theorem b_X3_addFrame_32b {k32 : (Int32) → Mem → Option (Unit × Mem)} {o : Nat} {x2 : Int32} {M z} (ho : o = 18 ∨ o = 28) (hk32 : ∀ (a : (Int32)) (M : Mem) (z : Unit × Mem), Lay M → k32 a M = some z → VV Lay k_X3_addFrame 32 [(0, .ref o), (2, .int a)] [] M z.2 (Qv (none) z.2) xF) (hP : Lay M) (h : d_X3_addFrame_32b k32 o x2 M = some z) : VV Lay k_X3_addFrame 32 [(0, .ref o), (2, .int x2)] [] M z.2 (Qv (none) z.2) xF := by
  unfold d_X3_addFrame_32b at h
  refine Y_iload_n (pc := 32) (j := 1) dX3_addFrame_32 rfl rfl ?_
  refine Y_bipush (pc := 33) (v := (6 : Int32)) dX3_addFrame_33 rfl ?_
  refine Y_icmp_ge (pc := 35) (tgt := 62) dX3_addFrame_35 (by decide) (fun hc1 => ?_) (fun hc1 => ?_)
  · replace h := ifT hc1 h
    refine Y_aload_n (pc := 62) (j := 0) dX3_addFrame_62 rfl rfl ?_
    refine Y_dup (pc := 63) dX3_addFrame_63 rfl ?_
    refine Z_geti (pc := 64) dX3_addFrame_64 w1_184 (lo_0 hP ho) fi_4_9 ?_
    refine Y_iconst (pc := 67) (v := (1 : Int32)) dX3_addFrame_67 rfl ?_
    refine Y_iadd (pc := 68) dX3_addFrame_68 ?_
    refine Z_puti (pc := 69) dX3_addFrame_69 w1_184 (lo_0 hP ho) fi_4_9 (Or.inl rfl) rfl ?_
    obtain ⟨M1, eM1, h⟩ := bndE h
    refine VV.mem eM1 ?_
    have hP1 := hP.wI eM1
    cases h
    exact Y_vret (pc := 72) rfl dX3_addFrame_72 hP1 ⟨rfl, rfl⟩
  · replace h := ifF hc1 h
    refine Y_aload_n (pc := 38) (j := 0) dX3_addFrame_38 rfl rfl ?_
    refine Z_getr (pc := 39) dX3_addFrame_39 w1_171 (lo_0 hP ho) fr_4_2 (lor_0_2 hP ho) ?_
    refine Y_aload_n (pc := 42) (j := 0) dX3_addFrame_42 rfl rfl ?_
    refine Z_geti (pc := 43) dX3_addFrame_43 w1_184 (lo_0 hP ho) fi_4_9 ?_
    refine Y_iload_n (pc := 46) (j := 1) dX3_addFrame_46 rfl rfl ?_
    obtain ⟨y1, qy1, h⟩ := bindE h
    have cy1 := v_X11_localPlace hP qy1
    refine C_N2r (pc := 47) (k' := k_X11_localPlace) dX3_addFrame_47 nl_Machine_66 i_X11_localPlace (Nat.le_of_ble_eq_true rfl) (Nat.le_of_ble_eq_true rfl) (Nat.le_of_ble_eq_true rfl) (cy1) ?_
    have hPy1 := cy1.1.1
    refine Y_bipush (pc := 50) (v := (110 : Int32)) dX3_addFrame_50 rfl ?_
    refine Y_iconst (pc := 52) (v := (0 : Int32)) dX3_addFrame_52 rfl ?_
    obtain ⟨y2, qy2, h⟩ := bindE h
    have cy2 := v_X8_put ho hPy1 qy2
    refine C_V3o (pc := 53) (k' := k_X8_put) dX3_addFrame_53 w5_38 i_X8_put (lo_1 hPy1 ho) ⟨Nat.le_of_ble_eq_true rfl, Nat.le_of_ble_eq_true rfl⟩ rfl (Nat.le_of_ble_eq_true rfl) (Nat.le_of_ble_eq_true rfl) (Nat.le_of_ble_eq_true rfl) (cy2) ?_
    have hPy2 := cy2.1.1
    obtain ⟨b1, eb1, h⟩ := bndE h
    refine Y_iinc (pc := 56) (j := 1) (v := b1) (lv1 := [(2, .int b1), (0, .ref o)]) dX3_addFrame_56 rfl eb1.symm (by decide) rfl ?_
    refine Y_goto (pc := 59) (tgt := 32) dX3_addFrame_59 (by decide) ?_
    refine VV.sub [1, 0] rfl ?_
    exact hk32 _ _ _ hPy2 h
theorem b_X3_addFrame_32 {o : Nat} (ho : o = 18 ∨ o = 28) (n : Nat) : ∀ (a : (Int32)) (M : Mem) (z : Unit × Mem), d_X3_addFrame_32 o n a M = some z → Lay M → VV Lay k_X3_addFrame 32 [(0, .ref o), (2, .int a)] [] M z.2 (Qv (none) z.2) xF :=
  lp_ind (G := fun (a : (Int32)) (M : Mem) (z : Unit × Mem) => Lay M → VV Lay k_X3_addFrame 32 [(0, .ref o), (2, .int a)] [] M z.2 (Qv (none) z.2) xF) (fun k hk a M z h hP => b_X3_addFrame_32b ho (fun a M z hP h => hk a M z h hP) hP h) n
theorem b_X3_addFrame {o : Nat} {x1 : Int32} {M z} (ho : o = 18 ∨ o = 28) (hP : Lay M) (h : d_X3_addFrame o x1 M = some z) : VV Lay k_X3_addFrame 0 [(0, .ref o), (1, .int x1)] [] M z.2 (Qv (none) z.2) xF := by
  unfold d_X3_addFrame at h
  refine Y_aload_n (pc := 0) (j := 0) dX3_addFrame_0 rfl rfl ?_
  refine Z_getr (pc := 1) dX3_addFrame_1 w1_174 (lo_0 hP ho) fr_4_3 (lor_0_3 hP ho) ?_
  refine Y_aload_n (pc := 4) (j := 0) dX3_addFrame_4 rfl rfl ?_
  refine Z_geti (pc := 5) dX3_addFrame_5 w1_184 (lo_0 hP ho) fi_4_9 ?_
  refine Y_iload_n (pc := 8) (j := 1) dX3_addFrame_8 rfl rfl ?_
  obtain ⟨hb1, h⟩ := okE h
  refine Y_iast (pc := 9) dX3_addFrame_9 (lo_6 hP ho) (lon_6 hP ho) hb1 ?_
  obtain ⟨M1, eM1, h⟩ := bndE h
  refine VV.mem eM1 ?_
  have hP1 := hP.wI eM1
  refine Y_aload_n (pc := 10) (j := 0) dX3_addFrame_10 rfl rfl ?_
  refine Z_getr (pc := 11) dX3_addFrame_11 w1_175 (lo_0 hP1 ho) fr_4_4 (lor_0_4 hP1 ho) ?_
  refine Y_aload_n (pc := 14) (j := 0) dX3_addFrame_14 rfl rfl ?_
  refine Z_geti (pc := 15) dX3_addFrame_15 w1_184 (lo_0 hP1 ho) fi_4_9 ?_
  refine Y_iconst (pc := 18) (v := (0 : Int32)) dX3_addFrame_18 rfl ?_
  obtain ⟨hb2, h⟩ := okE h
  refine Y_iast (pc := 19) dX3_addFrame_19 (lo_7 hP1 ho) (lon_7 hP1 ho) hb2 ?_
  obtain ⟨M2, eM2, h⟩ := bndE h
  refine VV.mem eM2 ?_
  have hP2 := hP1.wI eM2
  refine Y_aload_n (pc := 20) (j := 0) dX3_addFrame_20 rfl rfl ?_
  refine Z_getr (pc := 21) dX3_addFrame_21 w1_176 (lo_0 hP2 ho) fr_4_5 (lor_0_5 hP2 ho) ?_
  refine Y_aload_n (pc := 24) (j := 0) dX3_addFrame_24 rfl rfl ?_
  refine Z_geti (pc := 25) dX3_addFrame_25 w1_184 (lo_0 hP2 ho) fi_4_9 ?_
  refine Y_iconst (pc := 28) (v := (0 : Int32)) dX3_addFrame_28 rfl ?_
  obtain ⟨hb3, h⟩ := okE h
  refine Y_iast (pc := 29) dX3_addFrame_29 (lo_8 hP2 ho) (lon_8 hP2 ho) hb3 ?_
  obtain ⟨M3, eM3, h⟩ := bndE h
  refine VV.mem eM3 ?_
  have hP3 := hP2.wI eM3
  refine Y_iconst (pc := 30) (v := (0 : Int32)) dX3_addFrame_30 rfl ?_
  refine Y_istore_n (pc := 31) (lv1 := [(2, .int (0 : Int32)), (0, .ref o), (1, .int x1)]) dX3_addFrame_31 rfl (by decide) rfl ?_
  refine VV.sub [1, 0] rfl ?_
  exact b_X3_addFrame_32 ho fuel _ _ _ h hP3
theorem v_X3_addFrame {o : Nat} {x1 : Int32} {M z} (ho : o = 18 ∨ o = 28) (hP : Lay M) (h : d_X3_addFrame o x1 M = some z) : CC Lay k_X3_addFrame [.ref o, .int x1] M z.2 (Qv (none) z.2) xF :=
  CC.ofVV (by decide) rfl (Nat.le_of_ble_eq_true rfl) (b_X3_addFrame ho hP h)
theorem b_X3_begin {o : Nat} {x1 : Int32} {x2 : Int32} {M z} (ho : o = 18 ∨ o = 28) (hP : Lay M) (h : d_X3_begin o x1 x2 M = some z) : VV Lay k_X3_begin 0 [(0, .ref o), (1, .int x1), (2, .int x2)] [] M z.2 (Qv (none) z.2) xF := by
  unfold d_X3_begin at h
  refine Y_aload_n (pc := 0) (j := 0) dX3_begin_0 rfl rfl ?_
  refine Y_iconst (pc := 1) (v := (0 : Int32)) dX3_begin_1 rfl ?_
  refine Z_puti (pc := 2) dX3_begin_2 w1_184 (lo_0 hP ho) fi_4_9 (Or.inl rfl) rfl ?_
  obtain ⟨M1, eM1, h⟩ := bndE h
  refine VV.mem eM1 ?_
  have hP1 := hP.wI eM1
  refine Y_aload_n (pc := 5) (j := 0) dX3_begin_5 rfl rfl ?_
  refine Y_iconst (pc := 6) (v := (0 : Int32)) dX3_begin_6 rfl ?_
  refine Z_puti (pc := 7) dX3_begin_7 w1_187 (lo_0 hP1 ho) fi_4_10 (Or.inl rfl) rfl ?_
  obtain ⟨M2, eM2, h⟩ := bndE h
  refine VV.mem eM2 ?_
  have hP2 := hP1.wI eM2
  refine Y_aload_n (pc := 10) (j := 0) dX3_begin_10 rfl rfl ?_
  refine Y_iconst (pc := 11) (v := (0 : Int32)) dX3_begin_11 rfl ?_
  refine Z_puti (pc := 12) dX3_begin_12 w1_189 (lo_0 hP2 ho) fi_4_11 (Or.inl rfl) rfl ?_
  obtain ⟨M3, eM3, h⟩ := bndE h
  refine VV.mem eM3 ?_
  have hP3 := hP2.wI eM3
  refine Y_aload_n (pc := 15) (j := 0) dX3_begin_15 rfl rfl ?_
  refine Y_iconst (pc := 16) (v := (0 : Int32)) dX3_begin_16 rfl ?_
  refine Z_puti (pc := 17) dX3_begin_17 w1_191 (lo_0 hP3 ho) fi_4_12 (Or.inl rfl) rfl ?_
  obtain ⟨M4, eM4, h⟩ := bndE h
  refine VV.mem eM4 ?_
  have hP4 := hP3.wI eM4
  refine Y_aload_n (pc := 20) (j := 0) dX3_begin_20 rfl rfl ?_
  refine Y_bipush (pc := 21) (v := (45 : Int32)) dX3_begin_21 rfl ?_
  refine Z_putc (pc := 23) dX3_begin_23 w1_193 (lo_0 hP4 ho) fi_4_13 (Or.inl rfl) rfl (by decide) ?_
  obtain ⟨M5, eM5, h⟩ := bndE h
  refine VV.mem eM5 ?_
  have hP5 := hP4.wI eM5
  refine Y_aload_n (pc := 26) (j := 0) dX3_begin_26 rfl rfl ?_
  refine Y_bipush (pc := 27) (v := (45 : Int32)) dX3_begin_27 rfl ?_
  refine Z_putc (pc := 29) dX3_begin_29 w1_195 (lo_0 hP5 ho) fi_4_14 (Or.inl rfl) rfl (by decide) ?_
  obtain ⟨M6, eM6, h⟩ := bndE h
  refine VV.mem eM6 ?_
  have hP6 := hP5.wI eM6
  refine Y_aload_n (pc := 32) (j := 0) dX3_begin_32 rfl rfl ?_
  refine Y_iconst (pc := 33) (v := (0 : Int32)) dX3_begin_33 rfl ?_
  refine Z_puti (pc := 34) dX3_begin_34 w1_197 (lo_0 hP6 ho) fi_4_15 (Or.inl rfl) rfl ?_
  obtain ⟨M7, eM7, h⟩ := bndE h
  refine VV.mem eM7 ?_
  have hP7 := hP6.wI eM7
  refine Y_aload_n (pc := 37) (j := 0) dX3_begin_37 rfl rfl ?_
  refine Y_iload_n (pc := 38) (j := 1) dX3_begin_38 rfl rfl ?_
  obtain ⟨y1, qy1, h⟩ := bindE h
  have cy1 := v_X3_addFrame ho hP7 qy1
  refine C_V1o (pc := 39) (k' := k_X3_addFrame) dX3_begin_39 w5_31 i_X3_addFrame (lo_0 hP7 ho) ⟨Nat.le_of_ble_eq_true rfl, Nat.le_of_ble_eq_true rfl⟩ rfl (Nat.le_of_ble_eq_true rfl) (Nat.le_of_ble_eq_true rfl) (Nat.le_of_ble_eq_true rfl) (cy1) ?_
  have hPy1 := cy1.1.1
  refine Y_aload_n (pc := 42) (j := 0) dX3_begin_42 rfl rfl ?_
  refine Z_getr (pc := 43) dX3_begin_43 w1_171 (lo_0 hPy1 ho) fr_4_2 (lor_0_2 hPy1 ho) ?_
  refine Y_iconst (pc := 46) (v := (0 : Int32)) dX3_begin_46 rfl ?_
  refine Y_iconst (pc := 47) (v := (0 : Int32)) dX3_begin_47 rfl ?_
  obtain ⟨y2, qy2, h⟩ := bindE h
  have cy2 := v_X11_localPlace hPy1 qy2
  refine C_N2r (pc := 48) (k' := k_X11_localPlace) dX3_begin_48 nl_Machine_66 i_X11_localPlace (Nat.le_of_ble_eq_true rfl) (Nat.le_of_ble_eq_true rfl) (Nat.le_of_ble_eq_true rfl) (cy2) ?_
  have hPy2 := cy2.1.1
  refine Y_bipush (pc := 51) (v := (105 : Int32)) dX3_begin_51 rfl ?_
  refine Y_iload_n (pc := 53) (j := 2) dX3_begin_53 rfl rfl ?_
  obtain ⟨y3, qy3, h⟩ := bindE h
  have cy3 := v_X8_put ho hPy2 qy3
  refine C_V3o (pc := 54) (k' := k_X8_put) dX3_begin_54 w5_38 i_X8_put (lo_1 hPy2 ho) ⟨Nat.le_of_ble_eq_true rfl, Nat.le_of_ble_eq_true rfl⟩ rfl (Nat.le_of_ble_eq_true rfl) (Nat.le_of_ble_eq_true rfl) (Nat.le_of_ble_eq_true rfl) (cy3) ?_
  have hPy3 := cy3.1.1
  cases h
  exact Y_vret (pc := 57) rfl dX3_begin_57 hPy3 ⟨rfl, rfl⟩
theorem v_X3_begin {o : Nat} {x1 : Int32} {x2 : Int32} {M z} (ho : o = 18 ∨ o = 28) (hP : Lay M) (h : d_X3_begin o x1 x2 M = some z) : CC Lay k_X3_begin [.ref o, .int x1, .int x2] M z.2 (Qv (none) z.2) xF :=
  CC.ofVV (by decide) rfl (Nat.le_of_ble_eq_true rfl) (b_X3_begin ho hP h)
theorem b_X3_isRunning {o : Nat} {M z} (ho : o = 18 ∨ o = 28) (hP : Lay M) (h : d_X3_isRunning o M = some z) : VV Lay k_X3_isRunning 0 [(0, .ref o)] [] M z.2 (Qv (some (.int z.1)) z.2) xF := by
  unfold d_X3_isRunning at h
  refine Y_aload_n (pc := 0) (j := 0) dX3_isRunning_0 rfl rfl ?_
  refine Z_geti (pc := 1) dX3_isRunning_1 w1_193 (lo_0 hP ho) fi_4_13 ?_
  refine Y_bipush (pc := 4) (v := (45 : Int32)) dX3_isRunning_4 rfl ?_
  refine Y_icmp_ne (pc := 6) (tgt := 13) dX3_isRunning_6 (by decide) (fun hc1 => ?_) (fun hc1 => ?_)
  · replace h := ifF hc1 h
    refine Y_iconst (pc := 13) (v := (0 : Int32)) dX3_isRunning_13 rfl ?_
    cases h
    exact Y_iret (pc := 14) rfl (nar_bo (by decide)) dX3_isRunning_14 hP ⟨rfl, rfl⟩
  · replace h := ifT hc1 h
    refine Y_iconst (pc := 9) (v := (1 : Int32)) dX3_isRunning_9 rfl ?_
    refine Y_goto (pc := 10) (tgt := 14) dX3_isRunning_10 (by decide) ?_
    cases h
    exact Y_iret (pc := 14) rfl (nar_bo (by decide)) dX3_isRunning_14 hP ⟨rfl, rfl⟩
theorem v_X3_isRunning {o : Nat} {M z} (ho : o = 18 ∨ o = 28) (hP : Lay M) (h : d_X3_isRunning o M = some z) : CC Lay k_X3_isRunning [.ref o] M z.2 (Qv (some (.int z.1)) z.2) xF :=
  CC.ofVV (by decide) rfl (Nat.le_of_ble_eq_true rfl) (b_X3_isRunning ho hP h)
theorem b_X3_isAtLimit {o : Nat} {M z} (ho : o = 18 ∨ o = 28) (hP : Lay M) (h : d_X3_isAtLimit o M = some z) : VV Lay k_X3_isAtLimit 0 [(0, .ref o)] [] M z.2 (Qv (some (.int z.1)) z.2) xF := by
  unfold d_X3_isAtLimit at h
  refine Y_aload_n (pc := 0) (j := 0) dX3_isAtLimit_0 rfl rfl ?_
  refine Z_geti (pc := 1) dX3_isAtLimit_1 w1_191 (lo_0 hP ho) fi_4_12 ?_
  refine Y_sipush (pc := 4) (v := (1000 : Int32)) dX3_isAtLimit_4 rfl ?_
  refine Y_icmp_lt (pc := 7) (tgt := 14) dX3_isAtLimit_7 (by decide) (fun hc1 => ?_) (fun hc1 => ?_)
  · replace h := ifT hc1 h
    refine Y_iconst (pc := 14) (v := (0 : Int32)) dX3_isAtLimit_14 rfl ?_
    cases h
    exact Y_iret (pc := 15) rfl (nar_bo (by decide)) dX3_isAtLimit_15 hP ⟨rfl, rfl⟩
  · replace h := ifF hc1 h
    refine Y_iconst (pc := 10) (v := (1 : Int32)) dX3_isAtLimit_10 rfl ?_
    refine Y_goto (pc := 11) (tgt := 15) dX3_isAtLimit_11 (by decide) ?_
    cases h
    exact Y_iret (pc := 15) rfl (nar_bo (by decide)) dX3_isAtLimit_15 hP ⟨rfl, rfl⟩
theorem v_X3_isAtLimit {o : Nat} {M z} (ho : o = 18 ∨ o = 28) (hP : Lay M) (h : d_X3_isAtLimit o M = some z) : CC Lay k_X3_isAtLimit [.ref o] M z.2 (Qv (some (.int z.1)) z.2) xF :=
  CC.ofVV (by decide) rfl (Nat.le_of_ble_eq_true rfl) (b_X3_isAtLimit ho hP h)
theorem b_X3_functionAhead {o : Nat} {M z} (ho : o = 18 ∨ o = 28) (hP : Lay M) (h : d_X3_functionAhead o M = some z) : VV Lay k_X3_functionAhead 0 [(0, .ref o)] [] M z.2 (Qv (some (.int z.1)) z.2) xF := by
  unfold d_X3_functionAhead at h
  refine Y_aload_n (pc := 0) (j := 0) dX3_functionAhead_0 rfl rfl ?_
  refine Z_getr (pc := 1) dX3_functionAhead_1 w1_174 (lo_0 hP ho) fr_4_3 (lor_0_3 hP ho) ?_
  refine Y_aload_n (pc := 4) (j := 0) dX3_functionAhead_4 rfl rfl ?_
  refine Z_geti (pc := 5) dX3_functionAhead_5 w1_184 (lo_0 hP ho) fi_4_9 ?_
  refine Y_iconst (pc := 8) (v := (1 : Int32)) dX3_functionAhead_8 rfl ?_
  refine Y_isub (pc := 9) dX3_functionAhead_9 ?_
  obtain ⟨hb1, h⟩ := okE h
  refine Y_iald (pc := 10) dX3_functionAhead_10 (lo_6 hP ho) (lon_6 hP ho) hb1 ?_
  cases h
  exact Y_iret (pc := 11) rfl rfl dX3_functionAhead_11 hP ⟨rfl, rfl⟩
theorem v_X3_functionAhead {o : Nat} {M z} (ho : o = 18 ∨ o = 28) (hP : Lay M) (h : d_X3_functionAhead o M = some z) : CC Lay k_X3_functionAhead [.ref o] M z.2 (Qv (some (.int z.1)) z.2) xF :=
  CC.ofVV (by decide) rfl (Nat.le_of_ble_eq_true rfl) (b_X3_functionAhead ho hP h)
theorem b_X3_indexAhead {o : Nat} {M z} (ho : o = 18 ∨ o = 28) (hP : Lay M) (h : d_X3_indexAhead o M = some z) : VV Lay k_X3_indexAhead 0 [(0, .ref o)] [] M z.2 (Qv (some (.int z.1)) z.2) xF := by
  unfold d_X3_indexAhead at h
  refine Y_aload_n (pc := 0) (j := 0) dX3_indexAhead_0 rfl rfl ?_
  refine Z_getr (pc := 1) dX3_indexAhead_1 w1_175 (lo_0 hP ho) fr_4_4 (lor_0_4 hP ho) ?_
  refine Y_aload_n (pc := 4) (j := 0) dX3_indexAhead_4 rfl rfl ?_
  refine Z_geti (pc := 5) dX3_indexAhead_5 w1_184 (lo_0 hP ho) fi_4_9 ?_
  refine Y_iconst (pc := 8) (v := (1 : Int32)) dX3_indexAhead_8 rfl ?_
  refine Y_isub (pc := 9) dX3_indexAhead_9 ?_
  obtain ⟨hb1, h⟩ := okE h
  refine Y_iald (pc := 10) dX3_indexAhead_10 (lo_7 hP ho) (lon_7 hP ho) hb1 ?_
  cases h
  exact Y_iret (pc := 11) rfl rfl dX3_indexAhead_11 hP ⟨rfl, rfl⟩
theorem v_X3_indexAhead {o : Nat} {M z} (ho : o = 18 ∨ o = 28) (hP : Lay M) (h : d_X3_indexAhead o M = some z) : CC Lay k_X3_indexAhead [.ref o] M z.2 (Qv (some (.int z.1)) z.2) xF :=
  CC.ofVV (by decide) rfl (Nat.le_of_ble_eq_true rfl) (b_X3_indexAhead ho hP h)
theorem b_X3_lineAhead {o : Nat} {M z} (ho : o = 18 ∨ o = 28) (hP : Lay M) (h : d_X3_lineAhead o M = some z) : VV Lay k_X3_lineAhead 0 [(0, .ref o)] [] M z.2 (Qv (some (.int z.1)) z.2) xF := by
  unfold d_X3_lineAhead at h
  refine Y_aload_n (pc := 0) (j := 0) dX3_lineAhead_0 rfl rfl ?_
  obtain ⟨y1, qy1, h⟩ := bindE h
  have cy1 := v_X3_functionAhead ho hP qy1
  refine C_V0r (pc := 1) (k' := k_X3_functionAhead) dX3_lineAhead_1 w5_63 i_X3_functionAhead (lo_0 hP ho) ⟨Nat.le_of_ble_eq_true rfl, Nat.le_of_ble_eq_true rfl⟩ rfl (Nat.le_of_ble_eq_true rfl) (Nat.le_of_ble_eq_true rfl) (Nat.le_of_ble_eq_true rfl) (cy1) ?_
  have hPy1 := cy1.1.1
  refine Y_bipush (pc := 4) (v := (100 : Int32)) dX3_lineAhead_4 rfl ?_
  refine Y_imul (pc := 6) dX3_lineAhead_6 ?_
  refine Y_aload_n (pc := 7) (j := 0) dX3_lineAhead_7 rfl rfl ?_
  obtain ⟨y2, qy2, h⟩ := bindE h
  have cy2 := v_X3_indexAhead ho hPy1 qy2
  refine C_V0r (pc := 8) (k' := k_X3_indexAhead) dX3_lineAhead_8 w5_67 i_X3_indexAhead (lo_0 hPy1 ho) ⟨Nat.le_of_ble_eq_true rfl, Nat.le_of_ble_eq_true rfl⟩ rfl (Nat.le_of_ble_eq_true rfl) (Nat.le_of_ble_eq_true rfl) (Nat.le_of_ble_eq_true rfl) (cy2) ?_
  have hPy2 := cy2.1.1
  refine Y_iadd (pc := 11) dX3_lineAhead_11 ?_
  cases h
  exact Y_iret (pc := 12) rfl rfl dX3_lineAhead_12 hPy2 ⟨rfl, rfl⟩
theorem v_X3_lineAhead {o : Nat} {M z} (ho : o = 18 ∨ o = 28) (hP : Lay M) (h : d_X3_lineAhead o M = some z) : CC Lay k_X3_lineAhead [.ref o] M z.2 (Qv (some (.int z.1)) z.2) xF :=
  CC.ofVV (by decide) rfl (Nat.le_of_ble_eq_true rfl) (b_X3_lineAhead ho hP h)
theorem b_X3_endWith {o : Nat} {x1 : Int32} {x2 : Int32} {M z} (ho : o = 18 ∨ o = 28) (hP : Lay M) (h : d_X3_endWith o x1 x2 M = some z) : VV Lay k_X3_endWith 0 [(0, .ref o), (1, .int x1), (2, .int x2)] [] M z.2 (Qv (none) z.2) xF := by
  unfold d_X3_endWith at h
  refine Y_aload_n (pc := 0) (j := 0) dX3_endWith_0 rfl rfl ?_
  refine Y_bipush (pc := 1) (v := (120 : Int32)) dX3_endWith_1 rfl ?_
  refine Z_putc (pc := 3) dX3_endWith_3 w1_193 (lo_0 hP ho) fi_4_13 (Or.inl rfl) rfl (by decide) ?_
  obtain ⟨M1, eM1, h⟩ := bndE h
  refine VV.mem eM1 ?_
  have hP1 := hP.wI eM1
  refine Y_aload_n (pc := 6) (j := 0) dX3_endWith_6 rfl rfl ?_
  refine Y_iload_n (pc := 7) (j := 1) dX3_endWith_7 rfl rfl ?_
  obtain ⟨hb1, h⟩ := okE h
  refine Z_putc (pc := 8) dX3_endWith_8 w1_195 (lo_0 hP1 ho) fi_4_14 (Or.inl rfl) rfl hb1 ?_
  obtain ⟨M2, eM2, h⟩ := bndE h
  refine VV.mem eM2 ?_
  have hP2 := hP1.wI eM2
  refine Y_aload_n (pc := 11) (j := 0) dX3_endWith_11 rfl rfl ?_
  refine Y_iload_n (pc := 12) (j := 2) dX3_endWith_12 rfl rfl ?_
  refine Z_puti (pc := 13) dX3_endWith_13 w1_197 (lo_0 hP2 ho) fi_4_15 (Or.inl rfl) rfl ?_
  obtain ⟨M3, eM3, h⟩ := bndE h
  refine VV.mem eM3 ?_
  have hP3 := hP2.wI eM3
  cases h
  exact Y_vret (pc := 16) rfl dX3_endWith_16 hP3 ⟨rfl, rfl⟩
theorem v_X3_endWith {o : Nat} {x1 : Int32} {x2 : Int32} {M z} (ho : o = 18 ∨ o = 28) (hP : Lay M) (h : d_X3_endWith o x1 x2 M = some z) : CC Lay k_X3_endWith [.ref o, .int x1, .int x2] M z.2 (Qv (none) z.2) xF :=
  CC.ofVV (by decide) rfl (Nat.le_of_ble_eq_true rfl) (b_X3_endWith ho hP h)
theorem b_X3_endAtLimit {o : Nat} {M z} (ho : o = 18 ∨ o = 28) (hP : Lay M) (h : d_X3_endAtLimit o M = some z) : VV Lay k_X3_endAtLimit 0 [(0, .ref o)] [] M z.2 (Qv (none) z.2) xF := by
  unfold d_X3_endAtLimit at h
  refine Y_aload_n (pc := 0) (j := 0) dX3_endAtLimit_0 rfl rfl ?_
  refine Y_bipush (pc := 1) (v := (108 : Int32)) dX3_endAtLimit_1 rfl ?_
  refine Y_aload_n (pc := 3) (j := 0) dX3_endAtLimit_3 rfl rfl ?_
  obtain ⟨y1, qy1, h⟩ := bindE h
  have cy1 := v_X3_lineAhead ho hP qy1
  refine C_V0r (pc := 4) (k' := k_X3_lineAhead) dX3_endAtLimit_4 w5_59 i_X3_lineAhead (lo_0 hP ho) ⟨Nat.le_of_ble_eq_true rfl, Nat.le_of_ble_eq_true rfl⟩ rfl (Nat.le_of_ble_eq_true rfl) (Nat.le_of_ble_eq_true rfl) (Nat.le_of_ble_eq_true rfl) (cy1) ?_
  have hPy1 := cy1.1.1
  obtain ⟨y2, qy2, h⟩ := bindE h
  have cy2 := v_X3_endWith ho hPy1 qy2
  refine C_V2o (pc := 7) (k' := k_X3_endWith) dX3_endAtLimit_7 w5_71 i_X3_endWith (lo_0 hPy1 ho) ⟨Nat.le_of_ble_eq_true rfl, Nat.le_of_ble_eq_true rfl⟩ rfl (Nat.le_of_ble_eq_true rfl) (Nat.le_of_ble_eq_true rfl) (Nat.le_of_ble_eq_true rfl) (cy2) ?_
  have hPy2 := cy2.1.1
  cases h
  exact Y_vret (pc := 10) rfl dX3_endAtLimit_10 hPy2 ⟨rfl, rfl⟩
theorem v_X3_endAtLimit {o : Nat} {M z} (ho : o = 18 ∨ o = 28) (hP : Lay M) (h : d_X3_endAtLimit o M = some z) : CC Lay k_X3_endAtLimit [.ref o] M z.2 (Qv (none) z.2) xF :=
  CC.ofVV (by decide) rfl (Nat.le_of_ble_eq_true rfl) (b_X3_endAtLimit ho hP h)
theorem b_X5_hasCode {x1 : Int32} {x2 : Int32} {M z} (hP : Lay M) (h : d_X5_hasCode x1 x2 M = some z) : VV Lay k_X5_hasCode 0 [(0, .ref 2), (1, .int x1), (2, .int x2)] [] M z.2 (Qv (some (.int z.1)) z.2) xF := by
  unfold d_X5_hasCode at h
  refine Y_iload_n (pc := 0) (j := 2) dX5_hasCode_0 rfl rfl ?_
  refine Y_if_lt (pc := 1) (tgt := 18) dX5_hasCode_1 (by decide) (fun hc1 => ?_) (fun hc1 => ?_)
  · replace h := ifT hc1 h
    refine Y_iconst (pc := 18) (v := (0 : Int32)) dX5_hasCode_18 rfl ?_
    cases h
    exact Y_iret (pc := 19) rfl (nar_bo (by decide)) dX5_hasCode_19 hP ⟨rfl, rfl⟩
  · replace h := ifF hc1 h
    refine Y_iload_n (pc := 4) (j := 2) dX5_hasCode_4 rfl rfl ?_
    refine Y_aload_n (pc := 5) (j := 0) dX5_hasCode_5 rfl rfl ?_
    refine Z_getr (pc := 6) dX5_hasCode_6 w1_56 (lk_2 hP) fr_5_1 (lr_2_1 hP) ?_
    refine Y_iload_n (pc := 9) (j := 1) dX5_hasCode_9 rfl rfl ?_
    obtain ⟨hb1, h⟩ := okE h
    refine Y_iald (pc := 10) dX5_hasCode_10 (lk_4 hP) (ln_4 hP) hb1 ?_
    refine Y_icmp_ge (pc := 11) (tgt := 18) dX5_hasCode_11 (by decide) (fun hc2 => ?_) (fun hc2 => ?_)
    · replace h := ifT hc2 h
      refine Y_iconst (pc := 18) (v := (0 : Int32)) dX5_hasCode_18 rfl ?_
      cases h
      exact Y_iret (pc := 19) rfl (nar_bo (by decide)) dX5_hasCode_19 hP ⟨rfl, rfl⟩
    · replace h := ifF hc2 h
      refine Y_iconst (pc := 14) (v := (1 : Int32)) dX5_hasCode_14 rfl ?_
      refine Y_goto (pc := 15) (tgt := 19) dX5_hasCode_15 (by decide) ?_
      cases h
      exact Y_iret (pc := 19) rfl (nar_bo (by decide)) dX5_hasCode_19 hP ⟨rfl, rfl⟩
theorem v_X5_hasCode {x1 : Int32} {x2 : Int32} {M z} (hP : Lay M) (h : d_X5_hasCode x1 x2 M = some z) : CC Lay k_X5_hasCode [.ref 2, .int x1, .int x2] M z.2 (Qv (some (.int z.1)) z.2) xF :=
  CC.ofVV (by decide) rfl (Nat.le_of_ble_eq_true rfl) (b_X5_hasCode hP h)
theorem b_X3_siteAhead {o : Nat} {M z} (ho : o = 18 ∨ o = 28) (hP : Lay M) (h : d_X3_siteAhead o M = some z) : VV Lay k_X3_siteAhead 0 [(0, .ref o)] [] M z.2 (Qv (some (.int z.1)) z.2) xF := by
  unfold d_X3_siteAhead at h
  refine Y_aload_n (pc := 0) (j := 0) dX3_siteAhead_0 rfl rfl ?_
  obtain ⟨y1, qy1, h⟩ := bindE h
  have cy1 := v_X3_functionAhead ho hP qy1
  refine C_V0r (pc := 1) (k' := k_X3_functionAhead) dX3_siteAhead_1 w5_63 i_X3_functionAhead (lo_0 hP ho) ⟨Nat.le_of_ble_eq_true rfl, Nat.le_of_ble_eq_true rfl⟩ rfl (Nat.le_of_ble_eq_true rfl) (Nat.le_of_ble_eq_true rfl) (Nat.le_of_ble_eq_true rfl) (cy1) ?_
  have hPy1 := cy1.1.1
  refine Y_aload_n (pc := 4) (j := 0) dX3_siteAhead_4 rfl rfl ?_
  obtain ⟨y2, qy2, h⟩ := bindE h
  have cy2 := v_X3_indexAhead ho hPy1 qy2
  refine C_V0r (pc := 5) (k' := k_X3_indexAhead) dX3_siteAhead_5 w5_67 i_X3_indexAhead (lo_0 hPy1 ho) ⟨Nat.le_of_ble_eq_true rfl, Nat.le_of_ble_eq_true rfl⟩ rfl (Nat.le_of_ble_eq_true rfl) (Nat.le_of_ble_eq_true rfl) (Nat.le_of_ble_eq_true rfl) (cy2) ?_
  have hPy2 := cy2.1.1
  obtain ⟨y3, qy3, h⟩ := bindE h
  have cy3 := v_X11_siteOf hPy2 qy3
  refine C_N2r (pc := 8) (k' := k_X11_siteOf) dX3_siteAhead_8 nl_Machine_110 i_X11_siteOf (Nat.le_of_ble_eq_true rfl) (Nat.le_of_ble_eq_true rfl) (Nat.le_of_ble_eq_true rfl) (cy3) ?_
  have hPy3 := cy3.1.1
  cases h
  exact Y_iret (pc := 11) rfl rfl dX3_siteAhead_11 hPy3 ⟨rfl, rfl⟩
theorem v_X3_siteAhead {o : Nat} {M z} (ho : o = 18 ∨ o = 28) (hP : Lay M) (h : d_X3_siteAhead o M = some z) : CC Lay k_X3_siteAhead [.ref o] M z.2 (Qv (some (.int z.1)) z.2) xF :=
  CC.ofVV (by decide) rfl (Nat.le_of_ble_eq_true rfl) (b_X3_siteAhead ho hP h)
set_option maxRecDepth 20000 in
theorem b_X3_takes {o : Nat} {x1 : Int32} {x2 : Int32} {M z} (ho : o = 18 ∨ o = 28) (hP : Lay M) (h : d_X3_takes o x1 x2 M = some z) : VV Lay k_X3_takes 0 [(0, .ref o), (1, .int x1), (2, .int x2)] [] M z.2 (Qv (some (.int z.1)) z.2) xF := by
  unfold d_X3_takes at h
  refine Y_iload_n (pc := 0) (j := 1) dX3_takes_0 rfl rfl ?_
  refine Y_table (pc := 1) dX3_takes_1 [(99, 76), (100, 86), (101, 86), (102, 86), (103, 86), (104, 86), (105, 72), (106, 72), (107, 72), (108, 72), (109, 86), (110, 72), (111, 86), (112, 74)] 86 (by decide) (tab_ok (by decide +kernel)) (by decide) ?_ ?_
  · refine xs_cons ?_ <| xs_cons ?_ <| xs_cons ?_ <| xs_cons ?_ <| xs_cons ?_ <| xs_cons ?_ <| xs_cons ?_ <| xs_cons ?_ <| xs_cons ?_ <| xs_cons ?_ <| xs_cons ?_ <| xs_cons ?_ <| xs_cons ?_ <| xs_cons ?_ <| xs_nil
    · intro e9
      replace h := ifT (by rw [e9] <;> decide) h
      refine Y_aload_n (pc := 76) (j := 0) dX3_takes_76 rfl rfl ?_
      refine Z_getr (pc := 77) dX3_takes_77 w1_167 (lo_0 hP ho) fr_4_0 (lor_0_0 hP ho) ?_
      refine Z_getr (pc := 80) dX3_takes_80 w1_55 (lk_2 hP) fr_5_0 (lr_2_0 hP) ?_
      refine Y_iload_n (pc := 83) (j := 2) dX3_takes_83 rfl rfl ?_
      obtain ⟨hb1, h⟩ := okE h
      refine Y_iald (pc := 84) dX3_takes_84 (lk_3 hP) (ln_3 hP) hb1 ?_
      cases h
      exact Y_iret (pc := 85) rfl rfl dX3_takes_85 hP ⟨rfl, rfl⟩
    · intro e9
      replace h := ifF (by rw [e9] <;> decide) h
      replace h := ifF (by rw [e9] <;> decide) h
      replace h := ifF (by rw [e9] <;> decide) h
      refine Y_ldcS (pc := 86) (i := 1) dX3_takes_86 rfl ?_
      refine Y_iload_n (pc := 88) (j := 1) dX3_takes_88 rfl rfl ?_
      refine Y_indexOf (pc := 89) dX3_takes_89 w5_97 (i := 1) (by decide) (Nat.le_of_ble_eq_true rfl) (Nat.le_of_ble_eq_true rfl) (Nat.le_of_ble_eq_true rfl) ?_
      refine Y_if_lt (pc := 92) (tgt := 99) dX3_takes_92 (by decide) (fun hc1 => ?_) (fun hc1 => ?_)
      · replace h := ifT hc1 h
        refine Y_iconst (pc := 99) (v := (1 : Int32)) dX3_takes_99 rfl ?_
        cases h
        exact Y_iret (pc := 100) rfl rfl dX3_takes_100 hP ⟨rfl, rfl⟩
      · replace h := ifF hc1 h
        refine Y_iconst (pc := 95) (v := (2 : Int32)) dX3_takes_95 rfl ?_
        refine Y_goto (pc := 96) (tgt := 100) dX3_takes_96 (by decide) ?_
        cases h
        exact Y_iret (pc := 100) rfl rfl dX3_takes_100 hP ⟨rfl, rfl⟩
    · intro e9
      replace h := ifF (by rw [e9] <;> decide) h
      replace h := ifF (by rw [e9] <;> decide) h
      replace h := ifF (by rw [e9] <;> decide) h
      refine Y_ldcS (pc := 86) (i := 1) dX3_takes_86 rfl ?_
      refine Y_iload_n (pc := 88) (j := 1) dX3_takes_88 rfl rfl ?_
      refine Y_indexOf (pc := 89) dX3_takes_89 w5_97 (i := 1) (by decide) (Nat.le_of_ble_eq_true rfl) (Nat.le_of_ble_eq_true rfl) (Nat.le_of_ble_eq_true rfl) ?_
      refine Y_if_lt (pc := 92) (tgt := 99) dX3_takes_92 (by decide) (fun hc1 => ?_) (fun hc1 => ?_)
      · replace h := ifT hc1 h
        refine Y_iconst (pc := 99) (v := (1 : Int32)) dX3_takes_99 rfl ?_
        cases h
        exact Y_iret (pc := 100) rfl rfl dX3_takes_100 hP ⟨rfl, rfl⟩
      · replace h := ifF hc1 h
        refine Y_iconst (pc := 95) (v := (2 : Int32)) dX3_takes_95 rfl ?_
        refine Y_goto (pc := 96) (tgt := 100) dX3_takes_96 (by decide) ?_
        cases h
        exact Y_iret (pc := 100) rfl rfl dX3_takes_100 hP ⟨rfl, rfl⟩
    · intro e9
      replace h := ifF (by rw [e9] <;> decide) h
      replace h := ifF (by rw [e9] <;> decide) h
      replace h := ifF (by rw [e9] <;> decide) h
      refine Y_ldcS (pc := 86) (i := 1) dX3_takes_86 rfl ?_
      refine Y_iload_n (pc := 88) (j := 1) dX3_takes_88 rfl rfl ?_
      refine Y_indexOf (pc := 89) dX3_takes_89 w5_97 (i := 1) (by decide) (Nat.le_of_ble_eq_true rfl) (Nat.le_of_ble_eq_true rfl) (Nat.le_of_ble_eq_true rfl) ?_
      refine Y_if_lt (pc := 92) (tgt := 99) dX3_takes_92 (by decide) (fun hc1 => ?_) (fun hc1 => ?_)
      · replace h := ifT hc1 h
        refine Y_iconst (pc := 99) (v := (1 : Int32)) dX3_takes_99 rfl ?_
        cases h
        exact Y_iret (pc := 100) rfl rfl dX3_takes_100 hP ⟨rfl, rfl⟩
      · replace h := ifF hc1 h
        refine Y_iconst (pc := 95) (v := (2 : Int32)) dX3_takes_95 rfl ?_
        refine Y_goto (pc := 96) (tgt := 100) dX3_takes_96 (by decide) ?_
        cases h
        exact Y_iret (pc := 100) rfl rfl dX3_takes_100 hP ⟨rfl, rfl⟩
    · intro e9
      replace h := ifF (by rw [e9] <;> decide) h
      replace h := ifF (by rw [e9] <;> decide) h
      replace h := ifF (by rw [e9] <;> decide) h
      refine Y_ldcS (pc := 86) (i := 1) dX3_takes_86 rfl ?_
      refine Y_iload_n (pc := 88) (j := 1) dX3_takes_88 rfl rfl ?_
      refine Y_indexOf (pc := 89) dX3_takes_89 w5_97 (i := 1) (by decide) (Nat.le_of_ble_eq_true rfl) (Nat.le_of_ble_eq_true rfl) (Nat.le_of_ble_eq_true rfl) ?_
      refine Y_if_lt (pc := 92) (tgt := 99) dX3_takes_92 (by decide) (fun hc1 => ?_) (fun hc1 => ?_)
      · replace h := ifT hc1 h
        refine Y_iconst (pc := 99) (v := (1 : Int32)) dX3_takes_99 rfl ?_
        cases h
        exact Y_iret (pc := 100) rfl rfl dX3_takes_100 hP ⟨rfl, rfl⟩
      · replace h := ifF hc1 h
        refine Y_iconst (pc := 95) (v := (2 : Int32)) dX3_takes_95 rfl ?_
        refine Y_goto (pc := 96) (tgt := 100) dX3_takes_96 (by decide) ?_
        cases h
        exact Y_iret (pc := 100) rfl rfl dX3_takes_100 hP ⟨rfl, rfl⟩
    · intro e9
      replace h := ifF (by rw [e9] <;> decide) h
      replace h := ifF (by rw [e9] <;> decide) h
      replace h := ifF (by rw [e9] <;> decide) h
      refine Y_ldcS (pc := 86) (i := 1) dX3_takes_86 rfl ?_
      refine Y_iload_n (pc := 88) (j := 1) dX3_takes_88 rfl rfl ?_
      refine Y_indexOf (pc := 89) dX3_takes_89 w5_97 (i := 1) (by decide) (Nat.le_of_ble_eq_true rfl) (Nat.le_of_ble_eq_true rfl) (Nat.le_of_ble_eq_true rfl) ?_
      refine Y_if_lt (pc := 92) (tgt := 99) dX3_takes_92 (by decide) (fun hc1 => ?_) (fun hc1 => ?_)
      · replace h := ifT hc1 h
        refine Y_iconst (pc := 99) (v := (1 : Int32)) dX3_takes_99 rfl ?_
        cases h
        exact Y_iret (pc := 100) rfl rfl dX3_takes_100 hP ⟨rfl, rfl⟩
      · replace h := ifF hc1 h
        refine Y_iconst (pc := 95) (v := (2 : Int32)) dX3_takes_95 rfl ?_
        refine Y_goto (pc := 96) (tgt := 100) dX3_takes_96 (by decide) ?_
        cases h
        exact Y_iret (pc := 100) rfl rfl dX3_takes_100 hP ⟨rfl, rfl⟩
    · intro e9
      replace h := ifF (by rw [e9] <;> decide) h
      replace h := ifT (by rw [e9] <;> decide) h
      refine Y_iconst (pc := 72) (v := (0 : Int32)) dX3_takes_72 rfl ?_
      cases h
      exact Y_iret (pc := 73) rfl rfl dX3_takes_73 hP ⟨rfl, rfl⟩
    · intro e9
      replace h := ifF (by rw [e9] <;> decide) h
      replace h := ifT (by rw [e9] <;> decide) h
      refine Y_iconst (pc := 72) (v := (0 : Int32)) dX3_takes_72 rfl ?_
      cases h
      exact Y_iret (pc := 73) rfl rfl dX3_takes_73 hP ⟨rfl, rfl⟩
    · intro e9
      replace h := ifF (by rw [e9] <;> decide) h
      replace h := ifT (by rw [e9] <;> decide) h
      refine Y_iconst (pc := 72) (v := (0 : Int32)) dX3_takes_72 rfl ?_
      cases h
      exact Y_iret (pc := 73) rfl rfl dX3_takes_73 hP ⟨rfl, rfl⟩
    · intro e9
      replace h := ifF (by rw [e9] <;> decide) h
      replace h := ifT (by rw [e9] <;> decide) h
      refine Y_iconst (pc := 72) (v := (0 : Int32)) dX3_takes_72 rfl ?_
      cases h
      exact Y_iret (pc := 73) rfl rfl dX3_takes_73 hP ⟨rfl, rfl⟩
    · intro e9
      replace h := ifF (by rw [e9] <;> decide) h
      replace h := ifF (by rw [e9] <;> decide) h
      replace h := ifF (by rw [e9] <;> decide) h
      refine Y_ldcS (pc := 86) (i := 1) dX3_takes_86 rfl ?_
      refine Y_iload_n (pc := 88) (j := 1) dX3_takes_88 rfl rfl ?_
      refine Y_indexOf (pc := 89) dX3_takes_89 w5_97 (i := 1) (by decide) (Nat.le_of_ble_eq_true rfl) (Nat.le_of_ble_eq_true rfl) (Nat.le_of_ble_eq_true rfl) ?_
      refine Y_if_lt (pc := 92) (tgt := 99) dX3_takes_92 (by decide) (fun hc1 => ?_) (fun hc1 => ?_)
      · replace h := ifT hc1 h
        refine Y_iconst (pc := 99) (v := (1 : Int32)) dX3_takes_99 rfl ?_
        cases h
        exact Y_iret (pc := 100) rfl rfl dX3_takes_100 hP ⟨rfl, rfl⟩
      · replace h := ifF hc1 h
        refine Y_iconst (pc := 95) (v := (2 : Int32)) dX3_takes_95 rfl ?_
        refine Y_goto (pc := 96) (tgt := 100) dX3_takes_96 (by decide) ?_
        cases h
        exact Y_iret (pc := 100) rfl rfl dX3_takes_100 hP ⟨rfl, rfl⟩
    · intro e9
      replace h := ifF (by rw [e9] <;> decide) h
      replace h := ifT (by rw [e9] <;> decide) h
      refine Y_iconst (pc := 72) (v := (0 : Int32)) dX3_takes_72 rfl ?_
      cases h
      exact Y_iret (pc := 73) rfl rfl dX3_takes_73 hP ⟨rfl, rfl⟩
    · intro e9
      replace h := ifF (by rw [e9] <;> decide) h
      replace h := ifF (by rw [e9] <;> decide) h
      replace h := ifF (by rw [e9] <;> decide) h
      refine Y_ldcS (pc := 86) (i := 1) dX3_takes_86 rfl ?_
      refine Y_iload_n (pc := 88) (j := 1) dX3_takes_88 rfl rfl ?_
      refine Y_indexOf (pc := 89) dX3_takes_89 w5_97 (i := 1) (by decide) (Nat.le_of_ble_eq_true rfl) (Nat.le_of_ble_eq_true rfl) (Nat.le_of_ble_eq_true rfl) ?_
      refine Y_if_lt (pc := 92) (tgt := 99) dX3_takes_92 (by decide) (fun hc1 => ?_) (fun hc1 => ?_)
      · replace h := ifT hc1 h
        refine Y_iconst (pc := 99) (v := (1 : Int32)) dX3_takes_99 rfl ?_
        cases h
        exact Y_iret (pc := 100) rfl rfl dX3_takes_100 hP ⟨rfl, rfl⟩
      · replace h := ifF hc1 h
        refine Y_iconst (pc := 95) (v := (2 : Int32)) dX3_takes_95 rfl ?_
        refine Y_goto (pc := 96) (tgt := 100) dX3_takes_96 (by decide) ?_
        cases h
        exact Y_iret (pc := 100) rfl rfl dX3_takes_100 hP ⟨rfl, rfl⟩
    · intro e9
      replace h := ifF (by rw [e9] <;> decide) h
      replace h := ifF (by rw [e9] <;> decide) h
      replace h := ifT (by rw [e9] <;> decide) h
      refine Y_iconst (pc := 74) (v := (2 : Int32)) dX3_takes_74 rfl ?_
      cases h
      exact Y_iret (pc := 75) rfl rfl dX3_takes_75 hP ⟨rfl, rfl⟩
  · intro n9
    replace h := ifF (xs_no n9 (by decide : ((99 : Int32), 76) ∈ _)) h
    replace h := ifF (fun q => q.elim (xs_no n9 (by decide : ((105 : Int32), 72) ∈ _)) (fun q => q.elim (xs_no n9 (by decide : ((106 : Int32), 72) ∈ _)) (fun q => q.elim (xs_no n9 (by decide : ((107 : Int32), 72) ∈ _)) (fun q => q.elim (xs_no n9 (by decide : ((108 : Int32), 72) ∈ _)) (xs_no n9 (by decide : ((110 : Int32), 72) ∈ _)))))) h
    replace h := ifF (xs_no n9 (by decide : ((112 : Int32), 74) ∈ _)) h
    refine Y_ldcS (pc := 86) (i := 1) dX3_takes_86 rfl ?_
    refine Y_iload_n (pc := 88) (j := 1) dX3_takes_88 rfl rfl ?_
    refine Y_indexOf (pc := 89) dX3_takes_89 w5_97 (i := 1) (by decide) (Nat.le_of_ble_eq_true rfl) (Nat.le_of_ble_eq_true rfl) (Nat.le_of_ble_eq_true rfl) ?_
    refine Y_if_lt (pc := 92) (tgt := 99) dX3_takes_92 (by decide) (fun hc1 => ?_) (fun hc1 => ?_)
    · replace h := ifT hc1 h
      refine Y_iconst (pc := 99) (v := (1 : Int32)) dX3_takes_99 rfl ?_
      cases h
      exact Y_iret (pc := 100) rfl rfl dX3_takes_100 hP ⟨rfl, rfl⟩
    · replace h := ifF hc1 h
      refine Y_iconst (pc := 95) (v := (2 : Int32)) dX3_takes_95 rfl ?_
      refine Y_goto (pc := 96) (tgt := 100) dX3_takes_96 (by decide) ?_
      cases h
      exact Y_iret (pc := 100) rfl rfl dX3_takes_100 hP ⟨rfl, rfl⟩
theorem v_X3_takes {o : Nat} {x1 : Int32} {x2 : Int32} {M z} (ho : o = 18 ∨ o = 28) (hP : Lay M) (h : d_X3_takes o x1 x2 M = some z) : CC Lay k_X3_takes [.ref o, .int x1, .int x2] M z.2 (Qv (some (.int z.1)) z.2) xF :=
  CC.ofVV (by decide) rfl (Nat.le_of_ble_eq_true rfl) (b_X3_takes ho hP h)
end VCR

