/-! ===== what the methods reckon (printed by a program) ===== -/
section VCR
theorem b_X12_init_560b {M0 : Mem} {k560 : (Int32) → Mem → Option (Unit × Mem)} {r0 : Nat} {x1 : Int32} {M z} (hk560 : ∀ (a : (Int32)) (M : Mem) (z : Unit × Mem), (Kx r0 M0) M → k560 a M = some z → VV (Kx r0 M0) k_X12_init 560 [(0, .ref r0), (1, .int a)] [] M z.2 (Qv (none) z.2) xF) (hP : (Kx r0 M0) M) (h : d_X12_init_560b k560 r0 x1 M = some z) : VV (Kx r0 M0) k_X12_init 560 [(0, .ref r0), (1, .int x1)] [] M z.2 (Qv (none) z.2) xF := by
  unfold d_X12_init_560b at h
  refine Y_iload_n (pc := 560) (j := 1) dX12_init_560 rfl rfl ?_
  refine Y_bipush (pc := 561) (v := (8 : Int32)) dX12_init_561 rfl ?_
  refine Y_icmp_ge (pc := 563) (tgt := 579) dX12_init_563 (by decide) (fun hc1 => ?_) (fun hc1 => ?_)
  · replace h := ifT hc1 h
    cases h
    exact Y_vret (pc := 579) rfl dX12_init_579 hP ⟨rfl, rfl⟩
  · replace h := ifF hc1 h
    refine Y_aload_n (pc := 566) (j := 0) dX12_init_566 rfl rfl ?_
    obtain ⟨hb1, h⟩ := okE h
    obtain ⟨r_1, er_1, h⟩ := bindE h
    refine Z_getr (pc := 567) dX12_init_567 w8_72 hb1 fr_12_6 er_1 ?_
    refine Y_iload_n (pc := 570) (j := 1) dX12_init_570 rfl rfl ?_
    refine Y_iconst (pc := 571) (v := (-1 : Int32)) dX12_init_571 rfl ?_
    obtain ⟨hb2, h⟩ := okE h
    obtain ⟨hb3, h⟩ := okE h
    refine Y_iast (pc := 572) dX12_init_572 hb2 rfl hb3 ?_
    obtain ⟨M1, eM1, h⟩ := bndE h
    refine VV.mem eM1 ?_
    have hP1 := hP.wI eM1
    obtain ⟨b1, eb1, h⟩ := bndE h
    refine Y_iinc (pc := 573) (j := 1) (v := b1) (lv1 := [(1, .int b1), (0, .ref r0)]) dX12_init_573 rfl eb1.symm (by decide) rfl ?_
    refine Y_goto (pc := 576) (tgt := 560) dX12_init_576 (by decide) ?_
    refine VV.sub [1, 0] rfl ?_
    exact hk560 _ _ _ hP1 h
theorem b_X12_init_560 {M0 : Mem} {r0 : Nat} (n : Nat) : ∀ (a : (Int32)) (M : Mem) (z : Unit × Mem), d_X12_init_560 r0 n a M = some z → (Kx r0 M0) M → VV (Kx r0 M0) k_X12_init 560 [(0, .ref r0), (1, .int a)] [] M z.2 (Qv (none) z.2) xF :=
  lp_ind (G := fun (a : (Int32)) (M : Mem) (z : Unit × Mem) => (Kx r0 M0) M → VV (Kx r0 M0) k_X12_init 560 [(0, .ref r0), (1, .int a)] [] M z.2 (Qv (none) z.2) xF) (fun k hk a M z h hP => b_X12_init_560b  (fun a M z hP h => hk a M z h hP) hP h) n
theorem b_X12_init_538b {M0 : Mem} {k538 : (Int32) → Mem → Option (Unit × Mem)} {r0 : Nat} {x1 : Int32} {M z} (hk538 : ∀ (a : (Int32)) (M : Mem) (z : Unit × Mem), (Kx r0 M0) M → k538 a M = some z → VV (Kx r0 M0) k_X12_init 538 [(0, .ref r0), (1, .int a)] [] M z.2 (Qv (none) z.2) xF) (hP : (Kx r0 M0) M) (h : d_X12_init_538b k538 r0 x1 M = some z) : VV (Kx r0 M0) k_X12_init 538 [(0, .ref r0), (1, .int x1)] [] M z.2 (Qv (none) z.2) xF := by
  unfold d_X12_init_538b at h
  refine Y_iload_n (pc := 538) (j := 1) dX12_init_538 rfl rfl ?_
  refine Y_sipush (pc := 539) (v := (360 : Int32)) dX12_init_539 rfl ?_
  refine Y_icmp_ge (pc := 542) (tgt := 558) dX12_init_542 (by decide) (fun hc1 => ?_) (fun hc1 => ?_)
  · replace h := ifT hc1 h
    refine Y_iconst (pc := 558) (v := (0 : Int32)) dX12_init_558 rfl ?_
    refine Y_istore_n (pc := 559) (lv1 := [(1, .int (0 : Int32)), (0, .ref r0)]) dX12_init_559 rfl (by decide) rfl ?_
    refine VV.sub [1, 0] rfl ?_
    exact b_X12_init_560  fuel _ _ _ h hP
  · replace h := ifF hc1 h
    refine Y_aload_n (pc := 545) (j := 0) dX12_init_545 rfl rfl ?_
    obtain ⟨hb1, h⟩ := okE h
    obtain ⟨r_1, er_1, h⟩ := bindE h
    refine Z_getr (pc := 546) dX12_init_546 w8_82 hb1 fr_12_16 er_1 ?_
    refine Y_iload_n (pc := 549) (j := 1) dX12_init_549 rfl rfl ?_
    refine Y_iconst (pc := 550) (v := (-1 : Int32)) dX12_init_550 rfl ?_
    obtain ⟨hb2, h⟩ := okE h
    obtain ⟨hb3, h⟩ := okE h
    refine Y_iast (pc := 551) dX12_init_551 hb2 rfl hb3 ?_
    obtain ⟨M1, eM1, h⟩ := bndE h
    refine VV.mem eM1 ?_
    have hP1 := hP.wI eM1
    obtain ⟨b1, eb1, h⟩ := bndE h
    refine Y_iinc (pc := 552) (j := 1) (v := b1) (lv1 := [(1, .int b1), (0, .ref r0)]) dX12_init_552 rfl eb1.symm (by decide) rfl ?_
    refine Y_goto (pc := 555) (tgt := 538) dX12_init_555 (by decide) ?_
    refine VV.sub [1, 0] rfl ?_
    exact hk538 _ _ _ hP1 h
theorem b_X12_init_538 {M0 : Mem} {r0 : Nat} (n : Nat) : ∀ (a : (Int32)) (M : Mem) (z : Unit × Mem), d_X12_init_538 r0 n a M = some z → (Kx r0 M0) M → VV (Kx r0 M0) k_X12_init 538 [(0, .ref r0), (1, .int a)] [] M z.2 (Qv (none) z.2) xF :=
  lp_ind (G := fun (a : (Int32)) (M : Mem) (z : Unit × Mem) => (Kx r0 M0) M → VV (Kx r0 M0) k_X12_init 538 [(0, .ref r0), (1, .int a)] [] M z.2 (Qv (none) z.2) xF) (fun k hk a M z h hP => b_X12_init_538b  (fun a M z hP h => hk a M z h hP) hP h) n
theorem b_X12_init_517b {M0 : Mem} {k517 : (Int32) → Mem → Option (Unit × Mem)} {r0 : Nat} {x1 : Int32} {M z} (hk517 : ∀ (a : (Int32)) (M : Mem) (z : Unit × Mem), (Kx r0 M0) M → k517 a M = some z → VV (Kx r0 M0) k_X12_init 517 [(0, .ref r0), (1, .int a)] [] M z.2 (Qv (none) z.2) xF) (hP : (Kx r0 M0) M) (h : d_X12_init_517b k517 r0 x1 M = some z) : VV (Kx r0 M0) k_X12_init 517 [(0, .ref r0), (1, .int x1)] [] M z.2 (Qv (none) z.2) xF := by
  unfold d_X12_init_517b at h
  refine Y_iload_n (pc := 517) (j := 1) dX12_init_517 rfl rfl ?_
  refine Y_bipush (pc := 518) (v := (30 : Int32)) dX12_init_518 rfl ?_
  refine Y_icmp_ge (pc := 520) (tgt := 536) dX12_init_520 (by decide) (fun hc1 => ?_) (fun hc1 => ?_)
  · replace h := ifT hc1 h
    refine Y_iconst (pc := 536) (v := (0 : Int32)) dX12_init_536 rfl ?_
    refine Y_istore_n (pc := 537) (lv1 := [(1, .int (0 : Int32)), (0, .ref r0)]) dX12_init_537 rfl (by decide) rfl ?_
    refine VV.sub [1, 0] rfl ?_
    exact b_X12_init_538  fuel _ _ _ h hP
  · replace h := ifF hc1 h
    refine Y_aload_n (pc := 523) (j := 0) dX12_init_523 rfl rfl ?_
    obtain ⟨hb1, h⟩ := okE h
    obtain ⟨r_1, er_1, h⟩ := bindE h
    refine Z_getr (pc := 524) dX12_init_524 w8_76 hb1 fr_12_10 er_1 ?_
    refine Y_iload_n (pc := 527) (j := 1) dX12_init_527 rfl rfl ?_
    refine Y_iconst (pc := 528) (v := (-1 : Int32)) dX12_init_528 rfl ?_
    obtain ⟨hb2, h⟩ := okE h
    obtain ⟨hb3, h⟩ := okE h
    refine Y_iast (pc := 529) dX12_init_529 hb2 rfl hb3 ?_
    obtain ⟨M1, eM1, h⟩ := bndE h
    refine VV.mem eM1 ?_
    have hP1 := hP.wI eM1
    obtain ⟨b1, eb1, h⟩ := bndE h
    refine Y_iinc (pc := 530) (j := 1) (v := b1) (lv1 := [(1, .int b1), (0, .ref r0)]) dX12_init_530 rfl eb1.symm (by decide) rfl ?_
    refine Y_goto (pc := 533) (tgt := 517) dX12_init_533 (by decide) ?_
    refine VV.sub [1, 0] rfl ?_
    exact hk517 _ _ _ hP1 h
theorem b_X12_init_517 {M0 : Mem} {r0 : Nat} (n : Nat) : ∀ (a : (Int32)) (M : Mem) (z : Unit × Mem), d_X12_init_517 r0 n a M = some z → (Kx r0 M0) M → VV (Kx r0 M0) k_X12_init 517 [(0, .ref r0), (1, .int a)] [] M z.2 (Qv (none) z.2) xF :=
  lp_ind (G := fun (a : (Int32)) (M : Mem) (z : Unit × Mem) => (Kx r0 M0) M → VV (Kx r0 M0) k_X12_init 517 [(0, .ref r0), (1, .int a)] [] M z.2 (Qv (none) z.2) xF) (fun k hk a M z h hP => b_X12_init_517b  (fun a M z hP h => hk a M z h hP) hP h) n
set_option maxRecDepth 20000 in
theorem b_X12_init {M0 : Mem} {r0 : Nat} {M z} (hP : (Kx r0 M0) M) (h : d_X12_init r0 M = some z) : VV (Kx r0 M0) k_X12_init 0 [(0, .ref r0)] [] M z.2 (Qv (none) z.2) xF := by
  unfold d_X12_init at h
  refine Y_aload_n (pc := 0) (j := 0) dX12_init_0 rfl rfl ?_
  refine Y_oinit (pc := 1) dX12_init_1 w8_65 (Nat.le_of_ble_eq_true rfl) (Nat.le_of_ble_eq_true rfl) (Nat.le_of_ble_eq_true rfl) ?_
  refine Y_aload_n (pc := 4) (j := 0) dX12_init_4 rfl rfl ?_
  refine Y_bipush (pc := 5) (v := (8 : Int32)) dX12_init_5 rfl ?_
  obtain ⟨r_1, er_1, h⟩ := bndE h
  obtain ⟨hb1, h⟩ := okE h
  refine Y_newa (pc := 7) (a := r_1) (t := 21) (N := 8) dX12_init_7 (by decide) (by decide) rfl w1_100 (hP.free er_1) hb1 (by decide) rfl (by decide) ?_
  obtain ⟨M1, eM1, h⟩ := bndE h
  refine VV.mem eM1 ?_
  have hP1 := hP.wN er_1 (by decide) eM1
  obtain ⟨hb2, h⟩ := okE h
  refine Z_putr (pc := 9) dX12_init_9 w8_68 hb2 fr_12_2 (Or.inr ⟨rfl, rfl⟩) (Or.inr ⟨_, rfl⟩) ?_
  obtain ⟨M2, eM2, h⟩ := bndE h
  refine VV.mem eM2 ?_
  have hP2 := hP1.wR0 (by omega) eM2
  refine Y_aload_n (pc := 12) (j := 0) dX12_init_12 rfl rfl ?_
  refine Y_bipush (pc := 13) (v := (8 : Int32)) dX12_init_13 rfl ?_
  obtain ⟨r_2, er_2, h⟩ := bndE h
  obtain ⟨hb3, h⟩ := okE h
  refine Y_newa (pc := 15) (a := r_2) (t := 21) (N := 8) dX12_init_15 (by decide) (by decide) rfl w1_100 (hP2.free er_2) hb3 (by decide) rfl (by decide) ?_
  obtain ⟨M3, eM3, h⟩ := bndE h
  refine VV.mem eM3 ?_
  have hP3 := hP2.wN er_2 (by decide) eM3
  obtain ⟨hb4, h⟩ := okE h
  refine Z_putr (pc := 17) dX12_init_17 w8_69 hb4 fr_12_3 (Or.inr ⟨rfl, rfl⟩) (Or.inr ⟨_, rfl⟩) ?_
  obtain ⟨M4, eM4, h⟩ := bndE h
  refine VV.mem eM4 ?_
  have hP4 := hP3.wR0 (by omega) eM4
  refine Y_aload_n (pc := 20) (j := 0) dX12_init_20 rfl rfl ?_
  refine Y_sipush (pc := 21) (v := (320 : Int32)) dX12_init_21 rfl ?_
  obtain ⟨r_3, er_3, h⟩ := bndE h
  obtain ⟨hb5, h⟩ := okE h
  refine Y_newa (pc := 24) (a := r_3) (t := 22) (N := 320) dX12_init_24 (by decide) (by decide) rfl w1_101 (hP4.free er_3) hb5 (by decide) rfl (by decide) ?_
  obtain ⟨M5, eM5, h⟩ := bndE h
  refine VV.mem eM5 ?_
  have hP5 := hP4.wN er_3 (by decide) eM5
  obtain ⟨hb6, h⟩ := okE h
  refine Z_putr (pc := 26) dX12_init_26 w8_70 hb6 fr_12_4 (Or.inr ⟨rfl, rfl⟩) (Or.inr ⟨_, rfl⟩) ?_
  obtain ⟨M6, eM6, h⟩ := bndE h
  refine VV.mem eM6 ?_
  have hP6 := hP5.wR0 (by omega) eM6
  refine Y_aload_n (pc := 29) (j := 0) dX12_init_29 rfl rfl ?_
  refine Y_sipush (pc := 30) (v := (320 : Int32)) dX12_init_30 rfl ?_
  obtain ⟨r_4, er_4, h⟩ := bndE h
  obtain ⟨hb7, h⟩ := okE h
  refine Y_newa (pc := 33) (a := r_4) (t := 21) (N := 320) dX12_init_33 (by decide) (by decide) rfl w1_100 (hP6.free er_4) hb7 (by decide) rfl (by decide) ?_
  obtain ⟨M7, eM7, h⟩ := bndE h
  refine VV.mem eM7 ?_
  have hP7 := hP6.wN er_4 (by decide) eM7
  obtain ⟨hb8, h⟩ := okE h
  refine Z_putr (pc := 35) dX12_init_35 w8_71 hb8 fr_12_5 (Or.inr ⟨rfl, rfl⟩) (Or.inr ⟨_, rfl⟩) ?_
  obtain ⟨M8, eM8, h⟩ := bndE h
  refine VV.mem eM8 ?_
  have hP8 := hP7.wR0 (by omega) eM8
  refine Y_aload_n (pc := 38) (j := 0) dX12_init_38 rfl rfl ?_
  refine Y_bipush (pc := 39) (v := (8 : Int32)) dX12_init_39 rfl ?_
  obtain ⟨r_5, er_5, h⟩ := bndE h
  obtain ⟨hb9, h⟩ := okE h
  refine Y_newa (pc := 41) (a := r_5) (t := 21) (N := 8) dX12_init_41 (by decide) (by decide) rfl w1_100 (hP8.free er_5) hb9 (by decide) rfl (by decide) ?_
  obtain ⟨M9, eM9, h⟩ := bndE h
  refine VV.mem eM9 ?_
  have hP9 := hP8.wN er_5 (by decide) eM9
  obtain ⟨hb10, h⟩ := okE h
  refine Z_putr (pc := 43) dX12_init_43 w8_72 hb10 fr_12_6 (Or.inr ⟨rfl, rfl⟩) (Or.inr ⟨_, rfl⟩) ?_
  obtain ⟨M10, eM10, h⟩ := bndE h
  refine VV.mem eM10 ?_
  have hP10 := hP9.wR0 (by omega) eM10
  refine Y_aload_n (pc := 46) (j := 0) dX12_init_46 rfl rfl ?_
  refine Y_bipush (pc := 47) (v := (8 : Int32)) dX12_init_47 rfl ?_
  obtain ⟨r_6, er_6, h⟩ := bndE h
  obtain ⟨hb11, h⟩ := okE h
  refine Y_newa (pc := 49) (a := r_6) (t := 21) (N := 8) dX12_init_49 (by decide) (by decide) rfl w1_100 (hP10.free er_6) hb11 (by decide) rfl (by decide) ?_
  obtain ⟨M11, eM11, h⟩ := bndE h
  refine VV.mem eM11 ?_
  have hP11 := hP10.wN er_6 (by decide) eM11
  obtain ⟨hb12, h⟩ := okE h
  refine Z_putr (pc := 51) dX12_init_51 w8_73 hb12 fr_12_7 (Or.inr ⟨rfl, rfl⟩) (Or.inr ⟨_, rfl⟩) ?_
  obtain ⟨M12, eM12, h⟩ := bndE h
  refine VV.mem eM12 ?_
  have hP12 := hP11.wR0 (by omega) eM12
  refine Y_aload_n (pc := 54) (j := 0) dX12_init_54 rfl rfl ?_
  refine Y_iconst (pc := 55) (v := (5 : Int32)) dX12_init_55 rfl ?_
  obtain ⟨r_7, er_7, h⟩ := bndE h
  obtain ⟨hb13, h⟩ := okE h
  refine Y_newa (pc := 56) (a := r_7) (t := 21) (N := 5) dX12_init_56 (by decide) (by decide) rfl w1_100 (hP12.free er_7) hb13 (by decide) rfl (by decide) ?_
  obtain ⟨M13, eM13, h⟩ := bndE h
  refine VV.mem eM13 ?_
  have hP13 := hP12.wN er_7 (by decide) eM13
  obtain ⟨hb14, h⟩ := okE h
  refine Z_putr (pc := 58) dX12_init_58 w8_75 hb14 fr_12_9 (Or.inr ⟨rfl, rfl⟩) (Or.inr ⟨_, rfl⟩) ?_
  obtain ⟨M14, eM14, h⟩ := bndE h
  refine VV.mem eM14 ?_
  have hP14 := hP13.wR0 (by omega) eM14
  refine Y_aload_n (pc := 61) (j := 0) dX12_init_61 rfl rfl ?_
  refine Y_bipush (pc := 62) (v := (30 : Int32)) dX12_init_62 rfl ?_
  obtain ⟨r_8, er_8, h⟩ := bndE h
  obtain ⟨hb15, h⟩ := okE h
  refine Y_newa (pc := 64) (a := r_8) (t := 21) (N := 30) dX12_init_64 (by decide) (by decide) rfl w1_100 (hP14.free er_8) hb15 (by decide) rfl (by decide) ?_
  obtain ⟨M15, eM15, h⟩ := bndE h
  refine VV.mem eM15 ?_
  have hP15 := hP14.wN er_8 (by decide) eM15
  obtain ⟨hb16, h⟩ := okE h
  refine Z_putr (pc := 66) dX12_init_66 w8_76 hb16 fr_12_10 (Or.inr ⟨rfl, rfl⟩) (Or.inr ⟨_, rfl⟩) ?_
  obtain ⟨M16, eM16, h⟩ := bndE h
  refine VV.mem eM16 ?_
  have hP16 := hP15.wR0 (by omega) eM16
  refine Y_aload_n (pc := 69) (j := 0) dX12_init_69 rfl rfl ?_
  refine Y_iconst (pc := 70) (v := (5 : Int32)) dX12_init_70 rfl ?_
  obtain ⟨r_9, er_9, h⟩ := bndE h
  obtain ⟨hb17, h⟩ := okE h
  refine Y_newa (pc := 71) (a := r_9) (t := 21) (N := 5) dX12_init_71 (by decide) (by decide) rfl w1_100 (hP16.free er_9) hb17 (by decide) rfl (by decide) ?_
  obtain ⟨M17, eM17, h⟩ := bndE h
  refine VV.mem eM17 ?_
  have hP17 := hP16.wN er_9 (by decide) eM17
  obtain ⟨hb18, h⟩ := okE h
  refine Z_putr (pc := 73) dX12_init_73 w8_77 hb18 fr_12_11 (Or.inr ⟨rfl, rfl⟩) (Or.inr ⟨_, rfl⟩) ?_
  obtain ⟨M18, eM18, h⟩ := bndE h
  refine VV.mem eM18 ?_
  have hP18 := hP17.wR0 (by omega) eM18
  refine Y_aload_n (pc := 76) (j := 0) dX12_init_76 rfl rfl ?_
  refine Y_bipush (pc := 77) (v := (60 : Int32)) dX12_init_77 rfl ?_
  obtain ⟨r_10, er_10, h⟩ := bndE h
  obtain ⟨hb19, h⟩ := okE h
  refine Y_newa (pc := 79) (a := r_10) (t := 21) (N := 60) dX12_init_79 (by decide) (by decide) rfl w1_100 (hP18.free er_10) hb19 (by decide) rfl (by decide) ?_
  obtain ⟨M19, eM19, h⟩ := bndE h
  refine VV.mem eM19 ?_
  have hP19 := hP18.wN er_10 (by decide) eM19
  obtain ⟨hb20, h⟩ := okE h
  refine Z_putr (pc := 81) dX12_init_81 w8_79 hb20 fr_12_13 (Or.inr ⟨rfl, rfl⟩) (Or.inr ⟨_, rfl⟩) ?_
  obtain ⟨M20, eM20, h⟩ := bndE h
  refine VV.mem eM20 ?_
  have hP20 := hP19.wR0 (by omega) eM20
  refine Y_aload_n (pc := 84) (j := 0) dX12_init_84 rfl rfl ?_
  refine Y_bipush (pc := 85) (v := (60 : Int32)) dX12_init_85 rfl ?_
  obtain ⟨r_11, er_11, h⟩ := bndE h
  obtain ⟨hb21, h⟩ := okE h
  refine Y_newa (pc := 87) (a := r_11) (t := 21) (N := 60) dX12_init_87 (by decide) (by decide) rfl w1_100 (hP20.free er_11) hb21 (by decide) rfl (by decide) ?_
  obtain ⟨M21, eM21, h⟩ := bndE h
  refine VV.mem eM21 ?_
  have hP21 := hP20.wN er_11 (by decide) eM21
  obtain ⟨hb22, h⟩ := okE h
  refine Z_putr (pc := 89) dX12_init_89 w8_80 hb22 fr_12_14 (Or.inr ⟨rfl, rfl⟩) (Or.inr ⟨_, rfl⟩) ?_
  obtain ⟨M22, eM22, h⟩ := bndE h
  refine VV.mem eM22 ?_
  have hP22 := hP21.wR0 (by omega) eM22
  refine Y_aload_n (pc := 92) (j := 0) dX12_init_92 rfl rfl ?_
  refine Y_sipush (pc := 93) (v := (360 : Int32)) dX12_init_93 rfl ?_
  obtain ⟨r_12, er_12, h⟩ := bndE h
  obtain ⟨hb23, h⟩ := okE h
  refine Y_newa (pc := 96) (a := r_12) (t := 21) (N := 360) dX12_init_96 (by decide) (by decide) rfl w1_100 (hP22.free er_12) hb23 (by decide) rfl (by decide) ?_
  obtain ⟨M23, eM23, h⟩ := bndE h
  refine VV.mem eM23 ?_
  have hP23 := hP22.wN er_12 (by decide) eM23
  obtain ⟨hb24, h⟩ := okE h
  refine Z_putr (pc := 98) dX12_init_98 w8_81 hb24 fr_12_15 (Or.inr ⟨rfl, rfl⟩) (Or.inr ⟨_, rfl⟩) ?_
  obtain ⟨M24, eM24, h⟩ := bndE h
  refine VV.mem eM24 ?_
  have hP24 := hP23.wR0 (by omega) eM24
  refine Y_aload_n (pc := 101) (j := 0) dX12_init_101 rfl rfl ?_
  refine Y_sipush (pc := 102) (v := (360 : Int32)) dX12_init_102 rfl ?_
  obtain ⟨r_13, er_13, h⟩ := bndE h
  obtain ⟨hb25, h⟩ := okE h
  refine Y_newa (pc := 105) (a := r_13) (t := 21) (N := 360) dX12_init_105 (by decide) (by decide) rfl w1_100 (hP24.free er_13) hb25 (by decide) rfl (by decide) ?_
  obtain ⟨M25, eM25, h⟩ := bndE h
  refine VV.mem eM25 ?_
  have hP25 := hP24.wN er_13 (by decide) eM25
  obtain ⟨hb26, h⟩ := okE h
  refine Z_putr (pc := 107) dX12_init_107 w8_82 hb26 fr_12_16 (Or.inr ⟨rfl, rfl⟩) (Or.inr ⟨_, rfl⟩) ?_
  obtain ⟨M26, eM26, h⟩ := bndE h
  refine VV.mem eM26 ?_
  have hP26 := hP25.wR0 (by omega) eM26
  refine Y_aload_n (pc := 110) (j := 0) dX12_init_110 rfl rfl ?_
  refine Y_sipush (pc := 111) (v := (320 : Int32)) dX12_init_111 rfl ?_
  obtain ⟨r_14, er_14, h⟩ := bndE h
  obtain ⟨hb27, h⟩ := okE h
  refine Y_newa (pc := 114) (a := r_14) (t := 21) (N := 320) dX12_init_114 (by decide) (by decide) rfl w1_100 (hP26.free er_14) hb27 (by decide) rfl (by decide) ?_
  obtain ⟨M27, eM27, h⟩ := bndE h
  refine VV.mem eM27 ?_
  have hP27 := hP26.wN er_14 (by decide) eM27
  obtain ⟨hb28, h⟩ := okE h
  refine Z_putr (pc := 116) dX12_init_116 w8_83 hb28 fr_12_17 (Or.inr ⟨rfl, rfl⟩) (Or.inr ⟨_, rfl⟩) ?_
  obtain ⟨M28, eM28, h⟩ := bndE h
  refine VV.mem eM28 ?_
  have hP28 := hP27.wR0 (by omega) eM28
  refine Y_aload_n (pc := 119) (j := 0) dX12_init_119 rfl rfl ?_
  refine Y_sipush (pc := 120) (v := (960 : Int32)) dX12_init_120 rfl ?_
  obtain ⟨r_15, er_15, h⟩ := bndE h
  obtain ⟨hb29, h⟩ := okE h
  refine Y_newa (pc := 123) (a := r_15) (t := 21) (N := 960) dX12_init_123 (by decide) (by decide) rfl w1_100 (hP28.free er_15) hb29 (by decide) rfl (by decide) ?_
  obtain ⟨M29, eM29, h⟩ := bndE h
  refine VV.mem eM29 ?_
  have hP29 := hP28.wN er_15 (by decide) eM29
  obtain ⟨hb30, h⟩ := okE h
  refine Z_putr (pc := 125) dX12_init_125 w8_84 hb30 fr_12_18 (Or.inr ⟨rfl, rfl⟩) (Or.inr ⟨_, rfl⟩) ?_
  obtain ⟨M30, eM30, h⟩ := bndE h
  refine VV.mem eM30 ?_
  have hP30 := hP29.wR0 (by omega) eM30
  refine Y_aload_n (pc := 128) (j := 0) dX12_init_128 rfl rfl ?_
  refine Y_sipush (pc := 129) (v := (320 : Int32)) dX12_init_129 rfl ?_
  obtain ⟨r_16, er_16, h⟩ := bndE h
  obtain ⟨hb31, h⟩ := okE h
  refine Y_newa (pc := 132) (a := r_16) (t := 21) (N := 320) dX12_init_132 (by decide) (by decide) rfl w1_100 (hP30.free er_16) hb31 (by decide) rfl (by decide) ?_
  obtain ⟨M31, eM31, h⟩ := bndE h
  refine VV.mem eM31 ?_
  have hP31 := hP30.wN er_16 (by decide) eM31
  obtain ⟨hb32, h⟩ := okE h
  refine Z_putr (pc := 134) dX12_init_134 w8_85 hb32 fr_12_19 (Or.inr ⟨rfl, rfl⟩) (Or.inr ⟨_, rfl⟩) ?_
  obtain ⟨M32, eM32, h⟩ := bndE h
  refine VV.mem eM32 ?_
  have hP32 := hP31.wR0 (by omega) eM32
  refine Y_aload_n (pc := 137) (j := 0) dX12_init_137 rfl rfl ?_
  refine Y_sipush (pc := 138) (v := (320 : Int32)) dX12_init_138 rfl ?_
  obtain ⟨r_17, er_17, h⟩ := bndE h
  obtain ⟨hb33, h⟩ := okE h
  refine Y_newa (pc := 141) (a := r_17) (t := 21) (N := 320) dX12_init_141 (by decide) (by decide) rfl w1_100 (hP32.free er_17) hb33 (by decide) rfl (by decide) ?_
  obtain ⟨M33, eM33, h⟩ := bndE h
  refine VV.mem eM33 ?_
  have hP33 := hP32.wN er_17 (by decide) eM33
  obtain ⟨hb34, h⟩ := okE h
  refine Z_putr (pc := 143) dX12_init_143 w8_86 hb34 fr_12_20 (Or.inr ⟨rfl, rfl⟩) (Or.inr ⟨_, rfl⟩) ?_
  obtain ⟨M34, eM34, h⟩ := bndE h
  refine VV.mem eM34 ?_
  have hP34 := hP33.wR0 (by omega) eM34
  refine Y_aload_n (pc := 146) (j := 0) dX12_init_146 rfl rfl ?_
  refine Y_sipush (pc := 147) (v := (320 : Int32)) dX12_init_147 rfl ?_
  obtain ⟨r_18, er_18, h⟩ := bndE h
  obtain ⟨hb35, h⟩ := okE h
  refine Y_newa (pc := 150) (a := r_18) (t := 21) (N := 320) dX12_init_150 (by decide) (by decide) rfl w1_100 (hP34.free er_18) hb35 (by decide) rfl (by decide) ?_
  obtain ⟨M35, eM35, h⟩ := bndE h
  refine VV.mem eM35 ?_
  have hP35 := hP34.wN er_18 (by decide) eM35
  obtain ⟨hb36, h⟩ := okE h
  refine Z_putr (pc := 152) dX12_init_152 w8_87 hb36 fr_12_21 (Or.inr ⟨rfl, rfl⟩) (Or.inr ⟨_, rfl⟩) ?_
  obtain ⟨M36, eM36, h⟩ := bndE h
  refine VV.mem eM36 ?_
  have hP36 := hP35.wR0 (by omega) eM36
  refine Y_aload_n (pc := 155) (j := 0) dX12_init_155 rfl rfl ?_
  refine Y_sipush (pc := 156) (v := (320 : Int32)) dX12_init_156 rfl ?_
  obtain ⟨r_19, er_19, h⟩ := bndE h
  obtain ⟨hb37, h⟩ := okE h
  refine Y_newa (pc := 159) (a := r_19) (t := 21) (N := 320) dX12_init_159 (by decide) (by decide) rfl w1_100 (hP36.free er_19) hb37 (by decide) rfl (by decide) ?_
  obtain ⟨M37, eM37, h⟩ := bndE h
  refine VV.mem eM37 ?_
  have hP37 := hP36.wN er_19 (by decide) eM37
  obtain ⟨hb38, h⟩ := okE h
  refine Z_putr (pc := 161) dX12_init_161 w8_88 hb38 fr_12_22 (Or.inr ⟨rfl, rfl⟩) (Or.inr ⟨_, rfl⟩) ?_
  obtain ⟨M38, eM38, h⟩ := bndE h
  refine VV.mem eM38 ?_
  have hP38 := hP37.wR0 (by omega) eM38
  refine Y_aload_n (pc := 164) (j := 0) dX12_init_164 rfl rfl ?_
  refine Y_iconst (pc := 165) (v := (3 : Int32)) dX12_init_165 rfl ?_
  obtain ⟨hb39, h⟩ := okE h
  refine Z_puti (pc := 166) dX12_init_166 w8_89 hb39 fi_12_23 (Or.inl rfl) rfl ?_
  obtain ⟨M39, eM39, h⟩ := bndE h
  refine VV.mem eM39 ?_
  have hP39 := hP38.wI eM39
  refine Y_aload_n (pc := 169) (j := 0) dX12_init_169 rfl rfl ?_
  refine Y_iconst (pc := 170) (v := (2 : Int32)) dX12_init_170 rfl ?_
  obtain ⟨hb40, h⟩ := okE h
  refine Z_puti (pc := 171) dX12_init_171 w8_90 hb40 fi_12_24 (Or.inl rfl) rfl ?_
  obtain ⟨M40, eM40, h⟩ := bndE h
  refine VV.mem eM40 ?_
  have hP40 := hP39.wI eM40
  refine Y_aload_n (pc := 174) (j := 0) dX12_init_174 rfl rfl ?_
  refine Y_bipush (pc := 175) (v := (80 : Int32)) dX12_init_175 rfl ?_
  obtain ⟨hb41, h⟩ := okE h
  refine Z_puti (pc := 177) dX12_init_177 w8_91 hb41 fi_12_25 (Or.inl rfl) rfl ?_
  obtain ⟨M41, eM41, h⟩ := bndE h
  refine VV.mem eM41 ?_
  have hP41 := hP40.wI eM41
  refine Y_aload_n (pc := 180) (j := 0) dX12_init_180 rfl rfl ?_
  refine Y_bipush (pc := 181) (v := (20 : Int32)) dX12_init_181 rfl ?_
  obtain ⟨r_20, er_20, h⟩ := bndE h
  obtain ⟨hb42, h⟩ := okE h
  refine Y_newa (pc := 183) (a := r_20) (t := 23) (N := 20) dX12_init_183 (by decide) (by decide) rfl w9_100 (hP41.free er_20) hb42 (by decide) rfl (by decide) ?_
  obtain ⟨M42, eM42, h⟩ := bndE h
  refine VV.mem eM42 ?_
  have hP42 := hP41.wN er_20 (by decide) eM42
  obtain ⟨hb43, h⟩ := okE h
  refine Z_putr (pc := 185) dX12_init_185 w8_93 hb43 fr_12_27 (Or.inr ⟨rfl, rfl⟩) (Or.inr ⟨_, rfl⟩) ?_
  obtain ⟨M43, eM43, h⟩ := bndE h
  refine VV.mem eM43 ?_
  have hP43 := hP42.wR0 (by omega) eM43
  refine Y_aload_n (pc := 188) (j := 0) dX12_init_188 rfl rfl ?_
  refine Y_bipush (pc := 189) (v := (20 : Int32)) dX12_init_189 rfl ?_
  obtain ⟨r_21, er_21, h⟩ := bndE h
  obtain ⟨hb44, h⟩ := okE h
  refine Y_newa (pc := 191) (a := r_21) (t := 21) (N := 20) dX12_init_191 (by decide) (by decide) rfl w1_100 (hP43.free er_21) hb44 (by decide) rfl (by decide) ?_
  obtain ⟨M44, eM44, h⟩ := bndE h
  refine VV.mem eM44 ?_
  have hP44 := hP43.wN er_21 (by decide) eM44
  obtain ⟨hb45, h⟩ := okE h
  refine Z_putr (pc := 193) dX12_init_193 w8_94 hb45 fr_12_28 (Or.inr ⟨rfl, rfl⟩) (Or.inr ⟨_, rfl⟩) ?_
  obtain ⟨M45, eM45, h⟩ := bndE h
  refine VV.mem eM45 ?_
  have hP45 := hP44.wR0 (by omega) eM45
  refine Y_aload_n (pc := 196) (j := 0) dX12_init_196 rfl rfl ?_
  refine Y_sipush (pc := 197) (v := (600 : Int32)) dX12_init_197 rfl ?_
  obtain ⟨r_22, er_22, h⟩ := bndE h
  obtain ⟨hb46, h⟩ := okE h
  refine Y_newa (pc := 200) (a := r_22) (t := 21) (N := 600) dX12_init_200 (by decide) (by decide) rfl w1_100 (hP45.free er_22) hb46 (by decide) rfl (by decide) ?_
  obtain ⟨M46, eM46, h⟩ := bndE h
  refine VV.mem eM46 ?_
  have hP46 := hP45.wN er_22 (by decide) eM46
  obtain ⟨hb47, h⟩ := okE h
  refine Z_putr (pc := 202) dX12_init_202 w8_95 hb47 fr_12_29 (Or.inr ⟨rfl, rfl⟩) (Or.inr ⟨_, rfl⟩) ?_
  obtain ⟨M47, eM47, h⟩ := bndE h
  refine VV.mem eM47 ?_
  have hP47 := hP46.wR0 (by omega) eM47
  refine Y_aload_n (pc := 205) (j := 0) dX12_init_205 rfl rfl ?_
  refine Y_bipush (pc := 206) (v := (20 : Int32)) dX12_init_206 rfl ?_
  obtain ⟨r_23, er_23, h⟩ := bndE h
  obtain ⟨hb48, h⟩ := okE h
  refine Y_newa (pc := 208) (a := r_23) (t := 21) (N := 20) dX12_init_208 (by decide) (by decide) rfl w1_100 (hP47.free er_23) hb48 (by decide) rfl (by decide) ?_
  obtain ⟨M48, eM48, h⟩ := bndE h
  refine VV.mem eM48 ?_
  have hP48 := hP47.wN er_23 (by decide) eM48
  obtain ⟨hb49, h⟩ := okE h
  refine Z_putr (pc := 210) dX12_init_210 w8_96 hb49 fr_12_30 (Or.inr ⟨rfl, rfl⟩) (Or.inr ⟨_, rfl⟩) ?_
  obtain ⟨M49, eM49, h⟩ := bndE h
  refine VV.mem eM49 ?_
  have hP49 := hP48.wR0 (by omega) eM49
  refine Y_aload_n (pc := 213) (j := 0) dX12_init_213 rfl rfl ?_
  refine Y_bipush (pc := 214) (v := (20 : Int32)) dX12_init_214 rfl ?_
  obtain ⟨r_24, er_24, h⟩ := bndE h
  obtain ⟨hb50, h⟩ := okE h
  refine Y_newa (pc := 216) (a := r_24) (t := 21) (N := 20) dX12_init_216 (by decide) (by decide) rfl w1_100 (hP49.free er_24) hb50 (by decide) rfl (by decide) ?_
  obtain ⟨M50, eM50, h⟩ := bndE h
  refine VV.mem eM50 ?_
  have hP50 := hP49.wN er_24 (by decide) eM50
  obtain ⟨hb51, h⟩ := okE h
  refine Z_putr (pc := 218) dX12_init_218 w8_97 hb51 fr_12_31 (Or.inr ⟨rfl, rfl⟩) (Or.inr ⟨_, rfl⟩) ?_
  obtain ⟨M51, eM51, h⟩ := bndE h
  refine VV.mem eM51 ?_
  have hP51 := hP50.wR0 (by omega) eM51
  refine Y_aload_n (pc := 221) (j := 0) dX12_init_221 rfl rfl ?_
  refine Y_bipush (pc := 222) (v := (20 : Int32)) dX12_init_222 rfl ?_
  obtain ⟨r_25, er_25, h⟩ := bndE h
  obtain ⟨hb52, h⟩ := okE h
  refine Y_newa (pc := 224) (a := r_25) (t := 21) (N := 20) dX12_init_224 (by decide) (by decide) rfl w1_100 (hP51.free er_25) hb52 (by decide) rfl (by decide) ?_
  obtain ⟨M52, eM52, h⟩ := bndE h
  refine VV.mem eM52 ?_
  have hP52 := hP51.wN er_25 (by decide) eM52
  obtain ⟨hb53, h⟩ := okE h
  refine Z_putr (pc := 226) dX12_init_226 w8_98 hb53 fr_12_32 (Or.inr ⟨rfl, rfl⟩) (Or.inr ⟨_, rfl⟩) ?_
  obtain ⟨M53, eM53, h⟩ := bndE h
  refine VV.mem eM53 ?_
  have hP53 := hP52.wR0 (by omega) eM53
  refine Y_aload_n (pc := 229) (j := 0) dX12_init_229 rfl rfl ?_
  refine Y_bipush (pc := 230) (v := (20 : Int32)) dX12_init_230 rfl ?_
  obtain ⟨r_26, er_26, h⟩ := bndE h
  obtain ⟨hb54, h⟩ := okE h
  refine Y_newa (pc := 232) (a := r_26) (t := 21) (N := 20) dX12_init_232 (by decide) (by decide) rfl w1_100 (hP53.free er_26) hb54 (by decide) rfl (by decide) ?_
  obtain ⟨M54, eM54, h⟩ := bndE h
  refine VV.mem eM54 ?_
  have hP54 := hP53.wN er_26 (by decide) eM54
  obtain ⟨hb55, h⟩ := okE h
  refine Z_putr (pc := 234) dX12_init_234 w8_99 hb55 fr_12_33 (Or.inr ⟨rfl, rfl⟩) (Or.inr ⟨_, rfl⟩) ?_
  obtain ⟨M55, eM55, h⟩ := bndE h
  refine VV.mem eM55 ?_
  have hP55 := hP54.wR0 (by omega) eM55
  refine Y_aload_n (pc := 237) (j := 0) dX12_init_237 rfl rfl ?_
  refine Y_bipush (pc := 238) (v := (20 : Int32)) dX12_init_238 rfl ?_
  obtain ⟨r_27, er_27, h⟩ := bndE h
  obtain ⟨hb56, h⟩ := okE h
  refine Y_newa (pc := 240) (a := r_27) (t := 21) (N := 20) dX12_init_240 (by decide) (by decide) rfl w1_100 (hP55.free er_27) hb56 (by decide) rfl (by decide) ?_
  obtain ⟨M56, eM56, h⟩ := bndE h
  refine VV.mem eM56 ?_
  have hP56 := hP55.wN er_27 (by decide) eM56
  obtain ⟨hb57, h⟩ := okE h
  refine Z_putr (pc := 242) dX12_init_242 w8_100 hb57 fr_12_34 (Or.inr ⟨rfl, rfl⟩) (Or.inr ⟨_, rfl⟩) ?_
  obtain ⟨M57, eM57, h⟩ := bndE h
  refine VV.mem eM57 ?_
  have hP57 := hP56.wR0 (by omega) eM57
  refine Y_aload_n (pc := 245) (j := 0) dX12_init_245 rfl rfl ?_
  refine Y_sipush (pc := 246) (v := (2400 : Int32)) dX12_init_246 rfl ?_
  obtain ⟨r_28, er_28, h⟩ := bndE h
  obtain ⟨hb58, h⟩ := okE h
  refine Y_newa (pc := 249) (a := r_28) (t := 22) (N := 2400) dX12_init_249 (by decide) (by decide) rfl w1_101 (hP57.free er_28) hb58 (by decide) rfl (by decide) ?_
  obtain ⟨M58, eM58, h⟩ := bndE h
  refine VV.mem eM58 ?_
  have hP58 := hP57.wN er_28 (by decide) eM58
  obtain ⟨hb59, h⟩ := okE h
  refine Z_putr (pc := 251) dX12_init_251 w8_102 hb59 fr_12_36 (Or.inr ⟨rfl, rfl⟩) (Or.inr ⟨_, rfl⟩) ?_
  obtain ⟨M59, eM59, h⟩ := bndE h
  refine VV.mem eM59 ?_
  have hP59 := hP58.wR0 (by omega) eM59
  refine Y_aload_n (pc := 254) (j := 0) dX12_init_254 rfl rfl ?_
  refine Y_sipush (pc := 255) (v := (2400 : Int32)) dX12_init_255 rfl ?_
  obtain ⟨r_29, er_29, h⟩ := bndE h
  obtain ⟨hb60, h⟩ := okE h
  refine Y_newa (pc := 258) (a := r_29) (t := 21) (N := 2400) dX12_init_258 (by decide) (by decide) rfl w1_100 (hP59.free er_29) hb60 (by decide) rfl (by decide) ?_
  obtain ⟨M60, eM60, h⟩ := bndE h
  refine VV.mem eM60 ?_
  have hP60 := hP59.wN er_29 (by decide) eM60
  obtain ⟨hb61, h⟩ := okE h
  refine Z_putr (pc := 260) dX12_init_260 w8_103 hb61 fr_12_37 (Or.inr ⟨rfl, rfl⟩) (Or.inr ⟨_, rfl⟩) ?_
  obtain ⟨M61, eM61, h⟩ := bndE h
  refine VV.mem eM61 ?_
  have hP61 := hP60.wR0 (by omega) eM61
  refine Y_aload_n (pc := 263) (j := 0) dX12_init_263 rfl rfl ?_
  refine Y_sipush (pc := 264) (v := (2400 : Int32)) dX12_init_264 rfl ?_
  obtain ⟨r_30, er_30, h⟩ := bndE h
  obtain ⟨hb62, h⟩ := okE h
  refine Y_newa (pc := 267) (a := r_30) (t := 21) (N := 2400) dX12_init_267 (by decide) (by decide) rfl w1_100 (hP61.free er_30) hb62 (by decide) rfl (by decide) ?_
  obtain ⟨M62, eM62, h⟩ := bndE h
  refine VV.mem eM62 ?_
  have hP62 := hP61.wN er_30 (by decide) eM62
  obtain ⟨hb63, h⟩ := okE h
  refine Z_putr (pc := 269) dX12_init_269 w8_104 hb63 fr_12_38 (Or.inr ⟨rfl, rfl⟩) (Or.inr ⟨_, rfl⟩) ?_
  obtain ⟨M63, eM63, h⟩ := bndE h
  refine VV.mem eM63 ?_
  have hP63 := hP62.wR0 (by omega) eM63
  refine Y_aload_n (pc := 272) (j := 0) dX12_init_272 rfl rfl ?_
  refine Y_sipush (pc := 273) (v := (2400 : Int32)) dX12_init_273 rfl ?_
  obtain ⟨r_31, er_31, h⟩ := bndE h
  obtain ⟨hb64, h⟩ := okE h
  refine Y_newa (pc := 276) (a := r_31) (t := 21) (N := 2400) dX12_init_276 (by decide) (by decide) rfl w1_100 (hP63.free er_31) hb64 (by decide) rfl (by decide) ?_
  obtain ⟨M64, eM64, h⟩ := bndE h
  refine VV.mem eM64 ?_
  have hP64 := hP63.wN er_31 (by decide) eM64
  obtain ⟨hb65, h⟩ := okE h
  refine Z_putr (pc := 278) dX12_init_278 w8_105 hb65 fr_12_39 (Or.inr ⟨rfl, rfl⟩) (Or.inr ⟨_, rfl⟩) ?_
  obtain ⟨M65, eM65, h⟩ := bndE h
  refine VV.mem eM65 ?_
  have hP65 := hP64.wR0 (by omega) eM65
  refine Y_aload_n (pc := 281) (j := 0) dX12_init_281 rfl rfl ?_
  refine Y_sipush (pc := 282) (v := (2400 : Int32)) dX12_init_282 rfl ?_
  obtain ⟨r_32, er_32, h⟩ := bndE h
  obtain ⟨hb66, h⟩ := okE h
  refine Y_newa (pc := 285) (a := r_32) (t := 21) (N := 2400) dX12_init_285 (by decide) (by decide) rfl w1_100 (hP65.free er_32) hb66 (by decide) rfl (by decide) ?_
  obtain ⟨M66, eM66, h⟩ := bndE h
  refine VV.mem eM66 ?_
  have hP66 := hP65.wN er_32 (by decide) eM66
  obtain ⟨hb67, h⟩ := okE h
  refine Z_putr (pc := 287) dX12_init_287 w8_106 hb67 fr_12_40 (Or.inr ⟨rfl, rfl⟩) (Or.inr ⟨_, rfl⟩) ?_
  obtain ⟨M67, eM67, h⟩ := bndE h
  refine VV.mem eM67 ?_
  have hP67 := hP66.wR0 (by omega) eM67
  refine Y_aload_n (pc := 290) (j := 0) dX12_init_290 rfl rfl ?_
  refine Y_sipush (pc := 291) (v := (2400 : Int32)) dX12_init_291 rfl ?_
  obtain ⟨r_33, er_33, h⟩ := bndE h
  obtain ⟨hb68, h⟩ := okE h
  refine Y_newa (pc := 294) (a := r_33) (t := 21) (N := 2400) dX12_init_294 (by decide) (by decide) rfl w1_100 (hP67.free er_33) hb68 (by decide) rfl (by decide) ?_
  obtain ⟨M68, eM68, h⟩ := bndE h
  refine VV.mem eM68 ?_
  have hP68 := hP67.wN er_33 (by decide) eM68
  obtain ⟨hb69, h⟩ := okE h
  refine Z_putr (pc := 296) dX12_init_296 w8_107 hb69 fr_12_41 (Or.inr ⟨rfl, rfl⟩) (Or.inr ⟨_, rfl⟩) ?_
  obtain ⟨M69, eM69, h⟩ := bndE h
  refine VV.mem eM69 ?_
  have hP69 := hP68.wR0 (by omega) eM69
  refine Y_aload_n (pc := 299) (j := 0) dX12_init_299 rfl rfl ?_
  refine Y_sipush (pc := 300) (v := (2400 : Int32)) dX12_init_300 rfl ?_
  obtain ⟨r_34, er_34, h⟩ := bndE h
  obtain ⟨hb70, h⟩ := okE h
  refine Y_newa (pc := 303) (a := r_34) (t := 21) (N := 2400) dX12_init_303 (by decide) (by decide) rfl w1_100 (hP69.free er_34) hb70 (by decide) rfl (by decide) ?_
  obtain ⟨M70, eM70, h⟩ := bndE h
  refine VV.mem eM70 ?_
  have hP70 := hP69.wN er_34 (by decide) eM70
  obtain ⟨hb71, h⟩ := okE h
  refine Z_putr (pc := 305) dX12_init_305 w8_108 hb71 fr_12_42 (Or.inr ⟨rfl, rfl⟩) (Or.inr ⟨_, rfl⟩) ?_
  obtain ⟨M71, eM71, h⟩ := bndE h
  refine VV.mem eM71 ?_
  have hP71 := hP70.wR0 (by omega) eM71
  refine Y_aload_n (pc := 308) (j := 0) dX12_init_308 rfl rfl ?_
  refine Y_sipush (pc := 309) (v := (2400 : Int32)) dX12_init_309 rfl ?_
  obtain ⟨r_35, er_35, h⟩ := bndE h
  obtain ⟨hb72, h⟩ := okE h
  refine Y_newa (pc := 312) (a := r_35) (t := 21) (N := 2400) dX12_init_312 (by decide) (by decide) rfl w1_100 (hP71.free er_35) hb72 (by decide) rfl (by decide) ?_
  obtain ⟨M72, eM72, h⟩ := bndE h
  refine VV.mem eM72 ?_
  have hP72 := hP71.wN er_35 (by decide) eM72
  obtain ⟨hb73, h⟩ := okE h
  refine Z_putr (pc := 314) dX12_init_314 w8_109 hb73 fr_12_43 (Or.inr ⟨rfl, rfl⟩) (Or.inr ⟨_, rfl⟩) ?_
  obtain ⟨M73, eM73, h⟩ := bndE h
  refine VV.mem eM73 ?_
  have hP73 := hP72.wR0 (by omega) eM73
  refine Y_aload_n (pc := 317) (j := 0) dX12_init_317 rfl rfl ?_
  refine Y_sipush (pc := 318) (v := (168 : Int32)) dX12_init_318 rfl ?_
  obtain ⟨r_36, er_36, h⟩ := bndE h
  obtain ⟨hb74, h⟩ := okE h
  refine Y_newa (pc := 321) (a := r_36) (t := 22) (N := 168) dX12_init_321 (by decide) (by decide) rfl w1_101 (hP73.free er_36) hb74 (by decide) rfl (by decide) ?_
  obtain ⟨M74, eM74, h⟩ := bndE h
  refine VV.mem eM74 ?_
  have hP74 := hP73.wN er_36 (by decide) eM74
  obtain ⟨hb75, h⟩ := okE h
  refine Z_putr (pc := 323) dX12_init_323 w8_110 hb75 fr_12_44 (Or.inr ⟨rfl, rfl⟩) (Or.inr ⟨_, rfl⟩) ?_
  obtain ⟨M75, eM75, h⟩ := bndE h
  refine VV.mem eM75 ?_
  have hP75 := hP74.wR0 (by omega) eM75
  refine Y_aload_n (pc := 326) (j := 0) dX12_init_326 rfl rfl ?_
  refine Y_sipush (pc := 327) (v := (168 : Int32)) dX12_init_327 rfl ?_
  obtain ⟨r_37, er_37, h⟩ := bndE h
  obtain ⟨hb76, h⟩ := okE h
  refine Y_newa (pc := 330) (a := r_37) (t := 21) (N := 168) dX12_init_330 (by decide) (by decide) rfl w1_100 (hP75.free er_37) hb76 (by decide) rfl (by decide) ?_
  obtain ⟨M76, eM76, h⟩ := bndE h
  refine VV.mem eM76 ?_
  have hP76 := hP75.wN er_37 (by decide) eM76
  obtain ⟨hb77, h⟩ := okE h
  refine Z_putr (pc := 332) dX12_init_332 w8_111 hb77 fr_12_45 (Or.inr ⟨rfl, rfl⟩) (Or.inr ⟨_, rfl⟩) ?_
  obtain ⟨M77, eM77, h⟩ := bndE h
  refine VV.mem eM77 ?_
  have hP77 := hP76.wR0 (by omega) eM77
  refine Y_aload_n (pc := 335) (j := 0) dX12_init_335 rfl rfl ?_
  refine Y_sipush (pc := 336) (v := (168 : Int32)) dX12_init_336 rfl ?_
  obtain ⟨r_38, er_38, h⟩ := bndE h
  obtain ⟨hb78, h⟩ := okE h
  refine Y_newa (pc := 339) (a := r_38) (t := 25) (N := 168) dX12_init_339 (by decide) (by decide) rfl w1_166 (hP77.free er_38) hb78 (by decide) rfl (by decide) ?_
  obtain ⟨M78, eM78, h⟩ := bndE h
  refine VV.mem eM78 ?_
  have hP78 := hP77.wN er_38 (by decide) eM78
  obtain ⟨hb79, h⟩ := okE h
  refine Z_putr (pc := 341) dX12_init_341 w8_112 hb79 fr_12_46 (Or.inr ⟨rfl, rfl⟩) (Or.inr ⟨_, rfl⟩) ?_
  obtain ⟨M79, eM79, h⟩ := bndE h
  refine VV.mem eM79 ?_
  have hP79 := hP78.wR0 (by omega) eM79
  refine Y_aload_n (pc := 344) (j := 0) dX12_init_344 rfl rfl ?_
  refine Y_sipush (pc := 345) (v := (168 : Int32)) dX12_init_345 rfl ?_
  obtain ⟨r_39, er_39, h⟩ := bndE h
  obtain ⟨hb80, h⟩ := okE h
  refine Y_newa (pc := 348) (a := r_39) (t := 21) (N := 168) dX12_init_348 (by decide) (by decide) rfl w1_100 (hP79.free er_39) hb80 (by decide) rfl (by decide) ?_
  obtain ⟨M80, eM80, h⟩ := bndE h
  refine VV.mem eM80 ?_
  have hP80 := hP79.wN er_39 (by decide) eM80
  obtain ⟨hb81, h⟩ := okE h
  refine Z_putr (pc := 350) dX12_init_350 w8_113 hb81 fr_12_47 (Or.inr ⟨rfl, rfl⟩) (Or.inr ⟨_, rfl⟩) ?_
  obtain ⟨M81, eM81, h⟩ := bndE h
  refine VV.mem eM81 ?_
  have hP81 := hP80.wR0 (by omega) eM81
  refine Y_aload_n (pc := 353) (j := 0) dX12_init_353 rfl rfl ?_
  refine Y_bipush (pc := 354) (v := (12 : Int32)) dX12_init_354 rfl ?_
  obtain ⟨r_40, er_40, h⟩ := bndE h
  obtain ⟨hb82, h⟩ := okE h
  refine Y_newa (pc := 356) (a := r_40) (t := 21) (N := 12) dX12_init_356 (by decide) (by decide) rfl w1_100 (hP81.free er_40) hb82 (by decide) rfl (by decide) ?_
  obtain ⟨M82, eM82, h⟩ := bndE h
  refine VV.mem eM82 ?_
  have hP82 := hP81.wN er_40 (by decide) eM82
  obtain ⟨hb83, h⟩ := okE h
  refine Z_putr (pc := 358) dX12_init_358 w8_115 hb83 fr_12_49 (Or.inr ⟨rfl, rfl⟩) (Or.inr ⟨_, rfl⟩) ?_
  obtain ⟨M83, eM83, h⟩ := bndE h
  refine VV.mem eM83 ?_
  have hP83 := hP82.wR0 (by omega) eM83
  refine Y_aload_n (pc := 361) (j := 0) dX12_init_361 rfl rfl ?_
  refine Y_bipush (pc := 362) (v := (12 : Int32)) dX12_init_362 rfl ?_
  obtain ⟨r_41, er_41, h⟩ := bndE h
  obtain ⟨hb84, h⟩ := okE h
  refine Y_newa (pc := 364) (a := r_41) (t := 21) (N := 12) dX12_init_364 (by decide) (by decide) rfl w1_100 (hP83.free er_41) hb84 (by decide) rfl (by decide) ?_
  obtain ⟨M84, eM84, h⟩ := bndE h
  refine VV.mem eM84 ?_
  have hP84 := hP83.wN er_41 (by decide) eM84
  obtain ⟨hb85, h⟩ := okE h
  refine Z_putr (pc := 366) dX12_init_366 w8_116 hb85 fr_12_50 (Or.inr ⟨rfl, rfl⟩) (Or.inr ⟨_, rfl⟩) ?_
  obtain ⟨M85, eM85, h⟩ := bndE h
  refine VV.mem eM85 ?_
  have hP85 := hP84.wR0 (by omega) eM85
  refine Y_aload_n (pc := 369) (j := 0) dX12_init_369 rfl rfl ?_
  refine Y_bipush (pc := 370) (v := (12 : Int32)) dX12_init_370 rfl ?_
  obtain ⟨r_42, er_42, h⟩ := bndE h
  obtain ⟨hb86, h⟩ := okE h
  refine Y_newa (pc := 372) (a := r_42) (t := 21) (N := 12) dX12_init_372 (by decide) (by decide) rfl w1_100 (hP85.free er_42) hb86 (by decide) rfl (by decide) ?_
  obtain ⟨M86, eM86, h⟩ := bndE h
  refine VV.mem eM86 ?_
  have hP86 := hP85.wN er_42 (by decide) eM86
  obtain ⟨hb87, h⟩ := okE h
  refine Z_putr (pc := 374) dX12_init_374 w8_117 hb87 fr_12_51 (Or.inr ⟨rfl, rfl⟩) (Or.inr ⟨_, rfl⟩) ?_
  obtain ⟨M87, eM87, h⟩ := bndE h
  refine VV.mem eM87 ?_
  have hP87 := hP86.wR0 (by omega) eM87
  refine Y_aload_n (pc := 377) (j := 0) dX12_init_377 rfl rfl ?_
  refine Y_bipush (pc := 378) (v := (60 : Int32)) dX12_init_378 rfl ?_
  obtain ⟨r_43, er_43, h⟩ := bndE h
  obtain ⟨hb88, h⟩ := okE h
  refine Y_newa (pc := 380) (a := r_43) (t := 21) (N := 60) dX12_init_380 (by decide) (by decide) rfl w1_100 (hP87.free er_43) hb88 (by decide) rfl (by decide) ?_
  obtain ⟨M88, eM88, h⟩ := bndE h
  refine VV.mem eM88 ?_
  have hP88 := hP87.wN er_43 (by decide) eM88
  obtain ⟨hb89, h⟩ := okE h
  refine Z_putr (pc := 382) dX12_init_382 w8_119 hb89 fr_12_53 (Or.inr ⟨rfl, rfl⟩) (Or.inr ⟨_, rfl⟩) ?_
  obtain ⟨M89, eM89, h⟩ := bndE h
  refine VV.mem eM89 ?_
  have hP89 := hP88.wR0 (by omega) eM89
  refine Y_aload_n (pc := 385) (j := 0) dX12_init_385 rfl rfl ?_
  refine Y_sipush (pc := 386) (v := (360 : Int32)) dX12_init_386 rfl ?_
  obtain ⟨r_44, er_44, h⟩ := bndE h
  obtain ⟨hb90, h⟩ := okE h
  refine Y_newa (pc := 389) (a := r_44) (t := 22) (N := 360) dX12_init_389 (by decide) (by decide) rfl w1_101 (hP89.free er_44) hb90 (by decide) rfl (by decide) ?_
  obtain ⟨M90, eM90, h⟩ := bndE h
  refine VV.mem eM90 ?_
  have hP90 := hP89.wN er_44 (by decide) eM90
  obtain ⟨hb91, h⟩ := okE h
  refine Z_putr (pc := 391) dX12_init_391 w8_120 hb91 fr_12_54 (Or.inr ⟨rfl, rfl⟩) (Or.inr ⟨_, rfl⟩) ?_
  obtain ⟨M91, eM91, h⟩ := bndE h
  refine VV.mem eM91 ?_
  have hP91 := hP90.wR0 (by omega) eM91
  refine Y_aload_n (pc := 394) (j := 0) dX12_init_394 rfl rfl ?_
  refine Y_sipush (pc := 395) (v := (360 : Int32)) dX12_init_395 rfl ?_
  obtain ⟨r_45, er_45, h⟩ := bndE h
  obtain ⟨hb92, h⟩ := okE h
  refine Y_newa (pc := 398) (a := r_45) (t := 21) (N := 360) dX12_init_398 (by decide) (by decide) rfl w1_100 (hP91.free er_45) hb92 (by decide) rfl (by decide) ?_
  obtain ⟨M92, eM92, h⟩ := bndE h
  refine VV.mem eM92 ?_
  have hP92 := hP91.wN er_45 (by decide) eM92
  obtain ⟨hb93, h⟩ := okE h
  refine Z_putr (pc := 400) dX12_init_400 w8_121 hb93 fr_12_55 (Or.inr ⟨rfl, rfl⟩) (Or.inr ⟨_, rfl⟩) ?_
  obtain ⟨M93, eM93, h⟩ := bndE h
  refine VV.mem eM93 ?_
  have hP93 := hP92.wR0 (by omega) eM93
  refine Y_aload_n (pc := 403) (j := 0) dX12_init_403 rfl rfl ?_
  refine Y_sipush (pc := 404) (v := (360 : Int32)) dX12_init_404 rfl ?_
  obtain ⟨r_46, er_46, h⟩ := bndE h
  obtain ⟨hb94, h⟩ := okE h
  refine Y_newa (pc := 407) (a := r_46) (t := 25) (N := 360) dX12_init_407 (by decide) (by decide) rfl w1_166 (hP93.free er_46) hb94 (by decide) rfl (by decide) ?_
  obtain ⟨M94, eM94, h⟩ := bndE h
  refine VV.mem eM94 ?_
  have hP94 := hP93.wN er_46 (by decide) eM94
  obtain ⟨hb95, h⟩ := okE h
  refine Z_putr (pc := 409) dX12_init_409 w8_122 hb95 fr_12_56 (Or.inr ⟨rfl, rfl⟩) (Or.inr ⟨_, rfl⟩) ?_
  obtain ⟨M95, eM95, h⟩ := bndE h
  refine VV.mem eM95 ?_
  have hP95 := hP94.wR0 (by omega) eM95
  refine Y_aload_n (pc := 412) (j := 0) dX12_init_412 rfl rfl ?_
  refine Y_bipush (pc := 413) (v := (20 : Int32)) dX12_init_413 rfl ?_
  obtain ⟨r_47, er_47, h⟩ := bndE h
  obtain ⟨hb96, h⟩ := okE h
  refine Y_newa (pc := 415) (a := r_47) (t := 22) (N := 20) dX12_init_415 (by decide) (by decide) rfl w1_101 (hP95.free er_47) hb96 (by decide) rfl (by decide) ?_
  obtain ⟨M96, eM96, h⟩ := bndE h
  refine VV.mem eM96 ?_
  have hP96 := hP95.wN er_47 (by decide) eM96
  obtain ⟨hb97, h⟩ := okE h
  refine Z_putr (pc := 417) dX12_init_417 w8_126 hb97 fr_12_60 (Or.inr ⟨rfl, rfl⟩) (Or.inr ⟨_, rfl⟩) ?_
  obtain ⟨M97, eM97, h⟩ := bndE h
  refine VV.mem eM97 ?_
  have hP97 := hP96.wR0 (by omega) eM97
  refine Y_aload_n (pc := 420) (j := 0) dX12_init_420 rfl rfl ?_
  refine Y_bipush (pc := 421) (v := (20 : Int32)) dX12_init_421 rfl ?_
  obtain ⟨r_48, er_48, h⟩ := bndE h
  obtain ⟨hb98, h⟩ := okE h
  refine Y_newa (pc := 423) (a := r_48) (t := 24) (N := 20) dX12_init_423 (by decide) (by decide) rfl w9_101 (hP97.free er_48) hb98 (by decide) rfl (by decide) ?_
  obtain ⟨M98, eM98, h⟩ := bndE h
  refine VV.mem eM98 ?_
  have hP98 := hP97.wN er_48 (by decide) eM98
  obtain ⟨hb99, h⟩ := okE h
  refine Z_putr (pc := 425) dX12_init_425 w8_127 hb99 fr_12_61 (Or.inr ⟨rfl, rfl⟩) (Or.inr ⟨_, rfl⟩) ?_
  obtain ⟨M99, eM99, h⟩ := bndE h
  refine VV.mem eM99 ?_
  have hP99 := hP98.wR0 (by omega) eM99
  refine Y_aload_n (pc := 428) (j := 0) dX12_init_428 rfl rfl ?_
  refine Y_bipush (pc := 429) (v := (45 : Int32)) dX12_init_429 rfl ?_
  obtain ⟨hb100, h⟩ := okE h
  refine Z_putc (pc := 431) dX12_init_431 w8_128 hb100 fi_12_62 (Or.inl rfl) rfl (by decide) ?_
  obtain ⟨M100, eM100, h⟩ := bndE h
  refine VV.mem eM100 ?_
  have hP100 := hP99.wI eM100
  refine Y_aload_n (pc := 434) (j := 0) dX12_init_434 rfl rfl ?_
  refine Y_iconst (pc := 435) (v := (-1 : Int32)) dX12_init_435 rfl ?_
  obtain ⟨hb101, h⟩ := okE h
  refine Z_puti (pc := 436) dX12_init_436 w8_134 hb101 fi_12_68 (Or.inl rfl) rfl ?_
  obtain ⟨M101, eM101, h⟩ := bndE h
  refine VV.mem eM101 ?_
  have hP101 := hP100.wI eM101
  refine Y_aload_n (pc := 439) (j := 0) dX12_init_439 rfl rfl ?_
  refine Y_bipush (pc := 440) (v := (30 : Int32)) dX12_init_440 rfl ?_
  obtain ⟨r_49, er_49, h⟩ := bndE h
  obtain ⟨hb102, h⟩ := okE h
  refine Y_newa (pc := 442) (a := r_49) (t := 21) (N := 30) dX12_init_442 (by decide) (by decide) rfl w1_100 (hP101.free er_49) hb102 (by decide) rfl (by decide) ?_
  obtain ⟨M102, eM102, h⟩ := bndE h
  refine VV.mem eM102 ?_
  have hP102 := hP101.wN er_49 (by decide) eM102
  obtain ⟨hb103, h⟩ := okE h
  refine Z_putr (pc := 444) dX12_init_444 w8_143 hb103 fr_12_77 (Or.inr ⟨rfl, rfl⟩) (Or.inr ⟨_, rfl⟩) ?_
  obtain ⟨M103, eM103, h⟩ := bndE h
  refine VV.mem eM103 ?_
  have hP103 := hP102.wR0 (by omega) eM103
  refine Y_aload_n (pc := 447) (j := 0) dX12_init_447 rfl rfl ?_
  refine Y_bipush (pc := 448) (v := (120 : Int32)) dX12_init_448 rfl ?_
  obtain ⟨r_50, er_50, h⟩ := bndE h
  obtain ⟨hb104, h⟩ := okE h
  refine Y_newa (pc := 450) (a := r_50) (t := 22) (N := 120) dX12_init_450 (by decide) (by decide) rfl w1_101 (hP103.free er_50) hb104 (by decide) rfl (by decide) ?_
  obtain ⟨M104, eM104, h⟩ := bndE h
  refine VV.mem eM104 ?_
  have hP104 := hP103.wN er_50 (by decide) eM104
  obtain ⟨hb105, h⟩ := okE h
  refine Z_putr (pc := 452) dX12_init_452 w8_145 hb105 fr_12_79 (Or.inr ⟨rfl, rfl⟩) (Or.inr ⟨_, rfl⟩) ?_
  obtain ⟨M105, eM105, h⟩ := bndE h
  refine VV.mem eM105 ?_
  have hP105 := hP104.wR0 (by omega) eM105
  refine Y_aload_n (pc := 455) (j := 0) dX12_init_455 rfl rfl ?_
  refine Y_bipush (pc := 456) (v := (120 : Int32)) dX12_init_456 rfl ?_
  obtain ⟨r_51, er_51, h⟩ := bndE h
  obtain ⟨hb106, h⟩ := okE h
  refine Y_newa (pc := 458) (a := r_51) (t := 21) (N := 120) dX12_init_458 (by decide) (by decide) rfl w1_100 (hP105.free er_51) hb106 (by decide) rfl (by decide) ?_
  obtain ⟨M106, eM106, h⟩ := bndE h
  refine VV.mem eM106 ?_
  have hP106 := hP105.wN er_51 (by decide) eM106
  obtain ⟨hb107, h⟩ := okE h
  refine Z_putr (pc := 460) dX12_init_460 w8_146 hb107 fr_12_80 (Or.inr ⟨rfl, rfl⟩) (Or.inr ⟨_, rfl⟩) ?_
  obtain ⟨M107, eM107, h⟩ := bndE h
  refine VV.mem eM107 ?_
  have hP107 := hP106.wR0 (by omega) eM107
  refine Y_aload_n (pc := 463) (j := 0) dX12_init_463 rfl rfl ?_
  refine Y_bipush (pc := 464) (v := (120 : Int32)) dX12_init_464 rfl ?_
  obtain ⟨r_52, er_52, h⟩ := bndE h
  obtain ⟨hb108, h⟩ := okE h
  refine Y_newa (pc := 466) (a := r_52) (t := 21) (N := 120) dX12_init_466 (by decide) (by decide) rfl w1_100 (hP107.free er_52) hb108 (by decide) rfl (by decide) ?_
  obtain ⟨M108, eM108, h⟩ := bndE h
  refine VV.mem eM108 ?_
  have hP108 := hP107.wN er_52 (by decide) eM108
  obtain ⟨hb109, h⟩ := okE h
  refine Z_putr (pc := 468) dX12_init_468 w8_147 hb109 fr_12_81 (Or.inr ⟨rfl, rfl⟩) (Or.inr ⟨_, rfl⟩) ?_
  obtain ⟨M109, eM109, h⟩ := bndE h
  refine VV.mem eM109 ?_
  have hP109 := hP108.wR0 (by omega) eM109
  refine Y_aload_n (pc := 471) (j := 0) dX12_init_471 rfl rfl ?_
  refine Y_bipush (pc := 472) (v := (120 : Int32)) dX12_init_472 rfl ?_
  obtain ⟨r_53, er_53, h⟩ := bndE h
  obtain ⟨hb110, h⟩ := okE h
  refine Y_newa (pc := 474) (a := r_53) (t := 21) (N := 120) dX12_init_474 (by decide) (by decide) rfl w1_100 (hP109.free er_53) hb110 (by decide) rfl (by decide) ?_
  obtain ⟨M110, eM110, h⟩ := bndE h
  refine VV.mem eM110 ?_
  have hP110 := hP109.wN er_53 (by decide) eM110
  obtain ⟨hb111, h⟩ := okE h
  refine Z_putr (pc := 476) dX12_init_476 w8_148 hb111 fr_12_82 (Or.inr ⟨rfl, rfl⟩) (Or.inr ⟨_, rfl⟩) ?_
  obtain ⟨M111, eM111, h⟩ := bndE h
  refine VV.mem eM111 ?_
  have hP111 := hP110.wR0 (by omega) eM111
  refine Y_aload_n (pc := 479) (j := 0) dX12_init_479 rfl rfl ?_
  refine Y_sipush (pc := 480) (v := (600 : Int32)) dX12_init_480 rfl ?_
  obtain ⟨r_54, er_54, h⟩ := bndE h
  obtain ⟨hb112, h⟩ := okE h
  refine Y_newa (pc := 483) (a := r_54) (t := 22) (N := 600) dX12_init_483 (by decide) (by decide) rfl w1_101 (hP111.free er_54) hb112 (by decide) rfl (by decide) ?_
  obtain ⟨M112, eM112, h⟩ := bndE h
  refine VV.mem eM112 ?_
  have hP112 := hP111.wN er_54 (by decide) eM112
  obtain ⟨hb113, h⟩ := okE h
  refine Z_putr (pc := 485) dX12_init_485 w8_150 hb113 fr_12_84 (Or.inr ⟨rfl, rfl⟩) (Or.inr ⟨_, rfl⟩) ?_
  obtain ⟨M113, eM113, h⟩ := bndE h
  refine VV.mem eM113 ?_
  have hP113 := hP112.wR0 (by omega) eM113
  refine Y_aload_n (pc := 488) (j := 0) dX12_init_488 rfl rfl ?_
  refine Y_sipush (pc := 489) (v := (600 : Int32)) dX12_init_489 rfl ?_
  obtain ⟨r_55, er_55, h⟩ := bndE h
  obtain ⟨hb114, h⟩ := okE h
  refine Y_newa (pc := 492) (a := r_55) (t := 23) (N := 600) dX12_init_492 (by decide) (by decide) rfl w9_100 (hP113.free er_55) hb114 (by decide) rfl (by decide) ?_
  obtain ⟨M114, eM114, h⟩ := bndE h
  refine VV.mem eM114 ?_
  have hP114 := hP113.wN er_55 (by decide) eM114
  obtain ⟨hb115, h⟩ := okE h
  refine Z_putr (pc := 494) dX12_init_494 w8_151 hb115 fr_12_85 (Or.inr ⟨rfl, rfl⟩) (Or.inr ⟨_, rfl⟩) ?_
  obtain ⟨M115, eM115, h⟩ := bndE h
  refine VV.mem eM115 ?_
  have hP115 := hP114.wR0 (by omega) eM115
  refine Y_aload_n (pc := 497) (j := 0) dX12_init_497 rfl rfl ?_
  refine Y_sipush (pc := 498) (v := (600 : Int32)) dX12_init_498 rfl ?_
  obtain ⟨r_56, er_56, h⟩ := bndE h
  obtain ⟨hb116, h⟩ := okE h
  refine Y_newa (pc := 501) (a := r_56) (t := 21) (N := 600) dX12_init_501 (by decide) (by decide) rfl w1_100 (hP115.free er_56) hb116 (by decide) rfl (by decide) ?_
  obtain ⟨M116, eM116, h⟩ := bndE h
  refine VV.mem eM116 ?_
  have hP116 := hP115.wN er_56 (by decide) eM116
  obtain ⟨hb117, h⟩ := okE h
  refine Z_putr (pc := 503) dX12_init_503 w8_152 hb117 fr_12_86 (Or.inr ⟨rfl, rfl⟩) (Or.inr ⟨_, rfl⟩) ?_
  obtain ⟨M117, eM117, h⟩ := bndE h
  refine VV.mem eM117 ?_
  have hP117 := hP116.wR0 (by omega) eM117
  refine Y_aload_n (pc := 506) (j := 0) dX12_init_506 rfl rfl ?_
  refine Y_sipush (pc := 507) (v := (600 : Int32)) dX12_init_507 rfl ?_
  obtain ⟨r_57, er_57, h⟩ := bndE h
  obtain ⟨hb118, h⟩ := okE h
  refine Y_newa (pc := 510) (a := r_57) (t := 21) (N := 600) dX12_init_510 (by decide) (by decide) rfl w1_100 (hP117.free er_57) hb118 (by decide) rfl (by decide) ?_
  obtain ⟨M118, eM118, h⟩ := bndE h
  refine VV.mem eM118 ?_
  have hP118 := hP117.wN er_57 (by decide) eM118
  obtain ⟨hb119, h⟩ := okE h
  refine Z_putr (pc := 512) dX12_init_512 w8_153 hb119 fr_12_87 (Or.inr ⟨rfl, rfl⟩) (Or.inr ⟨_, rfl⟩) ?_
  obtain ⟨M119, eM119, h⟩ := bndE h
  refine VV.mem eM119 ?_
  have hP119 := hP118.wR0 (by omega) eM119
  refine Y_iconst (pc := 515) (v := (0 : Int32)) dX12_init_515 rfl ?_
  refine Y_istore_n (pc := 516) (lv1 := [(1, .int (0 : Int32)), (0, .ref r0)]) dX12_init_516 rfl (by decide) rfl ?_
  refine VV.sub [1, 0] rfl ?_
  exact b_X12_init_517  fuel _ _ _ h hP119
theorem v_X12_init {r0 : Nat} {M z} (hP : Fsh M) (hr : r0 ≤ nx M) (h : d_X12_init r0 M = some z) : CC (Kx r0 M) k_X12_init [.ref r0] M z.2 (Qv (none) z.2) xF :=
  CC.ofVV (by decide) rfl (Nat.le_of_ble_eq_true rfl) (b_X12_init (Kx.refl hP hr) h)
theorem b_X12_thrown {M z} (hP : Lay M) (h : d_X12_thrown M = some z) : VV Lay k_X12_thrown 0 [(0, .ref 69)] [] M z.2 (Qv (some (.int z.1)) z.2) xF := by
  unfold d_X12_thrown at h
  refine Y_aload_n (pc := 0) (j := 0) dX12_thrown_0 rfl rfl ?_
  refine Z_geti (pc := 1) dX12_thrown_1 w8_66 (lk_69 hP) fi_12_0 ?_
  cases h
  exact Y_iret (pc := 4) rfl rfl dX12_thrown_4 hP ⟨rfl, rfl⟩
theorem v_X12_thrown {M z} (hP : Lay M) (h : d_X12_thrown M = some z) : CC Lay k_X12_thrown [.ref 69] M z.2 (Qv (some (.int z.1)) z.2) xF :=
  CC.ofVV (by decide) rfl (Nat.le_of_ble_eq_true rfl) (b_X12_thrown hP h)
theorem b_X12_in {x0 : Int32} {x1 : Int32} {x2 : Int32} {M z} (hP : Lay M) (h : d_X12_in x0 x1 x2 M = some z) : VV Lay k_X12_in 0 [(0, .int x0), (1, .int x1), (2, .int x2)] [] M z.2 (Qv (some (.int z.1)) z.2) xF := by
  unfold d_X12_in at h
  refine Y_iload_n (pc := 0) (j := 0) dX12_in_0 rfl rfl ?_
  refine Y_iload_n (pc := 1) (j := 1) dX12_in_1 rfl rfl ?_
  refine Y_icmp_lt (pc := 2) (tgt := 14) dX12_in_2 (by decide) (fun hc1 => ?_) (fun hc1 => ?_)
  · replace h := ifT hc1 h
    refine Y_iconst (pc := 14) (v := (0 : Int32)) dX12_in_14 rfl ?_
    cases h
    exact Y_iret (pc := 15) rfl (nar_bo (by decide)) dX12_in_15 hP ⟨rfl, rfl⟩
  · replace h := ifF hc1 h
    refine Y_iload_n (pc := 5) (j := 0) dX12_in_5 rfl rfl ?_
    refine Y_iload_n (pc := 6) (j := 2) dX12_in_6 rfl rfl ?_
    refine Y_icmp_gt (pc := 7) (tgt := 14) dX12_in_7 (by decide) (fun hc2 => ?_) (fun hc2 => ?_)
    · replace h := ifT hc2 h
      refine Y_iconst (pc := 14) (v := (0 : Int32)) dX12_in_14 rfl ?_
      cases h
      exact Y_iret (pc := 15) rfl (nar_bo (by decide)) dX12_in_15 hP ⟨rfl, rfl⟩
    · replace h := ifF hc2 h
      refine Y_iconst (pc := 10) (v := (1 : Int32)) dX12_in_10 rfl ?_
      refine Y_goto (pc := 11) (tgt := 15) dX12_in_11 (by decide) ?_
      cases h
      exact Y_iret (pc := 15) rfl (nar_bo (by decide)) dX12_in_15 hP ⟨rfl, rfl⟩
theorem v_X12_in {x0 : Int32} {x1 : Int32} {x2 : Int32} {M z} (hP : Lay M) (h : d_X12_in x0 x1 x2 M = some z) : CC Lay k_X12_in [.int x0, .int x1, .int x2] M z.2 (Qv (some (.int z.1)) z.2) xF :=
  CC.ofVV (by decide) rfl (Nat.le_of_ble_eq_true rfl) (b_X12_in hP h)
theorem b_X12_fails {x1 : Int32} {M z} (hP : Lay M) (h : d_X12_fails x1 M = some z) : VV Lay k_X12_fails 0 [(0, .ref 69), (1, .int x1)] [] M z.2 (Qv (some (.int z.1)) z.2) xF := by
  unfold d_X12_fails at h
  refine Y_aload_n (pc := 0) (j := 0) dX12_fails_0 rfl rfl ?_
  refine Y_iload_n (pc := 1) (j := 1) dX12_fails_1 rfl rfl ?_
  refine Z_puti (pc := 2) dX12_fails_2 w8_66 (lk_69 hP) fi_12_0 (Or.inl rfl) rfl ?_
  obtain ⟨M1, eM1, h⟩ := bndE h
  refine VV.mem eM1 ?_
  have hP1 := hP.wI eM1
  refine Y_iconst (pc := 5) (v := (0 : Int32)) dX12_fails_5 rfl ?_
  cases h
  exact Y_iret (pc := 6) rfl rfl dX12_fails_6 hP1 ⟨rfl, rfl⟩
theorem v_X12_fails {x1 : Int32} {M z} (hP : Lay M) (h : d_X12_fails x1 M = some z) : CC Lay k_X12_fails [.ref 69, .int x1] M z.2 (Qv (some (.int z.1)) z.2) xF :=
  CC.ofVV (by decide) rfl (Nat.le_of_ble_eq_true rfl) (b_X12_fails hP h)
theorem b_X12_isFunction {x1 : Int32} {M z} (hP : Lay M) (h : d_X12_isFunction x1 M = some z) : VV Lay k_X12_isFunction 0 [(0, .ref 69), (1, .int x1)] [] M z.2 (Qv (some (.int z.1)) z.2) xF := by
  unfold d_X12_isFunction at h
  refine Y_iload_n (pc := 0) (j := 1) dX12_isFunction_0 rfl rfl ?_
  refine Y_iconst (pc := 1) (v := (0 : Int32)) dX12_isFunction_1 rfl ?_
  refine Y_aload_n (pc := 2) (j := 0) dX12_isFunction_2 rfl rfl ?_
  refine Z_geti (pc := 3) dX12_isFunction_3 w8_67 (lk_69 hP) fi_12_1 ?_
  refine Y_iconst (pc := 6) (v := (1 : Int32)) dX12_isFunction_6 rfl ?_
  refine Y_isub (pc := 7) dX12_isFunction_7 ?_
  obtain ⟨y1, qy1, h⟩ := bindE h
  have cy1 := v_X12_in hP qy1
  refine C_S3r (pc := 8) (k' := k_X12_in) dX12_isFunction_8 w9_110 i_X12_in (Nat.le_of_ble_eq_true rfl) (Nat.le_of_ble_eq_true rfl) (Nat.le_of_ble_eq_true rfl) (cy1) ?_
  have hPy1 := cy1.1.1
  obtain ⟨hb1, h⟩ := okE h
  cases h
  exact Y_iret (pc := 11) rfl (nar_bo hb1) dX12_isFunction_11 hPy1 ⟨rfl, rfl⟩
theorem v_X12_isFunction {x1 : Int32} {M z} (hP : Lay M) (h : d_X12_isFunction x1 M = some z) : CC Lay k_X12_isFunction [.ref 69, .int x1] M z.2 (Qv (some (.int z.1)) z.2) xF :=
  CC.ofVV (by decide) rfl (Nat.le_of_ble_eq_true rfl) (b_X12_isFunction hP h)
theorem b_X12_addFunction {x1 : Int32} {M z} (hP : Lay M) (h : d_X12_addFunction x1 M = some z) : VV Lay k_X12_addFunction 0 [(0, .ref 69), (1, .int x1)] [] M z.2 (Qv (some (.int z.1)) z.2) xF := by
  unfold d_X12_addFunction at h
  refine Y_aload_n (pc := 0) (j := 0) dX12_addFunction_0 rfl rfl ?_
  refine Y_iconst (pc := 1) (v := (0 : Int32)) dX12_addFunction_1 rfl ?_
  refine Z_puti (pc := 2) dX12_addFunction_2 w8_66 (lk_69 hP) fi_12_0 (Or.inl rfl) rfl ?_
  obtain ⟨M1, eM1, h⟩ := bndE h
  refine VV.mem eM1 ?_
  have hP1 := hP.wI eM1
  refine Y_iload_n (pc := 5) (j := 1) dX12_addFunction_5 rfl rfl ?_
  refine Y_iconst (pc := 6) (v := (0 : Int32)) dX12_addFunction_6 rfl ?_
  refine Y_iconst (pc := 7) (v := (3 : Int32)) dX12_addFunction_7 rfl ?_
  obtain ⟨y1, qy1, h⟩ := bindE h
  have cy1 := v_X12_in hP1 qy1
  refine C_S3r (pc := 8) (k' := k_X12_in) dX12_addFunction_8 w9_110 i_X12_in (Nat.le_of_ble_eq_true rfl) (Nat.le_of_ble_eq_true rfl) (Nat.le_of_ble_eq_true rfl) (cy1) ?_
  have hPy1 := cy1.1.1
  refine Y_if_ne (pc := 11) (tgt := 20) dX12_addFunction_11 (by decide) (fun hc1 => ?_) (fun hc1 => ?_)
  · replace h := ifF hc1 h
    refine Y_aload_n (pc := 20) (j := 0) dX12_addFunction_20 rfl rfl ?_
    refine Z_geti (pc := 21) dX12_addFunction_21 w8_67 (lk_69 hPy1) fi_12_1 ?_
    refine Y_bipush (pc := 24) (v := (8 : Int32)) dX12_addFunction_24 rfl ?_
    refine Y_icmp_ne (pc := 26) (tgt := 35) dX12_addFunction_26 (by decide) (fun hc2 => ?_) (fun hc2 => ?_)
    · replace h := ifF hc2 h
      refine Y_aload_n (pc := 35) (j := 0) dX12_addFunction_35 rfl rfl ?_
      refine Z_getr (pc := 36) dX12_addFunction_36 w8_68 (lk_69 hPy1) fr_12_2 (lr_69_2 hPy1) ?_
      refine Y_aload_n (pc := 39) (j := 0) dX12_addFunction_39 rfl rfl ?_
      refine Z_geti (pc := 40) dX12_addFunction_40 w8_67 (lk_69 hPy1) fi_12_1 ?_
      refine Y_iload_n (pc := 43) (j := 1) dX12_addFunction_43 rfl rfl ?_
      obtain ⟨hb1, h⟩ := okE h
      refine Y_iast (pc := 44) dX12_addFunction_44 (lk_70 hPy1) (ln_70 hPy1) hb1 ?_
      obtain ⟨M2, eM2, h⟩ := bndE h
      refine VV.mem eM2 ?_
      have hP2 := hPy1.wI eM2
      refine Y_aload_n (pc := 45) (j := 0) dX12_addFunction_45 rfl rfl ?_
      refine Y_dup (pc := 46) dX12_addFunction_46 rfl ?_
      refine Z_geti (pc := 47) dX12_addFunction_47 w8_67 (lk_69 hP2) fi_12_1 ?_
      refine Y_iconst (pc := 50) (v := (1 : Int32)) dX12_addFunction_50 rfl ?_
      refine Y_iadd (pc := 51) dX12_addFunction_51 ?_
      refine Z_puti (pc := 52) dX12_addFunction_52 w8_67 (lk_69 hP2) fi_12_1 (Or.inl rfl) rfl ?_
      obtain ⟨M3, eM3, h⟩ := bndE h
      refine VV.mem eM3 ?_
      have hP3 := hP2.wI eM3
      refine Y_aload_n (pc := 55) (j := 0) dX12_addFunction_55 rfl rfl ?_
      refine Z_geti (pc := 56) dX12_addFunction_56 w8_67 (lk_69 hP3) fi_12_1 ?_
      refine Y_iconst (pc := 59) (v := (1 : Int32)) dX12_addFunction_59 rfl ?_
      refine Y_isub (pc := 60) dX12_addFunction_60 ?_
      cases h
      exact Y_iret (pc := 61) rfl rfl dX12_addFunction_61 hP3 ⟨rfl, rfl⟩
    · replace h := ifT hc2 h
      refine Y_aload_n (pc := 29) (j := 0) dX12_addFunction_29 rfl rfl ?_
      refine Y_iconst (pc := 30) (v := (2 : Int32)) dX12_addFunction_30 rfl ?_
      obtain ⟨y2, qy2, h⟩ := bindE h
      have cy2 := v_X12_fails hPy1 qy2
      refine C_V1r (pc := 31) (k' := k_X12_fails) dX12_addFunction_31 w9_113 i_X12_fails (lk_69 hPy1) ⟨Nat.le_of_ble_eq_true rfl, Nat.le_of_ble_eq_true rfl⟩ rfl (Nat.le_of_ble_eq_true rfl) (Nat.le_of_ble_eq_true rfl) (Nat.le_of_ble_eq_true rfl) (cy2) ?_
      have hPy2 := cy2.1.1
      cases h
      exact Y_iret (pc := 34) rfl rfl dX12_addFunction_34 hPy2 ⟨rfl, rfl⟩
  · replace h := ifT hc1 h
    refine Y_aload_n (pc := 14) (j := 0) dX12_addFunction_14 rfl rfl ?_
    refine Y_iconst (pc := 15) (v := (1 : Int32)) dX12_addFunction_15 rfl ?_
    obtain ⟨y3, qy3, h⟩ := bindE h
    have cy3 := v_X12_fails hPy1 qy3
    refine C_V1r (pc := 16) (k' := k_X12_fails) dX12_addFunction_16 w9_113 i_X12_fails (lk_69 hPy1) ⟨Nat.le_of_ble_eq_true rfl, Nat.le_of_ble_eq_true rfl⟩ rfl (Nat.le_of_ble_eq_true rfl) (Nat.le_of_ble_eq_true rfl) (Nat.le_of_ble_eq_true rfl) (cy3) ?_
    have hPy3 := cy3.1.1
    cases h
    exact Y_iret (pc := 19) rfl rfl dX12_addFunction_19 hPy3 ⟨rfl, rfl⟩
theorem v_X12_addFunction {x1 : Int32} {M z} (hP : Lay M) (h : d_X12_addFunction x1 M = some z) : CC Lay k_X12_addFunction [.ref 69, .int x1] M z.2 (Qv (some (.int z.1)) z.2) xF :=
  CC.ofVV (by decide) rfl (Nat.le_of_ble_eq_true rfl) (b_X12_addFunction hP h)
theorem b_X12_isPair {x0 : Int32} {M z} (hP : Lay M) (h : d_X12_isPair x0 M = some z) : VV Lay k_X12_isPair 0 [(0, .int x0)] [] M z.2 (Qv (some (.int z.1)) z.2) xF := by
  unfold d_X12_isPair at h
  refine Y_iload_n (pc := 0) (j := 0) dX12_isPair_0 rfl rfl ?_
  refine Y_bipush (pc := 1) (v := (43 : Int32)) dX12_isPair_1 rfl ?_
  refine Y_icmp_eq (pc := 3) (tgt := 42) dX12_isPair_3 (by decide) (fun hc1 => ?_) (fun hc1 => ?_)
  · replace h := ifT hc1 h
    refine Y_iconst (pc := 42) (v := (1 : Int32)) dX12_isPair_42 rfl ?_
    refine Y_goto (pc := 43) (tgt := 47) dX12_isPair_43 (by decide) ?_
    cases h
    exact Y_iret (pc := 47) rfl (nar_bo (by decide)) dX12_isPair_47 hP ⟨rfl, rfl⟩
  · replace h := ifF hc1 h
    refine Y_iload_n (pc := 6) (j := 0) dX12_isPair_6 rfl rfl ?_
    refine Y_bipush (pc := 7) (v := (45 : Int32)) dX12_isPair_7 rfl ?_
    refine Y_icmp_eq (pc := 9) (tgt := 42) dX12_isPair_9 (by decide) (fun hc2 => ?_) (fun hc2 => ?_)
    · replace h := ifT hc2 h
      refine Y_iconst (pc := 42) (v := (1 : Int32)) dX12_isPair_42 rfl ?_
      refine Y_goto (pc := 43) (tgt := 47) dX12_isPair_43 (by decide) ?_
      cases h
      exact Y_iret (pc := 47) rfl (nar_bo (by decide)) dX12_isPair_47 hP ⟨rfl, rfl⟩
    · replace h := ifF hc2 h
      refine Y_iload_n (pc := 12) (j := 0) dX12_isPair_12 rfl rfl ?_
      refine Y_bipush (pc := 13) (v := (42 : Int32)) dX12_isPair_13 rfl ?_
      refine Y_icmp_eq (pc := 15) (tgt := 42) dX12_isPair_15 (by decide) (fun hc3 => ?_) (fun hc3 => ?_)
      · replace h := ifT hc3 h
        refine Y_iconst (pc := 42) (v := (1 : Int32)) dX12_isPair_42 rfl ?_
        refine Y_goto (pc := 43) (tgt := 47) dX12_isPair_43 (by decide) ?_
        cases h
        exact Y_iret (pc := 47) rfl (nar_bo (by decide)) dX12_isPair_47 hP ⟨rfl, rfl⟩
      · replace h := ifF hc3 h
        refine Y_iload_n (pc := 18) (j := 0) dX12_isPair_18 rfl rfl ?_
        refine Y_bipush (pc := 19) (v := (47 : Int32)) dX12_isPair_19 rfl ?_
        refine Y_icmp_eq (pc := 21) (tgt := 42) dX12_isPair_21 (by decide) (fun hc4 => ?_) (fun hc4 => ?_)
        · replace h := ifT hc4 h
          refine Y_iconst (pc := 42) (v := (1 : Int32)) dX12_isPair_42 rfl ?_
          refine Y_goto (pc := 43) (tgt := 47) dX12_isPair_43 (by decide) ?_
          cases h
          exact Y_iret (pc := 47) rfl (nar_bo (by decide)) dX12_isPair_47 hP ⟨rfl, rfl⟩
        · replace h := ifF hc4 h
          refine Y_iload_n (pc := 24) (j := 0) dX12_isPair_24 rfl rfl ?_
          refine Y_bipush (pc := 25) (v := (37 : Int32)) dX12_isPair_25 rfl ?_
          refine Y_icmp_eq (pc := 27) (tgt := 42) dX12_isPair_27 (by decide) (fun hc5 => ?_) (fun hc5 => ?_)
          · replace h := ifT hc5 h
            refine Y_iconst (pc := 42) (v := (1 : Int32)) dX12_isPair_42 rfl ?_
            refine Y_goto (pc := 43) (tgt := 47) dX12_isPair_43 (by decide) ?_
            cases h
            exact Y_iret (pc := 47) rfl (nar_bo (by decide)) dX12_isPair_47 hP ⟨rfl, rfl⟩
          · replace h := ifF hc5 h
            refine Y_iload_n (pc := 30) (j := 0) dX12_isPair_30 rfl rfl ?_
            refine Y_bipush (pc := 31) (v := (60 : Int32)) dX12_isPair_31 rfl ?_
            refine Y_icmp_eq (pc := 33) (tgt := 42) dX12_isPair_33 (by decide) (fun hc6 => ?_) (fun hc6 => ?_)
            · replace h := ifT hc6 h
              refine Y_iconst (pc := 42) (v := (1 : Int32)) dX12_isPair_42 rfl ?_
              refine Y_goto (pc := 43) (tgt := 47) dX12_isPair_43 (by decide) ?_
              cases h
              exact Y_iret (pc := 47) rfl (nar_bo (by decide)) dX12_isPair_47 hP ⟨rfl, rfl⟩
            · replace h := ifF hc6 h
              refine Y_iload_n (pc := 36) (j := 0) dX12_isPair_36 rfl rfl ?_
              refine Y_bipush (pc := 37) (v := (61 : Int32)) dX12_isPair_37 rfl ?_
              refine Y_icmp_ne (pc := 39) (tgt := 46) dX12_isPair_39 (by decide) (fun hc7 => ?_) (fun hc7 => ?_)
              · replace h := ifF hc7 h
                refine Y_iconst (pc := 46) (v := (0 : Int32)) dX12_isPair_46 rfl ?_
                cases h
                exact Y_iret (pc := 47) rfl (nar_bo (by decide)) dX12_isPair_47 hP ⟨rfl, rfl⟩
              · replace h := ifT hc7 h
                refine Y_iconst (pc := 42) (v := (1 : Int32)) dX12_isPair_42 rfl ?_
                refine Y_goto (pc := 43) (tgt := 47) dX12_isPair_43 (by decide) ?_
                cases h
                exact Y_iret (pc := 47) rfl (nar_bo (by decide)) dX12_isPair_47 hP ⟨rfl, rfl⟩
theorem v_X12_isPair {x0 : Int32} {M z} (hP : Lay M) (h : d_X12_isPair x0 M = some z) : CC Lay k_X12_isPair [.int x0] M z.2 (Qv (some (.int z.1)) z.2) xF :=
  CC.ofVV (by decide) rfl (Nat.le_of_ble_eq_true rfl) (b_X12_isPair hP h)
theorem b_X12_isCode_52 {x2 : Int32} {M z} (hP : Lay M) (h : d_X12_isCode_52 x2 M = some z) : VV Lay k_X12_isCode 52 [(2, .int x2)] [] M z.2 (Qv (some (.int z.1)) z.2) xF := by
  unfold d_X12_isCode_52 at h
  refine Y_iload_n (pc := 52) (j := 0) dX12_isCode_52 rfl rfl ?_
  refine Y_iconst (pc := 53) (v := (0 : Int32)) dX12_isCode_53 rfl ?_
  refine Y_iconst (pc := 54) (v := (5 : Int32)) dX12_isCode_54 rfl ?_
  obtain ⟨y1, qy1, h⟩ := bindE h
  have cy1 := v_X12_in hP qy1
  refine C_S3r (pc := 55) (k' := k_X12_in) dX12_isCode_55 w9_110 i_X12_in (Nat.le_of_ble_eq_true rfl) (Nat.le_of_ble_eq_true rfl) (Nat.le_of_ble_eq_true rfl) (cy1) ?_
  have hPy1 := cy1.1.1
  obtain ⟨hb1, h⟩ := okE h
  cases h
  exact Y_iret (pc := 58) rfl (nar_bo hb1) dX12_isCode_58 hPy1 ⟨rfl, rfl⟩
theorem b_X12_isCode_71 {x2 : Int32} {M z} (hP : Lay M) (h : d_X12_isCode_71 x2 M = some z) : VV Lay k_X12_isCode 71 [(2, .int x2)] [] M z.2 (Qv (some (.int z.1)) z.2) xF := by
  unfold d_X12_isCode_71 at h
  refine Y_iload_n (pc := 71) (j := 0) dX12_isCode_71 rfl rfl ?_
  refine Y_iconst (pc := 72) (v := (0 : Int32)) dX12_isCode_72 rfl ?_
  refine Y_bipush (pc := 73) (v := (39 : Int32)) dX12_isCode_73 rfl ?_
  obtain ⟨y1, qy1, h⟩ := bindE h
  have cy1 := v_X12_in hP qy1
  refine C_S3r (pc := 75) (k' := k_X12_in) dX12_isCode_75 w9_110 i_X12_in (Nat.le_of_ble_eq_true rfl) (Nat.le_of_ble_eq_true rfl) (Nat.le_of_ble_eq_true rfl) (cy1) ?_
  have hPy1 := cy1.1.1
  obtain ⟨hb1, h⟩ := okE h
  cases h
  exact Y_iret (pc := 78) rfl (nar_bo hb1) dX12_isCode_78 hPy1 ⟨rfl, rfl⟩
theorem b_X12_isCode_157 {x2 : Int32} {s0 : Int32} {M z} (hP : Lay M) (h : d_X12_isCode_157 x2 s0 M = some z) : VV Lay k_X12_isCode 157 [(2, .int x2)] [.int s0] M z.2 (Qv (some (.int z.1)) z.2) xF := by
  unfold d_X12_isCode_157 at h
  refine Y_istore_n (pc := 157) (lv1 := [(3, .int s0), (2, .int x2)]) dX12_isCode_157 rfl (by decide) rfl ?_
  refine Y_iload_n (pc := 158) (j := 0) dX12_isCode_158 rfl rfl ?_
  refine Y_if_eq (pc := 159) (tgt := 170) dX12_isCode_159 (by decide) (fun hc1 => ?_) (fun hc1 => ?_)
  · replace h := ifT hc1 h
    refine Y_iconst (pc := 170) (v := (0 : Int32)) dX12_isCode_170 rfl ?_
    cases h
    exact Y_iret (pc := 171) rfl (nar_bo (by decide)) dX12_isCode_171 hP ⟨rfl, rfl⟩
  · replace h := ifF hc1 h
    refine Y_iload_n (pc := 162) (j := 1) dX12_isCode_162 rfl rfl ?_
    refine Y_if_ne (pc := 163) (tgt := 170) dX12_isCode_163 (by decide) (fun hc2 => ?_) (fun hc2 => ?_)
    · replace h := ifF hc2 h
      refine Y_iconst (pc := 170) (v := (0 : Int32)) dX12_isCode_170 rfl ?_
      cases h
      exact Y_iret (pc := 171) rfl (nar_bo (by decide)) dX12_isCode_171 hP ⟨rfl, rfl⟩
    · replace h := ifT hc2 h
      refine Y_iconst (pc := 166) (v := (1 : Int32)) dX12_isCode_166 rfl ?_
      refine Y_goto (pc := 167) (tgt := 171) dX12_isCode_167 (by decide) ?_
      cases h
      exact Y_iret (pc := 171) rfl (nar_bo (by decide)) dX12_isCode_171 hP ⟨rfl, rfl⟩
theorem b_X12_isCode_152 {x2 : Int32} {M z} (hP : Lay M) (h : d_X12_isCode_152 x2 M = some z) : VV Lay k_X12_isCode 152 [(2, .int x2)] [] M z.2 (Qv (some (.int z.1)) z.2) xF := by
  unfold d_X12_isCode_152 at h
  refine Y_iconst (pc := 152) (v := (1 : Int32)) dX12_isCode_152 rfl ?_
  refine Y_goto (pc := 153) (tgt := 157) dX12_isCode_153 (by decide) ?_
  refine VV.sub [0] rfl ?_
  exact b_X12_isCode_157  hP h
set_option maxRecDepth 20000 in
theorem b_X12_isCode {x1 : Int32} {x2 : Int32} {M z} (hP : Lay M) (h : d_X12_isCode x1 x2 M = some z) : VV Lay k_X12_isCode 0 [(0, .ref 69), (1, .int x1), (2, .int x2)] [] M z.2 (Qv (some (.int z.1)) z.2) xF := by
  unfold d_X12_isCode at h
  refine Y_iload_n (pc := 0) (j := 1) dX12_isCode_0 rfl rfl ?_
  refine Y_bipush (pc := 1) (v := (105 : Int32)) dX12_isCode_1 rfl ?_
  refine Y_icmp_ne (pc := 3) (tgt := 8) dX12_isCode_3 (by decide) (fun hc1 => ?_) (fun hc1 => ?_)
  · replace h := ifF hc1 h
    refine Y_iload_n (pc := 8) (j := 1) dX12_isCode_8 rfl rfl ?_
    refine Y_bipush (pc := 9) (v := (107 : Int32)) dX12_isCode_9 rfl ?_
    refine Y_icmp_ne (pc := 11) (tgt := 22) dX12_isCode_11 (by decide) (fun hc2 => ?_) (fun hc2 => ?_)
    · replace h := ifF hc2 h
      refine Y_iload_n (pc := 22) (j := 1) dX12_isCode_22 rfl rfl ?_
      refine Y_bipush (pc := 23) (v := (108 : Int32)) dX12_isCode_23 rfl ?_
      refine Y_icmp_eq (pc := 25) (tgt := 52) dX12_isCode_25 (by decide) (fun hc3 => ?_) (fun hc3 => ?_)
      · replace h := ifT hc3 h
        refine VV.sub [2] rfl ?_
        exact b_X12_isCode_52  hP h
      · replace h := ifF hc3 h
        refine Y_iload_n (pc := 28) (j := 1) dX12_isCode_28 rfl rfl ?_
        refine Y_bipush (pc := 29) (v := (115 : Int32)) dX12_isCode_29 rfl ?_
        refine Y_icmp_eq (pc := 31) (tgt := 52) dX12_isCode_31 (by decide) (fun hc4 => ?_) (fun hc4 => ?_)
        · replace h := ifT hc4 h
          refine VV.sub [2] rfl ?_
          exact b_X12_isCode_52  hP h
        · replace h := ifF hc4 h
          refine Y_iload_n (pc := 34) (j := 1) dX12_isCode_34 rfl rfl ?_
          refine Y_bipush (pc := 35) (v := (103 : Int32)) dX12_isCode_35 rfl ?_
          refine Y_icmp_eq (pc := 37) (tgt := 52) dX12_isCode_37 (by decide) (fun hc5 => ?_) (fun hc5 => ?_)
          · replace h := ifT hc5 h
            refine VV.sub [2] rfl ?_
            exact b_X12_isCode_52  hP h
          · replace h := ifF hc5 h
            refine Y_iload_n (pc := 40) (j := 1) dX12_isCode_40 rfl rfl ?_
            refine Y_bipush (pc := 41) (v := (112 : Int32)) dX12_isCode_41 rfl ?_
            refine Y_icmp_eq (pc := 43) (tgt := 52) dX12_isCode_43 (by decide) (fun hc6 => ?_) (fun hc6 => ?_)
            · replace h := ifT hc6 h
              refine VV.sub [2] rfl ?_
              exact b_X12_isCode_52  hP h
            · replace h := ifF hc6 h
              refine Y_iload_n (pc := 46) (j := 1) dX12_isCode_46 rfl rfl ?_
              refine Y_bipush (pc := 47) (v := (109 : Int32)) dX12_isCode_47 rfl ?_
              refine Y_icmp_ne (pc := 49) (tgt := 59) dX12_isCode_49 (by decide) (fun hc7 => ?_) (fun hc7 => ?_)
              · replace h := ifF hc7 h
                refine Y_iload_n (pc := 59) (j := 1) dX12_isCode_59 rfl rfl ?_
                refine Y_bipush (pc := 60) (v := (106 : Int32)) dX12_isCode_60 rfl ?_
                refine Y_icmp_eq (pc := 62) (tgt := 71) dX12_isCode_62 (by decide) (fun hc8 => ?_) (fun hc8 => ?_)
                · replace h := ifT hc8 h
                  refine VV.sub [2] rfl ?_
                  exact b_X12_isCode_71  hP h
                · replace h := ifF hc8 h
                  refine Y_iload_n (pc := 65) (j := 1) dX12_isCode_65 rfl rfl ?_
                  refine Y_bipush (pc := 66) (v := (122 : Int32)) dX12_isCode_66 rfl ?_
                  refine Y_icmp_ne (pc := 68) (tgt := 79) dX12_isCode_68 (by decide) (fun hc9 => ?_) (fun hc9 => ?_)
                  · replace h := ifF hc9 h
                    refine Y_iload_n (pc := 79) (j := 1) dX12_isCode_79 rfl rfl ?_
                    refine Y_bipush (pc := 80) (v := (110 : Int32)) dX12_isCode_80 rfl ?_
                    refine Y_icmp_ne (pc := 82) (tgt := 97) dX12_isCode_82 (by decide) (fun hc10 => ?_) (fun hc10 => ?_)
                    · replace h := ifF hc10 h
                      refine Y_iload_n (pc := 97) (j := 1) dX12_isCode_97 rfl rfl ?_
                      refine Y_bipush (pc := 98) (v := (99 : Int32)) dX12_isCode_98 rfl ?_
                      refine Y_icmp_ne (pc := 100) (tgt := 115) dX12_isCode_100 (by decide) (fun hc11 => ?_) (fun hc11 => ?_)
                      · replace h := ifF hc11 h
                        refine Y_iload_n (pc := 115) (j := 1) dX12_isCode_115 rfl rfl ?_
                        refine Y_bipush (pc := 116) (v := (117 : Int32)) dX12_isCode_116 rfl ?_
                        refine Y_icmp_eq (pc := 118) (tgt := 152) dX12_isCode_118 (by decide) (fun hc12 => ?_) (fun hc12 => ?_)
                        · replace h := ifT hc12 h
                          refine VV.sub [2] rfl ?_
                          exact b_X12_isCode_152  hP h
                        · replace h := ifF hc12 h
                          refine Y_iload_n (pc := 121) (j := 1) dX12_isCode_121 rfl rfl ?_
                          refine Y_bipush (pc := 122) (v := (100 : Int32)) dX12_isCode_122 rfl ?_
                          refine Y_icmp_eq (pc := 124) (tgt := 152) dX12_isCode_124 (by decide) (fun hc13 => ?_) (fun hc13 => ?_)
                          · replace h := ifT hc13 h
                            refine VV.sub [2] rfl ?_
                            exact b_X12_isCode_152  hP h
                          · replace h := ifF hc13 h
                            refine Y_iload_n (pc := 127) (j := 1) dX12_isCode_127 rfl rfl ?_
                            refine Y_bipush (pc := 128) (v := (119 : Int32)) dX12_isCode_128 rfl ?_
                            refine Y_icmp_eq (pc := 130) (tgt := 152) dX12_isCode_130 (by decide) (fun hc14 => ?_) (fun hc14 => ?_)
                            · replace h := ifT hc14 h
                              refine VV.sub [2] rfl ?_
                              exact b_X12_isCode_152  hP h
                            · replace h := ifF hc14 h
                              refine Y_iload_n (pc := 133) (j := 1) dX12_isCode_133 rfl rfl ?_
                              refine Y_bipush (pc := 134) (v := (114 : Int32)) dX12_isCode_134 rfl ?_
                              refine Y_icmp_eq (pc := 136) (tgt := 152) dX12_isCode_136 (by decide) (fun hc15 => ?_) (fun hc15 => ?_)
                              · replace h := ifT hc15 h
                                refine VV.sub [2] rfl ?_
                                exact b_X12_isCode_152  hP h
                              · replace h := ifF hc15 h
                                refine Y_iload_n (pc := 139) (j := 1) dX12_isCode_139 rfl rfl ?_
                                refine Y_bipush (pc := 140) (v := (116 : Int32)) dX12_isCode_140 rfl ?_
                                refine Y_icmp_eq (pc := 142) (tgt := 152) dX12_isCode_142 (by decide) (fun hc16 => ?_) (fun hc16 => ?_)
                                · replace h := ifT hc16 h
                                  refine VV.sub [2] rfl ?_
                                  exact b_X12_isCode_152  hP h
                                · replace h := ifF hc16 h
                                  refine Y_iload_n (pc := 145) (j := 1) dX12_isCode_145 rfl rfl ?_
                                  obtain ⟨y1, qy1, h⟩ := bindE h
                                  have cy1 := v_X12_isPair hP qy1
                                  refine C_S1r (pc := 146) (k' := k_X12_isPair) dX12_isCode_146 w9_129 i_X12_isPair (Nat.le_of_ble_eq_true rfl) (Nat.le_of_ble_eq_true rfl) (Nat.le_of_ble_eq_true rfl) (cy1) ?_
                                  have hPy1 := cy1.1.1
                                  refine Y_if_eq (pc := 149) (tgt := 156) dX12_isCode_149 (by decide) (fun hc17 => ?_) (fun hc17 => ?_)
                                  · replace h := ifT hc17 h
                                    refine Y_iconst (pc := 156) (v := (0 : Int32)) dX12_isCode_156 rfl ?_
                                    refine VV.sub [2] rfl ?_
                                    exact b_X12_isCode_157  hPy1 h
                                  · replace h := ifF hc17 h
                                    refine VV.sub [2] rfl ?_
                                    exact b_X12_isCode_152  hPy1 h
                      · replace h := ifT hc11 h
                        refine Y_iload_n (pc := 103) (j := 2) dX12_isCode_103 rfl rfl ?_
                        refine Y_iconst (pc := 104) (v := (0 : Int32)) dX12_isCode_104 rfl ?_
                        refine Y_aload_n (pc := 105) (j := 0) dX12_isCode_105 rfl rfl ?_
                        refine Z_geti (pc := 106) dX12_isCode_106 w8_67 (lk_69 hP) fi_12_1 ?_
                        refine Y_iconst (pc := 109) (v := (1 : Int32)) dX12_isCode_109 rfl ?_
                        refine Y_isub (pc := 110) dX12_isCode_110 ?_
                        obtain ⟨y2, qy2, h⟩ := bindE h
                        have cy2 := v_X12_in hP qy2
                        refine C_S3r (pc := 111) (k' := k_X12_in) dX12_isCode_111 w9_110 i_X12_in (Nat.le_of_ble_eq_true rfl) (Nat.le_of_ble_eq_true rfl) (Nat.le_of_ble_eq_true rfl) (cy2) ?_
                        have hPy2 := cy2.1.1
                        obtain ⟨hb1, h⟩ := okE h
                        cases h
                        exact Y_iret (pc := 114) rfl (nar_bo hb1) dX12_isCode_114 hPy2 ⟨rfl, rfl⟩
                    · replace h := ifT hc10 h
                      refine Y_iload_n (pc := 85) (j := 2) dX12_isCode_85 rfl rfl ?_
                      refine Y_iconst (pc := 86) (v := (0 : Int32)) dX12_isCode_86 rfl ?_
                      refine Y_aload_n (pc := 87) (j := 0) dX12_isCode_87 rfl rfl ?_
                      refine Z_geti (pc := 88) dX12_isCode_88 w8_74 (lk_69 hP) fi_12_8 ?_
                      refine Y_iconst (pc := 91) (v := (1 : Int32)) dX12_isCode_91 rfl ?_
                      refine Y_isub (pc := 92) dX12_isCode_92 ?_
                      obtain ⟨y3, qy3, h⟩ := bindE h
                      have cy3 := v_X12_in hP qy3
                      refine C_S3r (pc := 93) (k' := k_X12_in) dX12_isCode_93 w9_110 i_X12_in (Nat.le_of_ble_eq_true rfl) (Nat.le_of_ble_eq_true rfl) (Nat.le_of_ble_eq_true rfl) (cy3) ?_
                      have hPy3 := cy3.1.1
                      obtain ⟨hb2, h⟩ := okE h
                      cases h
                      exact Y_iret (pc := 96) rfl (nar_bo hb2) dX12_isCode_96 hPy3 ⟨rfl, rfl⟩
                  · replace h := ifT hc9 h
                    refine VV.sub [2] rfl ?_
                    exact b_X12_isCode_71  hP h
              · replace h := ifT hc7 h
                refine VV.sub [2] rfl ?_
                exact b_X12_isCode_52  hP h
    · replace h := ifT hc2 h
      refine Y_iload_n (pc := 14) (j := 2) dX12_isCode_14 rfl rfl ?_
      refine Y_iconst (pc := 15) (v := (0 : Int32)) dX12_isCode_15 rfl ?_
      refine Y_bipush (pc := 16) (v := (7 : Int32)) dX12_isCode_16 rfl ?_
      obtain ⟨y4, qy4, h⟩ := bindE h
      have cy4 := v_X12_in hP qy4
      refine C_S3r (pc := 18) (k' := k_X12_in) dX12_isCode_18 w9_110 i_X12_in (Nat.le_of_ble_eq_true rfl) (Nat.le_of_ble_eq_true rfl) (Nat.le_of_ble_eq_true rfl) (cy4) ?_
      have hPy4 := cy4.1.1
      obtain ⟨hb3, h⟩ := okE h
      cases h
      exact Y_iret (pc := 21) rfl (nar_bo hb3) dX12_isCode_21 hPy4 ⟨rfl, rfl⟩
  · replace h := ifT hc1 h
    refine Y_iconst (pc := 6) (v := (1 : Int32)) dX12_isCode_6 rfl ?_
    cases h
    exact Y_iret (pc := 7) rfl (nar_bo (by decide)) dX12_isCode_7 hP ⟨rfl, rfl⟩
theorem v_X12_isCode {x1 : Int32} {x2 : Int32} {M z} (hP : Lay M) (h : d_X12_isCode x1 x2 M = some z) : CC Lay k_X12_isCode [.ref 69, .int x1, .int x2] M z.2 (Qv (some (.int z.1)) z.2) xF :=
  CC.ofVV (by decide) rfl (Nat.le_of_ble_eq_true rfl) (b_X12_isCode hP h)
theorem b_X12_code {x1 : Int32} {x2 : Int32} {x3 : Int32} {M z} (hP : Lay M) (h : d_X12_code x1 x2 x3 M = some z) : VV Lay k_X12_code 0 [(0, .ref 69), (1, .int x1), (2, .int x2), (3, .int x3)] [] M z.2 (Qv (some (.int z.1)) z.2) xF := by
  unfold d_X12_code at h
  refine Y_aload_n (pc := 0) (j := 0) dX12_code_0 rfl rfl ?_
  refine Y_iconst (pc := 1) (v := (0 : Int32)) dX12_code_1 rfl ?_
  refine Z_puti (pc := 2) dX12_code_2 w8_66 (lk_69 hP) fi_12_0 (Or.inl rfl) rfl ?_
  obtain ⟨M1, eM1, h⟩ := bndE h
  refine VV.mem eM1 ?_
  have hP1 := hP.wI eM1
  refine Y_aload_n (pc := 5) (j := 0) dX12_code_5 rfl rfl ?_
  refine Y_iload_n (pc := 6) (j := 1) dX12_code_6 rfl rfl ?_
  obtain ⟨y1, qy1, h⟩ := bindE h
  have cy1 := v_X12_isFunction hP1 qy1
  refine C_V1r (pc := 7) (k' := k_X12_isFunction) dX12_code_7 w9_121 i_X12_isFunction (lk_69 hP1) ⟨Nat.le_of_ble_eq_true rfl, Nat.le_of_ble_eq_true rfl⟩ rfl (Nat.le_of_ble_eq_true rfl) (Nat.le_of_ble_eq_true rfl) (Nat.le_of_ble_eq_true rfl) (cy1) ?_
  have hPy1 := cy1.1.1
  refine Y_if_ne (pc := 10) (tgt := 19) dX12_code_10 (by decide) (fun hc1 => ?_) (fun hc1 => ?_)
  · replace h := ifF hc1 h
    refine Y_aload_n (pc := 19) (j := 0) dX12_code_19 rfl rfl ?_
    refine Y_iload_n (pc := 20) (j := 2) dX12_code_20 rfl rfl ?_
    refine Y_iload_n (pc := 21) (j := 3) dX12_code_21 rfl rfl ?_
    obtain ⟨y2, qy2, h⟩ := bindE h
    have cy2 := v_X12_isCode hPy1 qy2
    refine C_V2r (pc := 22) (k' := k_X12_isCode) dX12_code_22 w9_125 i_X12_isCode (lk_69 hPy1) ⟨Nat.le_of_ble_eq_true rfl, Nat.le_of_ble_eq_true rfl⟩ rfl (Nat.le_of_ble_eq_true rfl) (Nat.le_of_ble_eq_true rfl) (Nat.le_of_ble_eq_true rfl) (cy2) ?_
    have hPy2 := cy2.1.1
    refine Y_if_ne (pc := 25) (tgt := 34) dX12_code_25 (by decide) (fun hc2 => ?_) (fun hc2 => ?_)
    · replace h := ifF hc2 h
      refine Y_aload_n (pc := 34) (j := 0) dX12_code_34 rfl rfl ?_
      refine Z_getr (pc := 35) dX12_code_35 w8_69 (lk_69 hPy2) fr_12_3 (lr_69_3 hPy2) ?_
      refine Y_iload_n (pc := 38) (j := 1) dX12_code_38 rfl rfl ?_
      obtain ⟨hb1, h⟩ := okE h
      refine Y_iald (pc := 39) dX12_code_39 (lk_71 hPy2) (ln_71 hPy2) hb1 ?_
      refine Y_bipush (pc := 40) (v := (40 : Int32)) dX12_code_40 rfl ?_
      refine Y_icmp_ne (pc := 42) (tgt := 51) dX12_code_42 (by decide) (fun hc3 => ?_) (fun hc3 => ?_)
      · replace h := ifF hc3 h
        refine Y_aload_n (pc := 51) (j := 0) dX12_code_51 rfl rfl ?_
        refine Z_getr (pc := 52) dX12_code_52 w8_70 (lk_69 hPy2) fr_12_4 (lr_69_4 hPy2) ?_
        refine Y_bipush (pc := 55) (v := (40 : Int32)) dX12_code_55 rfl ?_
        refine Y_iload_n (pc := 57) (j := 1) dX12_code_57 rfl rfl ?_
        refine Y_imul (pc := 58) dX12_code_58 ?_
        refine Y_aload_n (pc := 59) (j := 0) dX12_code_59 rfl rfl ?_
        refine Z_getr (pc := 60) dX12_code_60 w8_69 (lk_69 hPy2) fr_12_3 (lr_69_3 hPy2) ?_
        refine Y_iload_n (pc := 63) (j := 1) dX12_code_63 rfl rfl ?_
        obtain ⟨hb2, h⟩ := okE h
        refine Y_iald (pc := 64) dX12_code_64 (lk_71 hPy2) (ln_71 hPy2) hb2 ?_
        refine Y_iadd (pc := 65) dX12_code_65 ?_
        refine Y_iload_n (pc := 66) (j := 2) dX12_code_66 rfl rfl ?_
        obtain ⟨hb3, h⟩ := okE h
        obtain ⟨hb4, h⟩ := okE h
        refine Y_cast (pc := 67) dX12_code_67 (lk_72 hPy2) (ln_72 hPy2) hb3 (nar_ch hb4) ?_
        obtain ⟨M2, eM2, h⟩ := bndE h
        refine VV.mem eM2 ?_
        have hP2 := hPy2.wI eM2
        refine Y_aload_n (pc := 68) (j := 0) dX12_code_68 rfl rfl ?_
        refine Z_getr (pc := 69) dX12_code_69 w8_71 (lk_69 hP2) fr_12_5 (lr_69_5 hP2) ?_
        refine Y_bipush (pc := 72) (v := (40 : Int32)) dX12_code_72 rfl ?_
        refine Y_iload_n (pc := 74) (j := 1) dX12_code_74 rfl rfl ?_
        refine Y_imul (pc := 75) dX12_code_75 ?_
        refine Y_aload_n (pc := 76) (j := 0) dX12_code_76 rfl rfl ?_
        refine Z_getr (pc := 77) dX12_code_77 w8_69 (lk_69 hP2) fr_12_3 (lr_69_3 hP2) ?_
        refine Y_iload_n (pc := 80) (j := 1) dX12_code_80 rfl rfl ?_
        obtain ⟨hb5, h⟩ := okE h
        refine Y_iald (pc := 81) dX12_code_81 (lk_71 hP2) (ln_71 hP2) hb5 ?_
        refine Y_iadd (pc := 82) dX12_code_82 ?_
        refine Y_iload_n (pc := 83) (j := 3) dX12_code_83 rfl rfl ?_
        obtain ⟨hb6, h⟩ := okE h
        refine Y_iast (pc := 84) dX12_code_84 (lk_73 hP2) (ln_73 hP2) hb6 ?_
        obtain ⟨M3, eM3, h⟩ := bndE h
        refine VV.mem eM3 ?_
        have hP3 := hP2.wI eM3
        refine Y_aload_n (pc := 85) (j := 0) dX12_code_85 rfl rfl ?_
        refine Z_getr (pc := 86) dX12_code_86 w8_69 (lk_69 hP3) fr_12_3 (lr_69_3 hP3) ?_
        refine Y_iload_n (pc := 89) (j := 1) dX12_code_89 rfl rfl ?_
        refine Y_dup2 (pc := 90) dX12_code_90 rfl rfl ?_
        obtain ⟨hb7, h⟩ := okE h
        refine Y_iald (pc := 91) dX12_code_91 (lk_71 hP3) (ln_71 hP3) hb7 ?_
        refine Y_iconst (pc := 92) (v := (1 : Int32)) dX12_code_92 rfl ?_
        refine Y_iadd (pc := 93) dX12_code_93 ?_
        obtain ⟨hb8, h⟩ := okE h
        refine Y_iast (pc := 94) dX12_code_94 (lk_71 hP3) (ln_71 hP3) hb8 ?_
        obtain ⟨M4, eM4, h⟩ := bndE h
        refine VV.mem eM4 ?_
        have hP4 := hP3.wI eM4
        refine Y_aload_n (pc := 95) (j := 0) dX12_code_95 rfl rfl ?_
        refine Z_getr (pc := 96) dX12_code_96 w8_69 (lk_69 hP4) fr_12_3 (lr_69_3 hP4) ?_
        refine Y_iload_n (pc := 99) (j := 1) dX12_code_99 rfl rfl ?_
        obtain ⟨hb9, h⟩ := okE h
        refine Y_iald (pc := 100) dX12_code_100 (lk_71 hP4) (ln_71 hP4) hb9 ?_
        cases h
        exact Y_iret (pc := 101) rfl rfl dX12_code_101 hP4 ⟨rfl, rfl⟩
      · replace h := ifT hc3 h
        refine Y_aload_n (pc := 45) (j := 0) dX12_code_45 rfl rfl ?_
        refine Y_iconst (pc := 46) (v := (3 : Int32)) dX12_code_46 rfl ?_
        obtain ⟨y3, qy3, h⟩ := bindE h
        have cy3 := v_X12_fails hPy2 qy3
        refine C_V1r (pc := 47) (k' := k_X12_fails) dX12_code_47 w9_113 i_X12_fails (lk_69 hPy2) ⟨Nat.le_of_ble_eq_true rfl, Nat.le_of_ble_eq_true rfl⟩ rfl (Nat.le_of_ble_eq_true rfl) (Nat.le_of_ble_eq_true rfl) (Nat.le_of_ble_eq_true rfl) (cy3) ?_
        have hPy3 := cy3.1.1
        cases h
        exact Y_iret (pc := 50) rfl rfl dX12_code_50 hPy3 ⟨rfl, rfl⟩
    · replace h := ifT hc2 h
      refine Y_aload_n (pc := 28) (j := 0) dX12_code_28 rfl rfl ?_
      refine Y_iconst (pc := 29) (v := (2 : Int32)) dX12_code_29 rfl ?_
      obtain ⟨y4, qy4, h⟩ := bindE h
      have cy4 := v_X12_fails hPy2 qy4
      refine C_V1r (pc := 30) (k' := k_X12_fails) dX12_code_30 w9_113 i_X12_fails (lk_69 hPy2) ⟨Nat.le_of_ble_eq_true rfl, Nat.le_of_ble_eq_true rfl⟩ rfl (Nat.le_of_ble_eq_true rfl) (Nat.le_of_ble_eq_true rfl) (Nat.le_of_ble_eq_true rfl) (cy4) ?_
      have hPy4 := cy4.1.1
      cases h
      exact Y_iret (pc := 33) rfl rfl dX12_code_33 hPy4 ⟨rfl, rfl⟩
  · replace h := ifT hc1 h
    refine Y_aload_n (pc := 13) (j := 0) dX12_code_13 rfl rfl ?_
    refine Y_iconst (pc := 14) (v := (1 : Int32)) dX12_code_14 rfl ?_
    obtain ⟨y5, qy5, h⟩ := bindE h
    have cy5 := v_X12_fails hPy1 qy5
    refine C_V1r (pc := 15) (k' := k_X12_fails) dX12_code_15 w9_113 i_X12_fails (lk_69 hPy1) ⟨Nat.le_of_ble_eq_true rfl, Nat.le_of_ble_eq_true rfl⟩ rfl (Nat.le_of_ble_eq_true rfl) (Nat.le_of_ble_eq_true rfl) (Nat.le_of_ble_eq_true rfl) (cy5) ?_
    have hPy5 := cy5.1.1
    cases h
    exact Y_iret (pc := 18) rfl rfl dX12_code_18 hPy5 ⟨rfl, rfl⟩
theorem v_X12_code {x1 : Int32} {x2 : Int32} {x3 : Int32} {M z} (hP : Lay M) (h : d_X12_code x1 x2 x3 M = some z) : CC Lay k_X12_code [.ref 69, .int x1, .int x2, .int x3] M z.2 (Qv (some (.int z.1)) z.2) xF :=
  CC.ofVV (by decide) rfl (Nat.le_of_ble_eq_true rfl) (b_X12_code hP h)
theorem b_X12_setHandler {x1 : Int32} {x2 : Int32} {M z} (hP : Lay M) (h : d_X12_setHandler x1 x2 M = some z) : VV Lay k_X12_setHandler 0 [(0, .ref 69), (1, .int x1), (2, .int x2)] [] M z.2 (Qv (some (.int z.1)) z.2) xF := by
  unfold d_X12_setHandler at h
  refine Y_aload_n (pc := 0) (j := 0) dX12_setHandler_0 rfl rfl ?_
  refine Y_iconst (pc := 1) (v := (0 : Int32)) dX12_setHandler_1 rfl ?_
  refine Z_puti (pc := 2) dX12_setHandler_2 w8_66 (lk_69 hP) fi_12_0 (Or.inl rfl) rfl ?_
  obtain ⟨M1, eM1, h⟩ := bndE h
  refine VV.mem eM1 ?_
  have hP1 := hP.wI eM1
  refine Y_aload_n (pc := 5) (j := 0) dX12_setHandler_5 rfl rfl ?_
  refine Y_iload_n (pc := 6) (j := 1) dX12_setHandler_6 rfl rfl ?_
  obtain ⟨y1, qy1, h⟩ := bindE h
  have cy1 := v_X12_isFunction hP1 qy1
  refine C_V1r (pc := 7) (k' := k_X12_isFunction) dX12_setHandler_7 w9_121 i_X12_isFunction (lk_69 hP1) ⟨Nat.le_of_ble_eq_true rfl, Nat.le_of_ble_eq_true rfl⟩ rfl (Nat.le_of_ble_eq_true rfl) (Nat.le_of_ble_eq_true rfl) (Nat.le_of_ble_eq_true rfl) (cy1) ?_
  have hPy1 := cy1.1.1
  refine Y_if_ne (pc := 10) (tgt := 19) dX12_setHandler_10 (by decide) (fun hc1 => ?_) (fun hc1 => ?_)
  · replace h := ifF hc1 h
    refine Y_iload_n (pc := 19) (j := 2) dX12_setHandler_19 rfl rfl ?_
    refine Y_iconst (pc := 20) (v := (0 : Int32)) dX12_setHandler_20 rfl ?_
    refine Y_bipush (pc := 21) (v := (39 : Int32)) dX12_setHandler_21 rfl ?_
    obtain ⟨y2, qy2, h⟩ := bindE h
    have cy2 := v_X12_in hPy1 qy2
    refine C_S3r (pc := 23) (k' := k_X12_in) dX12_setHandler_23 w9_110 i_X12_in (Nat.le_of_ble_eq_true rfl) (Nat.le_of_ble_eq_true rfl) (Nat.le_of_ble_eq_true rfl) (cy2) ?_
    have hPy2 := cy2.1.1
    refine Y_if_ne (pc := 26) (tgt := 35) dX12_setHandler_26 (by decide) (fun hc2 => ?_) (fun hc2 => ?_)
    · replace h := ifF hc2 h
      refine Y_aload_n (pc := 35) (j := 0) dX12_setHandler_35 rfl rfl ?_
      refine Z_getr (pc := 36) dX12_setHandler_36 w8_72 (lk_69 hPy2) fr_12_6 (lr_69_6 hPy2) ?_
      refine Y_iload_n (pc := 39) (j := 1) dX12_setHandler_39 rfl rfl ?_
      obtain ⟨hb1, h⟩ := okE h
      refine Y_iald (pc := 40) dX12_setHandler_40 (lk_74 hPy2) (ln_74 hPy2) hb1 ?_
      obtain ⟨b1, eb1, h⟩ := bndE h
      refine VV.topI eb1 ?_
      refine Y_istore_n (pc := 41) (lv1 := [(3, .int b1), (0, .ref 69), (1, .int x1), (2, .int x2)]) dX12_setHandler_41 rfl (by decide) rfl ?_
      refine Y_aload_n (pc := 42) (j := 1) dX12_setHandler_42 rfl rfl ?_
      refine Z_getr (pc := 43) dX12_setHandler_43 w8_72 (lk_69 hPy2) fr_12_6 (lr_69_6 hPy2) ?_
      refine Y_iload_n (pc := 46) (j := 2) dX12_setHandler_46 rfl rfl ?_
      refine Y_iload_n (pc := 47) (j := 3) dX12_setHandler_47 rfl rfl ?_
      obtain ⟨hb2, h⟩ := okE h
      refine Y_iast (pc := 48) dX12_setHandler_48 (lk_74 hPy2) (ln_74 hPy2) hb2 ?_
      obtain ⟨M2, eM2, h⟩ := bndE h
      refine VV.mem eM2 ?_
      have hP2 := hPy2.wI eM2
      refine Y_iload_n (pc := 49) (j := 0) dX12_setHandler_49 rfl rfl ?_
      cases h
      exact Y_iret (pc := 50) rfl rfl dX12_setHandler_50 hP2 ⟨rfl, rfl⟩
    · replace h := ifT hc2 h
      refine Y_aload_n (pc := 29) (j := 0) dX12_setHandler_29 rfl rfl ?_
      refine Y_iconst (pc := 30) (v := (2 : Int32)) dX12_setHandler_30 rfl ?_
      obtain ⟨y3, qy3, h⟩ := bindE h
      have cy3 := v_X12_fails hPy2 qy3
      refine C_V1r (pc := 31) (k' := k_X12_fails) dX12_setHandler_31 w9_113 i_X12_fails (lk_69 hPy2) ⟨Nat.le_of_ble_eq_true rfl, Nat.le_of_ble_eq_true rfl⟩ rfl (Nat.le_of_ble_eq_true rfl) (Nat.le_of_ble_eq_true rfl) (Nat.le_of_ble_eq_true rfl) (cy3) ?_
      have hPy3 := cy3.1.1
      cases h
      exact Y_iret (pc := 34) rfl rfl dX12_setHandler_34 hPy3 ⟨rfl, rfl⟩
  · replace h := ifT hc1 h
    refine Y_aload_n (pc := 13) (j := 0) dX12_setHandler_13 rfl rfl ?_
    refine Y_iconst (pc := 14) (v := (1 : Int32)) dX12_setHandler_14 rfl ?_
    obtain ⟨y4, qy4, h⟩ := bindE h
    have cy4 := v_X12_fails hPy1 qy4
    refine C_V1r (pc := 15) (k' := k_X12_fails) dX12_setHandler_15 w9_113 i_X12_fails (lk_69 hPy1) ⟨Nat.le_of_ble_eq_true rfl, Nat.le_of_ble_eq_true rfl⟩ rfl (Nat.le_of_ble_eq_true rfl) (Nat.le_of_ble_eq_true rfl) (Nat.le_of_ble_eq_true rfl) (cy4) ?_
    have hPy4 := cy4.1.1
    cases h
    exact Y_iret (pc := 18) rfl rfl dX12_setHandler_18 hPy4 ⟨rfl, rfl⟩
theorem v_X12_setHandler {x1 : Int32} {x2 : Int32} {M z} (hP : Lay M) (h : d_X12_setHandler x1 x2 M = some z) : CC Lay k_X12_setHandler [.ref 69, .int x1, .int x2] M z.2 (Qv (some (.int z.1)) z.2) xF :=
  CC.ofVV (by decide) rfl (Nat.le_of_ble_eq_true rfl) (b_X12_setHandler hP h)
theorem b_X12_newShape {x1 : Int32} {M z} (hP : Lay M) (h : d_X12_newShape x1 M = some z) : VV Lay k_X12_newShape 0 [(0, .ref 69), (1, .int x1)] [] M z.2 (Qv (some (.int z.1)) z.2) xF := by
  unfold d_X12_newShape at h
  refine Y_aload_n (pc := 0) (j := 0) dX12_newShape_0 rfl rfl ?_
  refine Z_getr (pc := 1) dX12_newShape_1 w8_79 (lk_69 hP) fr_12_13 (lr_69_13 hP) ?_
  refine Y_aload_n (pc := 4) (j := 0) dX12_newShape_4 rfl rfl ?_
  refine Z_geti (pc := 5) dX12_newShape_5 w8_78 (lk_69 hP) fi_12_12 ?_
  refine Y_iload_n (pc := 8) (j := 1) dX12_newShape_8 rfl rfl ?_
  obtain ⟨hb1, h⟩ := okE h
  refine Y_iast (pc := 9) dX12_newShape_9 (lk_79 hP) (ln_79 hP) hb1 ?_
  obtain ⟨M1, eM1, h⟩ := bndE h
  refine VV.mem eM1 ?_
  have hP1 := hP.wI eM1
  refine Y_aload_n (pc := 10) (j := 0) dX12_newShape_10 rfl rfl ?_
  refine Z_getr (pc := 11) dX12_newShape_11 w8_80 (lk_69 hP1) fr_12_14 (lr_69_14 hP1) ?_
  refine Y_aload_n (pc := 14) (j := 0) dX12_newShape_14 rfl rfl ?_
  refine Z_geti (pc := 15) dX12_newShape_15 w8_78 (lk_69 hP1) fi_12_12 ?_
  refine Y_iconst (pc := 18) (v := (0 : Int32)) dX12_newShape_18 rfl ?_
  obtain ⟨hb2, h⟩ := okE h
  refine Y_iast (pc := 19) dX12_newShape_19 (lk_80 hP1) (ln_80 hP1) hb2 ?_
  obtain ⟨M2, eM2, h⟩ := bndE h
  refine VV.mem eM2 ?_
  have hP2 := hP1.wI eM2
  refine Y_aload_n (pc := 20) (j := 0) dX12_newShape_20 rfl rfl ?_
  refine Y_dup (pc := 21) dX12_newShape_21 rfl ?_
  refine Z_geti (pc := 22) dX12_newShape_22 w8_78 (lk_69 hP2) fi_12_12 ?_
  refine Y_iconst (pc := 25) (v := (1 : Int32)) dX12_newShape_25 rfl ?_
  refine Y_iadd (pc := 26) dX12_newShape_26 ?_
  refine Z_puti (pc := 27) dX12_newShape_27 w8_78 (lk_69 hP2) fi_12_12 (Or.inl rfl) rfl ?_
  obtain ⟨M3, eM3, h⟩ := bndE h
  refine VV.mem eM3 ?_
  have hP3 := hP2.wI eM3
  refine Y_aload_n (pc := 30) (j := 0) dX12_newShape_30 rfl rfl ?_
  refine Z_geti (pc := 31) dX12_newShape_31 w8_78 (lk_69 hP3) fi_12_12 ?_
  refine Y_iconst (pc := 34) (v := (1 : Int32)) dX12_newShape_34 rfl ?_
  refine Y_isub (pc := 35) dX12_newShape_35 ?_
  cases h
  exact Y_iret (pc := 36) rfl rfl dX12_newShape_36 hP3 ⟨rfl, rfl⟩
theorem v_X12_newShape {x1 : Int32} {M z} (hP : Lay M) (h : d_X12_newShape x1 M = some z) : CC Lay k_X12_newShape [.ref 69, .int x1] M z.2 (Qv (some (.int z.1)) z.2) xF :=
  CC.ofVV (by decide) rfl (Nat.le_of_ble_eq_true rfl) (b_X12_newShape hP h)
theorem b_X12_addClass {x1 : Int32} {M z} (hP : Lay M) (h : d_X12_addClass x1 M = some z) : VV Lay k_X12_addClass 0 [(0, .ref 69), (1, .int x1)] [] M z.2 (Qv (some (.int z.1)) z.2) xF := by
  unfold d_X12_addClass at h
  refine Y_aload_n (pc := 0) (j := 0) dX12_addClass_0 rfl rfl ?_
  refine Y_iconst (pc := 1) (v := (0 : Int32)) dX12_addClass_1 rfl ?_
  refine Z_puti (pc := 2) dX12_addClass_2 w8_66 (lk_69 hP) fi_12_0 (Or.inl rfl) rfl ?_
  obtain ⟨M1, eM1, h⟩ := bndE h
  refine VV.mem eM1 ?_
  have hP1 := hP.wI eM1
  refine Y_iload_n (pc := 5) (j := 1) dX12_addClass_5 rfl rfl ?_
  refine Y_iconst (pc := 6) (v := (-1 : Int32)) dX12_addClass_6 rfl ?_
  refine Y_aload_n (pc := 7) (j := 0) dX12_addClass_7 rfl rfl ?_
  refine Z_geti (pc := 8) dX12_addClass_8 w8_74 (lk_69 hP1) fi_12_8 ?_
  refine Y_iconst (pc := 11) (v := (1 : Int32)) dX12_addClass_11 rfl ?_
  refine Y_isub (pc := 12) dX12_addClass_12 ?_
  obtain ⟨y1, qy1, h⟩ := bindE h
  have cy1 := v_X12_in hP1 qy1
  refine C_S3r (pc := 13) (k' := k_X12_in) dX12_addClass_13 w9_110 i_X12_in (Nat.le_of_ble_eq_true rfl) (Nat.le_of_ble_eq_true rfl) (Nat.le_of_ble_eq_true rfl) (cy1) ?_
  have hPy1 := cy1.1.1
  refine Y_if_ne (pc := 16) (tgt := 25) dX12_addClass_16 (by decide) (fun hc1 => ?_) (fun hc1 => ?_)
  · replace h := ifF hc1 h
    refine Y_aload_n (pc := 25) (j := 0) dX12_addClass_25 rfl rfl ?_
    refine Z_geti (pc := 26) dX12_addClass_26 w8_74 (lk_69 hPy1) fi_12_8 ?_
    refine Y_iconst (pc := 29) (v := (5 : Int32)) dX12_addClass_29 rfl ?_
    refine Y_icmp_ne (pc := 30) (tgt := 39) dX12_addClass_30 (by decide) (fun hc2 => ?_) (fun hc2 => ?_)
    · replace h := ifF hc2 h
      refine Y_aload_n (pc := 39) (j := 0) dX12_addClass_39 rfl rfl ?_
      refine Z_geti (pc := 40) dX12_addClass_40 w8_78 (lk_69 hPy1) fi_12_12 ?_
      refine Y_bipush (pc := 43) (v := (60 : Int32)) dX12_addClass_43 rfl ?_
      refine Y_icmp_ne (pc := 45) (tgt := 54) dX12_addClass_45 (by decide) (fun hc3 => ?_) (fun hc3 => ?_)
      · replace h := ifF hc3 h
        refine Y_aload_n (pc := 54) (j := 0) dX12_addClass_54 rfl rfl ?_
        refine Z_getr (pc := 55) dX12_addClass_55 w8_75 (lk_69 hPy1) fr_12_9 (lr_69_9 hPy1) ?_
        refine Y_aload_n (pc := 58) (j := 0) dX12_addClass_58 rfl rfl ?_
        refine Z_geti (pc := 59) dX12_addClass_59 w8_74 (lk_69 hPy1) fi_12_8 ?_
        refine Y_iload_n (pc := 62) (j := 1) dX12_addClass_62 rfl rfl ?_
        obtain ⟨hb1, h⟩ := okE h
        refine Y_iast (pc := 63) dX12_addClass_63 (lk_76 hPy1) (ln_76 hPy1) hb1 ?_
        obtain ⟨M2, eM2, h⟩ := bndE h
        refine VV.mem eM2 ?_
        have hP2 := hPy1.wI eM2
        refine Y_aload_n (pc := 64) (j := 0) dX12_addClass_64 rfl rfl ?_
        refine Z_getr (pc := 65) dX12_addClass_65 w8_77 (lk_69 hP2) fr_12_11 (lr_69_11 hP2) ?_
        refine Y_aload_n (pc := 68) (j := 0) dX12_addClass_68 rfl rfl ?_
        refine Z_geti (pc := 69) dX12_addClass_69 w8_74 (lk_69 hP2) fi_12_8 ?_
        refine Y_aload_n (pc := 72) (j := 0) dX12_addClass_72 rfl rfl ?_
        refine Y_aload_n (pc := 73) (j := 0) dX12_addClass_73 rfl rfl ?_
        refine Z_geti (pc := 74) dX12_addClass_74 w8_74 (lk_69 hP2) fi_12_8 ?_
        obtain ⟨y2, qy2, h⟩ := bindE h
        have cy2 := v_X12_newShape hP2 qy2
        refine C_V1r (pc := 77) (k' := k_X12_newShape) dX12_addClass_77 w9_140 i_X12_newShape (lk_69 hP2) ⟨Nat.le_of_ble_eq_true rfl, Nat.le_of_ble_eq_true rfl⟩ rfl (Nat.le_of_ble_eq_true rfl) (Nat.le_of_ble_eq_true rfl) (Nat.le_of_ble_eq_true rfl) (cy2) ?_
        have hPy2 := cy2.1.1
        obtain ⟨hb2, h⟩ := okE h
        refine Y_iast (pc := 80) dX12_addClass_80 (lk_78 hPy2) (ln_78 hPy2) hb2 ?_
        obtain ⟨M3, eM3, h⟩ := bndE h
        refine VV.mem eM3 ?_
        have hP3 := hPy2.wI eM3
        refine Y_aload_n (pc := 81) (j := 0) dX12_addClass_81 rfl rfl ?_
        refine Y_dup (pc := 82) dX12_addClass_82 rfl ?_
        refine Z_geti (pc := 83) dX12_addClass_83 w8_74 (lk_69 hP3) fi_12_8 ?_
        refine Y_iconst (pc := 86) (v := (1 : Int32)) dX12_addClass_86 rfl ?_
        refine Y_iadd (pc := 87) dX12_addClass_87 ?_
        refine Z_puti (pc := 88) dX12_addClass_88 w8_74 (lk_69 hP3) fi_12_8 (Or.inl rfl) rfl ?_
        obtain ⟨M4, eM4, h⟩ := bndE h
        refine VV.mem eM4 ?_
        have hP4 := hP3.wI eM4
        refine Y_aload_n (pc := 91) (j := 0) dX12_addClass_91 rfl rfl ?_
        refine Z_geti (pc := 92) dX12_addClass_92 w8_74 (lk_69 hP4) fi_12_8 ?_
        refine Y_iconst (pc := 95) (v := (1 : Int32)) dX12_addClass_95 rfl ?_
        refine Y_isub (pc := 96) dX12_addClass_96 ?_
        cases h
        exact Y_iret (pc := 97) rfl rfl dX12_addClass_97 hP4 ⟨rfl, rfl⟩
      · replace h := ifT hc3 h
        refine Y_aload_n (pc := 48) (j := 0) dX12_addClass_48 rfl rfl ?_
        refine Y_iconst (pc := 49) (v := (3 : Int32)) dX12_addClass_49 rfl ?_
        obtain ⟨y3, qy3, h⟩ := bindE h
        have cy3 := v_X12_fails hPy1 qy3
        refine C_V1r (pc := 50) (k' := k_X12_fails) dX12_addClass_50 w9_113 i_X12_fails (lk_69 hPy1) ⟨Nat.le_of_ble_eq_true rfl, Nat.le_of_ble_eq_true rfl⟩ rfl (Nat.le_of_ble_eq_true rfl) (Nat.le_of_ble_eq_true rfl) (Nat.le_of_ble_eq_true rfl) (cy3) ?_
        have hPy3 := cy3.1.1
        cases h
        exact Y_iret (pc := 53) rfl rfl dX12_addClass_53 hPy3 ⟨rfl, rfl⟩
    · replace h := ifT hc2 h
      refine Y_aload_n (pc := 33) (j := 0) dX12_addClass_33 rfl rfl ?_
      refine Y_iconst (pc := 34) (v := (2 : Int32)) dX12_addClass_34 rfl ?_
      obtain ⟨y4, qy4, h⟩ := bindE h
      have cy4 := v_X12_fails hPy1 qy4
      refine C_V1r (pc := 35) (k' := k_X12_fails) dX12_addClass_35 w9_113 i_X12_fails (lk_69 hPy1) ⟨Nat.le_of_ble_eq_true rfl, Nat.le_of_ble_eq_true rfl⟩ rfl (Nat.le_of_ble_eq_true rfl) (Nat.le_of_ble_eq_true rfl) (Nat.le_of_ble_eq_true rfl) (cy4) ?_
      have hPy4 := cy4.1.1
      cases h
      exact Y_iret (pc := 38) rfl rfl dX12_addClass_38 hPy4 ⟨rfl, rfl⟩
  · replace h := ifT hc1 h
    refine Y_aload_n (pc := 19) (j := 0) dX12_addClass_19 rfl rfl ?_
    refine Y_iconst (pc := 20) (v := (1 : Int32)) dX12_addClass_20 rfl ?_
    obtain ⟨y5, qy5, h⟩ := bindE h
    have cy5 := v_X12_fails hPy1 qy5
    refine C_V1r (pc := 21) (k' := k_X12_fails) dX12_addClass_21 w9_113 i_X12_fails (lk_69 hPy1) ⟨Nat.le_of_ble_eq_true rfl, Nat.le_of_ble_eq_true rfl⟩ rfl (Nat.le_of_ble_eq_true rfl) (Nat.le_of_ble_eq_true rfl) (Nat.le_of_ble_eq_true rfl) (cy5) ?_
    have hPy5 := cy5.1.1
    cases h
    exact Y_iret (pc := 24) rfl rfl dX12_addClass_24 hPy5 ⟨rfl, rfl⟩
theorem v_X12_addClass {x1 : Int32} {M z} (hP : Lay M) (h : d_X12_addClass x1 M = some z) : CC Lay k_X12_addClass [.ref 69, .int x1] M z.2 (Qv (some (.int z.1)) z.2) xF :=
  CC.ofVV (by decide) rfl (Nat.le_of_ble_eq_true rfl) (b_X12_addClass hP h)
theorem b_X12_throwAway_39 {k2 : (Int32) → Mem → Option (Unit × Mem)} {x1 : Int32} {x2 : Int32} {s1 : Int32} {s2 : Int32} {M z} (hk2 : ∀ (a : (Int32)) (M : Mem) (z : Unit × Mem), Lay M → k2 a M = some z → VV Lay k_X12_throwAway 2 [(0, .ref 69), (1, .int x1), (2, .int a)] [] M z.2 (Qv (none) z.2) xF) (hP : Lay M) (h : d_X12_throwAway_39 k2 x1 x2 s1 s2 M = some z) : VV Lay k_X12_throwAway 39 [(0, .ref 69), (1, .int x1), (2, .int x2)] [.int s2, .int s1, .ref 89] M z.2 (Qv (none) z.2) xF := by
  unfold d_X12_throwAway_39 at h
  obtain ⟨hb1, h⟩ := okE h
  obtain ⟨hb2, h⟩ := okE h
  refine Y_zast (pc := 39) dX12_throwAway_39 (lk_89 hP) (ln_89 hP) hb1 (nar_bo hb2) ?_
  obtain ⟨M1, eM1, h⟩ := bndE h
  refine VV.mem eM1 ?_
  have hP1 := hP.wI eM1
  obtain ⟨b1, eb1, h⟩ := bndE h
  refine Y_iinc (pc := 40) (j := 2) (v := b1) (lv1 := [(2, .int b1), (0, .ref 69), (1, .int x1)]) dX12_throwAway_40 rfl eb1.symm (by decide) rfl ?_
  refine Y_goto (pc := 43) (tgt := 2) dX12_throwAway_43 (by decide) ?_
  refine VV.sub [1, 2, 0] rfl ?_
  exact hk2 _ _ _ hP1 h
theorem b_X12_throwAway_38 {k2 : (Int32) → Mem → Option (Unit × Mem)} {x1 : Int32} {x2 : Int32} {s1 : Int32} {M z} (hk2 : ∀ (a : (Int32)) (M : Mem) (z : Unit × Mem), Lay M → k2 a M = some z → VV Lay k_X12_throwAway 2 [(0, .ref 69), (1, .int x1), (2, .int a)] [] M z.2 (Qv (none) z.2) xF) (hP : Lay M) (h : d_X12_throwAway_38 k2 x1 x2 s1 M = some z) : VV Lay k_X12_throwAway 38 [(0, .ref 69), (1, .int x1), (2, .int x2)] [.int s1, .ref 89] M z.2 (Qv (none) z.2) xF := by
  unfold d_X12_throwAway_38 at h
  refine Y_iconst (pc := 38) (v := (0 : Int32)) dX12_throwAway_38 rfl ?_
  refine VV.sub [0, 1, 2] rfl ?_
  exact b_X12_throwAway_39 hk2 hP h
theorem b_X12_throwAway_2b {k2 : (Int32) → Mem → Option (Unit × Mem)} {x1 : Int32} {x2 : Int32} {M z} (hk2 : ∀ (a : (Int32)) (M : Mem) (z : Unit × Mem), Lay M → k2 a M = some z → VV Lay k_X12_throwAway 2 [(0, .ref 69), (1, .int x1), (2, .int a)] [] M z.2 (Qv (none) z.2) xF) (hP : Lay M) (h : d_X12_throwAway_2b k2 x1 x2 M = some z) : VV Lay k_X12_throwAway 2 [(0, .ref 69), (1, .int x1), (2, .int x2)] [] M z.2 (Qv (none) z.2) xF := by
  unfold d_X12_throwAway_2b at h
  refine Y_iload_n (pc := 2) (j := 2) dX12_throwAway_2 rfl rfl ?_
  refine Y_aload_n (pc := 3) (j := 0) dX12_throwAway_3 rfl rfl ?_
  refine Z_geti (pc := 4) dX12_throwAway_4 w8_92 (lk_69 hP) fi_12_26 ?_
  refine Y_icmp_ge (pc := 7) (tgt := 46) dX12_throwAway_7 (by decide) (fun hc1 => ?_) (fun hc1 => ?_)
  · replace h := ifT hc1 h
    refine Y_aload_n (pc := 46) (j := 0) dX12_throwAway_46 rfl rfl ?_
    refine Z_getr (pc := 47) dX12_throwAway_47 w8_87 (lk_69 hP) fr_12_21 (lr_69_21 hP) ?_
    refine Y_aload_n (pc := 50) (j := 0) dX12_throwAway_50 rfl rfl ?_
    refine Z_getr (pc := 51) dX12_throwAway_51 w8_98 (lk_69 hP) fr_12_32 (lr_69_32 hP) ?_
    refine Y_iload_n (pc := 54) (j := 1) dX12_throwAway_54 rfl rfl ?_
    obtain ⟨hb1, h⟩ := okE h
    refine Y_iald (pc := 55) dX12_throwAway_55 (lk_94 hP) (ln_94 hP) hb1 ?_
    refine Y_iconst (pc := 56) (v := (0 : Int32)) dX12_throwAway_56 rfl ?_
    obtain ⟨hb2, h⟩ := okE h
    refine Y_iast (pc := 57) dX12_throwAway_57 (lk_87 hP) (ln_87 hP) hb2 ?_
    obtain ⟨M1, eM1, h⟩ := bndE h
    refine VV.mem eM1 ?_
    have hP1 := hP.wI eM1
    cases h
    exact Y_vret (pc := 58) rfl dX12_throwAway_58 hP1 ⟨rfl, rfl⟩
  · replace h := ifF hc1 h
    refine Y_aload_n (pc := 10) (j := 0) dX12_throwAway_10 rfl rfl ?_
    refine Z_getr (pc := 11) dX12_throwAway_11 w8_93 (lk_69 hP) fr_12_27 (lr_69_27 hP) ?_
    refine Y_iload_n (pc := 14) (j := 2) dX12_throwAway_14 rfl rfl ?_
    refine Y_aload_n (pc := 15) (j := 0) dX12_throwAway_15 rfl rfl ?_
    refine Z_getr (pc := 16) dX12_throwAway_16 w8_93 (lk_69 hP) fr_12_27 (lr_69_27 hP) ?_
    refine Y_iload_n (pc := 19) (j := 2) dX12_throwAway_19 rfl rfl ?_
    obtain ⟨hb3, h⟩ := okE h
    refine Y_zald (pc := 20) dX12_throwAway_20 (lk_89 hP) (ln_89 hP) hb3 ?_
    refine Y_if_eq (pc := 21) (tgt := 38) dX12_throwAway_21 (by decide) (fun hc2 => ?_) (fun hc2 => ?_)
    · replace h := ifT hc2 h
      refine VV.sub [0, 1, 2] rfl ?_
      exact b_X12_throwAway_38 hk2 hP h
    · replace h := ifF hc2 h
      refine Y_aload_n (pc := 24) (j := 0) dX12_throwAway_24 rfl rfl ?_
      refine Z_getr (pc := 25) dX12_throwAway_25 w8_97 (lk_69 hP) fr_12_31 (lr_69_31 hP) ?_
      refine Y_iload_n (pc := 28) (j := 2) dX12_throwAway_28 rfl rfl ?_
      obtain ⟨hb4, h⟩ := okE h
      refine Y_iald (pc := 29) dX12_throwAway_29 (lk_93 hP) (ln_93 hP) hb4 ?_
      refine Y_iload_n (pc := 30) (j := 1) dX12_throwAway_30 rfl rfl ?_
      refine Y_icmp_eq (pc := 31) (tgt := 38) dX12_throwAway_31 (by decide) (fun hc3 => ?_) (fun hc3 => ?_)
      · replace h := ifT hc3 h
        refine VV.sub [0, 1, 2] rfl ?_
        exact b_X12_throwAway_38 hk2 hP h
      · replace h := ifF hc3 h
        refine Y_iconst (pc := 34) (v := (1 : Int32)) dX12_throwAway_34 rfl ?_
        refine Y_goto (pc := 35) (tgt := 39) dX12_throwAway_35 (by decide) ?_
        refine VV.sub [0, 1, 2] rfl ?_
        exact b_X12_throwAway_39 hk2 hP h
theorem b_X12_throwAway_2 {x1 : Int32} (n : Nat) : ∀ (a : (Int32)) (M : Mem) (z : Unit × Mem), d_X12_throwAway_2 x1 n a M = some z → Lay M → VV Lay k_X12_throwAway 2 [(0, .ref 69), (1, .int x1), (2, .int a)] [] M z.2 (Qv (none) z.2) xF :=
  lp_ind (G := fun (a : (Int32)) (M : Mem) (z : Unit × Mem) => Lay M → VV Lay k_X12_throwAway 2 [(0, .ref 69), (1, .int x1), (2, .int a)] [] M z.2 (Qv (none) z.2) xF) (fun k hk a M z h hP => b_X12_throwAway_2b  (fun a M z hP h => hk a M z h hP) hP h) n
theorem b_X12_throwAway {x1 : Int32} {M z} (hP : Lay M) (h : d_X12_throwAway x1 M = some z) : VV Lay k_X12_throwAway 0 [(0, .ref 69), (1, .int x1)] [] M z.2 (Qv (none) z.2) xF := by
  unfold d_X12_throwAway at h
  refine Y_iconst (pc := 0) (v := (0 : Int32)) dX12_throwAway_0 rfl ?_
  refine Y_istore_n (pc := 1) (lv1 := [(2, .int (0 : Int32)), (0, .ref 69), (1, .int x1)]) dX12_throwAway_1 rfl (by decide) rfl ?_
  refine VV.sub [1, 2, 0] rfl ?_
  exact b_X12_throwAway_2  fuel _ _ _ h hP
theorem v_X12_throwAway {x1 : Int32} {M z} (hP : Lay M) (h : d_X12_throwAway x1 M = some z) : CC Lay k_X12_throwAway [.ref 69, .int x1] M z.2 (Qv (none) z.2) xF :=
  CC.ofVV (by decide) rfl (Nat.le_of_ble_eq_true rfl) (b_X12_throwAway hP h)
theorem b_X12_throwsWith_144 {k5 : (Int32 × Int32) → Mem → Option (Int32 × Mem)} {x1 : Int32} {x2 : Int32} {x3 : Int32} {x4 : Int32} {M z} (hk5 : ∀ (a : (Int32 × Int32)) (M : Mem) (z : Int32 × Mem), Lay M → k5 a M = some z → VV Lay k_X12_throwsWith 5 [(0, .ref 69), (1, .int x1), (2, .int x2), (3, .int a.1), (4, .int a.2)] [] M z.2 (Qv (some (.int z.1)) z.2) xF) (hP : Lay M) (h : d_X12_throwsWith_144 k5 x1 x2 x3 x4 M = some z) : VV Lay k_X12_throwsWith 144 [(0, .ref 69), (1, .int x1), (2, .int x2), (3, .int x3), (4, .int x4)] [] M z.2 (Qv (some (.int z.1)) z.2) xF := by
  unfold d_X12_throwsWith_144 at h
  obtain ⟨b1, eb1, h⟩ := bndE h
  refine Y_iinc (pc := 144) (j := 4) (v := b1) (lv1 := [(4, .int b1), (0, .ref 69), (1, .int x1), (2, .int x2), (3, .int x3)]) dX12_throwsWith_144 rfl eb1.symm (by decide) rfl ?_
  refine Y_goto (pc := 147) (tgt := 5) dX12_throwsWith_147 (by decide) ?_
  refine VV.sub [1, 2, 3, 4, 0] rfl ?_
  exact hk5 _ _ _ hP h
theorem b_X12_throwsWith_125 {k5 : (Int32 × Int32) → Mem → Option (Int32 × Mem)} {x1 : Int32} {x2 : Int32} {x3 : Int32} {x4 : Int32} {x5 : Int32} {M z} (hk5 : ∀ (a : (Int32 × Int32)) (M : Mem) (z : Int32 × Mem), Lay M → k5 a M = some z → VV Lay k_X12_throwsWith 5 [(0, .ref 69), (1, .int x1), (2, .int x2), (3, .int a.1), (4, .int a.2)] [] M z.2 (Qv (some (.int z.1)) z.2) xF) (hP : Lay M) (h : d_X12_throwsWith_125 k5 x1 x2 x3 x4 x5 M = some z) : VV Lay k_X12_throwsWith 125 [(0, .ref 69), (1, .int x1), (2, .int x2), (3, .int x3), (4, .int x4), (5, .int x5)] [] M z.2 (Qv (some (.int z.1)) z.2) xF := by
  unfold d_X12_throwsWith_125 at h
  refine Y_iload (pc := 125) (j := 5) dX12_throwsWith_125 rfl ?_
  refine Y_if_eq (pc := 127) (tgt := 144) dX12_throwsWith_127 (by decide) (fun hc1 => ?_) (fun hc1 => ?_)
  · replace h := ifT hc1 h
    refine VV.sub [0, 1, 2, 3, 4] rfl ?_
    exact b_X12_throwsWith_144 hk5 hP h
  · replace h := ifF hc1 h
    refine Y_aload_n (pc := 130) (j := 0) dX12_throwsWith_130 rfl rfl ?_
    refine Y_aload_n (pc := 131) (j := 0) dX12_throwsWith_131 rfl rfl ?_
    refine Z_getr (pc := 132) dX12_throwsWith_132 w8_97 (lk_69 hP) fr_12_31 (lr_69_31 hP) ?_
    refine Y_iload (pc := 135) (j := 4) dX12_throwsWith_135 rfl ?_
    obtain ⟨hb1, h⟩ := okE h
    refine Y_iald (pc := 137) dX12_throwsWith_137 (lk_93 hP) (ln_93 hP) hb1 ?_
    obtain ⟨y1, qy1, h⟩ := bindE h
    have cy1 := v_X12_throwAway hP qy1
    refine C_V1o (pc := 138) (k' := k_X12_throwAway) dX12_throwsWith_138 w9_152 i_X12_throwAway (lk_69 hP) ⟨Nat.le_of_ble_eq_true rfl, Nat.le_of_ble_eq_true rfl⟩ rfl (Nat.le_of_ble_eq_true rfl) (Nat.le_of_ble_eq_true rfl) (Nat.le_of_ble_eq_true rfl) (cy1) ?_
    have hPy1 := cy1.1.1
    obtain ⟨b1, eb1, h⟩ := bndE h
    refine Y_iinc (pc := 141) (j := 3) (v := b1) (lv1 := [(3, .int b1), (0, .ref 69), (1, .int x1), (2, .int x2), (4, .int x4), (5, .int x5)]) dX12_throwsWith_141 rfl eb1.symm (by decide) rfl ?_
    refine VV.sub [1, 2, 3, 0, 4] rfl ?_
    exact b_X12_throwsWith_144 hk5 hPy1 h
theorem b_X12_throwsWith_117 {k20 : (Int32 × Int32) → Mem → Option (Int32 × Mem)} {x1 : Int32} {x2 : Int32} {x3 : Int32} {x4 : Int32} {x6 : Int32} {s0 : Int32} {M z} (hk20 : ∀ (a : (Int32 × Int32)) (M : Mem) (z : Int32 × Mem), Lay M → k20 a M = some z → VV Lay k_X12_throwsWith 20 [(0, .ref 69), (1, .int x1), (2, .int x2), (3, .int x3), (4, .int x4), (5, .int a.1), (6, .int a.2)] [] M z.2 (Qv (some (.int z.1)) z.2) xF) (hP : Lay M) (h : d_X12_throwsWith_117 k20 x1 x2 x3 x4 x6 s0 M = some z) : VV Lay k_X12_throwsWith 117 [(0, .ref 69), (1, .int x1), (2, .int x2), (3, .int x3), (4, .int x4), (6, .int x6)] [.int s0] M z.2 (Qv (some (.int z.1)) z.2) xF := by
  unfold d_X12_throwsWith_117 at h
  refine Y_istore (pc := 117) (lv1 := [(5, .int s0), (0, .ref 69), (1, .int x1), (2, .int x2), (3, .int x3), (4, .int x4), (6, .int x6)]) dX12_throwsWith_117 (by decide) rfl ?_
  obtain ⟨b1, eb1, h⟩ := bndE h
  refine Y_iinc (pc := 119) (j := 6) (v := b1) (lv1 := [(6, .int b1), (5, .int s0), (0, .ref 69), (1, .int x1), (2, .int x2), (3, .int x3), (4, .int x4)]) dX12_throwsWith_119 rfl eb1.symm (by decide) rfl ?_
  refine Y_goto (pc := 122) (tgt := 20) dX12_throwsWith_122 (by decide) ?_
  refine VV.sub [2, 3, 4, 5, 6, 1, 0] rfl ?_
  exact hk20 _ _ _ hP h
theorem b_X12_throwsWith_112 {k20 : (Int32 × Int32) → Mem → Option (Int32 × Mem)} {x1 : Int32} {x2 : Int32} {x3 : Int32} {x4 : Int32} {x6 : Int32} {M z} (hk20 : ∀ (a : (Int32 × Int32)) (M : Mem) (z : Int32 × Mem), Lay M → k20 a M = some z → VV Lay k_X12_throwsWith 20 [(0, .ref 69), (1, .int x1), (2, .int x2), (3, .int x3), (4, .int x4), (5, .int a.1), (6, .int a.2)] [] M z.2 (Qv (some (.int z.1)) z.2) xF) (hP : Lay M) (h : d_X12_throwsWith_112 k20 x1 x2 x3 x4 x6 M = some z) : VV Lay k_X12_throwsWith 112 [(0, .ref 69), (1, .int x1), (2, .int x2), (3, .int x3), (4, .int x4), (6, .int x6)] [] M z.2 (Qv (some (.int z.1)) z.2) xF := by
  unfold d_X12_throwsWith_112 at h
  refine Y_iconst (pc := 112) (v := (1 : Int32)) dX12_throwsWith_112 rfl ?_
  refine Y_goto (pc := 113) (tgt := 117) dX12_throwsWith_113 (by decide) ?_
  refine VV.sub [0, 1, 2, 3, 4, 5] rfl ?_
  exact b_X12_throwsWith_117 hk20 hP h
theorem b_X12_throwsWith_116 {k20 : (Int32 × Int32) → Mem → Option (Int32 × Mem)} {x1 : Int32} {x2 : Int32} {x3 : Int32} {x4 : Int32} {x6 : Int32} {M z} (hk20 : ∀ (a : (Int32 × Int32)) (M : Mem) (z : Int32 × Mem), Lay M → k20 a M = some z → VV Lay k_X12_throwsWith 20 [(0, .ref 69), (1, .int x1), (2, .int x2), (3, .int x3), (4, .int x4), (5, .int a.1), (6, .int a.2)] [] M z.2 (Qv (some (.int z.1)) z.2) xF) (hP : Lay M) (h : d_X12_throwsWith_116 k20 x1 x2 x3 x4 x6 M = some z) : VV Lay k_X12_throwsWith 116 [(0, .ref 69), (1, .int x1), (2, .int x2), (3, .int x3), (4, .int x4), (6, .int x6)] [] M z.2 (Qv (some (.int z.1)) z.2) xF := by
  unfold d_X12_throwsWith_116 at h
  refine Y_iconst (pc := 116) (v := (0 : Int32)) dX12_throwsWith_116 rfl ?_
  refine VV.sub [0, 1, 2, 3, 4, 5] rfl ?_
  exact b_X12_throwsWith_117 hk20 hP h
theorem b_X12_throwsWith_20b {k5 : (Int32 × Int32) → Mem → Option (Int32 × Mem)} {k20 : (Int32 × Int32) → Mem → Option (Int32 × Mem)} {x1 : Int32} {x2 : Int32} {x3 : Int32} {x4 : Int32} {x5 : Int32} {x6 : Int32} {M z} (hk5 : ∀ (a : (Int32 × Int32)) (M : Mem) (z : Int32 × Mem), Lay M → k5 a M = some z → VV Lay k_X12_throwsWith 5 [(0, .ref 69), (1, .int x1), (2, .int x2), (3, .int a.1), (4, .int a.2)] [] M z.2 (Qv (some (.int z.1)) z.2) xF) (hk20 : ∀ (a : (Int32 × Int32)) (M : Mem) (z : Int32 × Mem), Lay M → k20 a M = some z → VV Lay k_X12_throwsWith 20 [(0, .ref 69), (1, .int x1), (2, .int x2), (3, .int x3), (4, .int x4), (5, .int a.1), (6, .int a.2)] [] M z.2 (Qv (some (.int z.1)) z.2) xF) (hP : Lay M) (h : d_X12_throwsWith_20b k5 k20 x1 x2 x3 x4 x5 x6 M = some z) : VV Lay k_X12_throwsWith 20 [(0, .ref 69), (1, .int x1), (2, .int x2), (3, .int x3), (4, .int x4), (5, .int x5), (6, .int x6)] [] M z.2 (Qv (some (.int z.1)) z.2) xF := by
  unfold d_X12_throwsWith_20b at h
  refine Y_iload (pc := 20) (j := 6) dX12_throwsWith_20 rfl ?_
  refine Y_aload_n (pc := 22) (j := 0) dX12_throwsWith_22 rfl rfl ?_
  refine Z_getr (pc := 23) dX12_throwsWith_23 w8_94 (lk_69 hP) fr_12_28 (lr_69_28 hP) ?_
  refine Y_iload (pc := 26) (j := 4) dX12_throwsWith_26 rfl ?_
  obtain ⟨hb1, h⟩ := okE h
  refine Y_iald (pc := 28) dX12_throwsWith_28 (lk_90 hP) (ln_90 hP) hb1 ?_
  refine Y_icmp_ge (pc := 29) (tgt := 125) dX12_throwsWith_29 (by decide) (fun hc1 => ?_) (fun hc1 => ?_)
  · replace h := ifT hc1 h
    refine VV.sub [0, 1, 2, 3, 4, 5] rfl ?_
    exact b_X12_throwsWith_125 hk5 hP h
  · replace h := ifF hc1 h
    refine Y_aload_n (pc := 32) (j := 0) dX12_throwsWith_32 rfl rfl ?_
    refine Z_getr (pc := 33) dX12_throwsWith_33 w8_93 (lk_69 hP) fr_12_27 (lr_69_27 hP) ?_
    refine Y_iload (pc := 36) (j := 4) dX12_throwsWith_36 rfl ?_
    obtain ⟨hb2, h⟩ := okE h
    refine Y_zald (pc := 38) dX12_throwsWith_38 (lk_89 hP) (ln_89 hP) hb2 ?_
    refine Y_if_eq (pc := 39) (tgt := 125) dX12_throwsWith_39 (by decide) (fun hc2 => ?_) (fun hc2 => ?_)
    · replace h := ifT hc2 h
      refine VV.sub [0, 1, 2, 3, 4, 5] rfl ?_
      exact b_X12_throwsWith_125 hk5 hP h
    · replace h := ifF hc2 h
      refine Y_bipush (pc := 42) (v := (40 : Int32)) dX12_throwsWith_42 rfl ?_
      refine Y_aload_n (pc := 44) (j := 0) dX12_throwsWith_44 rfl rfl ?_
      refine Z_getr (pc := 45) dX12_throwsWith_45 w8_95 (lk_69 hP) fr_12_29 (lr_69_29 hP) ?_
      refine Y_bipush (pc := 48) (v := (30 : Int32)) dX12_throwsWith_48 rfl ?_
      refine Y_iload (pc := 50) (j := 4) dX12_throwsWith_50 rfl ?_
      refine Y_imul (pc := 52) dX12_throwsWith_52 ?_
      refine Y_iload (pc := 53) (j := 6) dX12_throwsWith_53 rfl ?_
      refine Y_iadd (pc := 55) dX12_throwsWith_55 ?_
      obtain ⟨hb3, h⟩ := okE h
      refine Y_iald (pc := 56) dX12_throwsWith_56 (lk_91 hP) (ln_91 hP) hb3 ?_
      refine Y_bipush (pc := 57) (v := (100 : Int32)) dX12_throwsWith_57 rfl ?_
      refine Y_idiv (pc := 59) dX12_throwsWith_59 (by decide) ?_
      refine Y_imul (pc := 60) dX12_throwsWith_60 ?_
      refine Y_aload_n (pc := 61) (j := 0) dX12_throwsWith_61 rfl rfl ?_
      refine Z_getr (pc := 62) dX12_throwsWith_62 w8_95 (lk_69 hP) fr_12_29 (lr_69_29 hP) ?_
      refine Y_bipush (pc := 65) (v := (30 : Int32)) dX12_throwsWith_65 rfl ?_
      refine Y_iload (pc := 67) (j := 4) dX12_throwsWith_67 rfl ?_
      refine Y_imul (pc := 69) dX12_throwsWith_69 ?_
      refine Y_iload (pc := 70) (j := 6) dX12_throwsWith_70 rfl ?_
      refine Y_iadd (pc := 72) dX12_throwsWith_72 ?_
      obtain ⟨hb4, h⟩ := okE h
      refine Y_iald (pc := 73) dX12_throwsWith_73 (lk_91 hP) (ln_91 hP) hb4 ?_
      refine Y_bipush (pc := 74) (v := (100 : Int32)) dX12_throwsWith_74 rfl ?_
      refine Y_irem (pc := 76) dX12_throwsWith_76 (by decide) ?_
      refine Y_iadd (pc := 77) dX12_throwsWith_77 ?_
      obtain ⟨b1, eb1, h⟩ := bndE h
      refine VV.topI eb1 ?_
      refine Y_istore (pc := 78) (lv1 := [(7, .int b1), (0, .ref 69), (1, .int x1), (2, .int x2), (3, .int x3), (4, .int x4), (5, .int x5), (6, .int x6)]) dX12_throwsWith_78 (by decide) rfl ?_
      refine Y_iload (pc := 80) (j := 6) dX12_throwsWith_80 rfl ?_
      refine Y_if_ne (pc := 82) (tgt := 112) dX12_throwsWith_82 (by decide) (fun hc3 => ?_) (fun hc3 => ?_)
      · replace h := ifF hc3 h
        refine VV.sub [1, 2, 3, 4, 5, 7] rfl ?_
        exact b_X12_throwsWith_112 hk20 hP h
      · replace h := ifT hc3 h
        refine Y_aload_n (pc := 85) (j := 1) dX12_throwsWith_85 rfl rfl ?_
        refine Z_getr (pc := 86) dX12_throwsWith_86 w8_70 (lk_69 hP) fr_12_4 (lr_69_4 hP) ?_
        refine Y_iload (pc := 89) (j := 0) dX12_throwsWith_89 rfl ?_
        obtain ⟨hb5, h⟩ := okE h
        refine Y_cald (pc := 91) dX12_throwsWith_91 (lk_72 hP) (ln_72 hP) hb5 ?_
        refine Y_iload_n (pc := 92) (j := 2) dX12_throwsWith_92 rfl rfl ?_
        refine Y_icmp_ne (pc := 93) (tgt := 116) dX12_throwsWith_93 (by decide) (fun hc4 => ?_) (fun hc4 => ?_)
        · replace h := ifF hc4 h
          refine VV.sub [1, 2, 3, 4, 5, 7] rfl ?_
          exact b_X12_throwsWith_116 hk20 hP h
        · replace h := ifT hc4 h
          refine Y_iload_n (pc := 96) (j := 3) dX12_throwsWith_96 rfl rfl ?_
          refine Y_iconst (pc := 97) (v := (-1 : Int32)) dX12_throwsWith_97 rfl ?_
          refine Y_icmp_eq (pc := 98) (tgt := 112) dX12_throwsWith_98 (by decide) (fun hc5 => ?_) (fun hc5 => ?_)
          · replace h := ifT hc5 h
            refine VV.sub [1, 2, 3, 4, 5, 7] rfl ?_
            exact b_X12_throwsWith_112 hk20 hP h
          · replace h := ifF hc5 h
            refine Y_aload_n (pc := 101) (j := 1) dX12_throwsWith_101 rfl rfl ?_
            refine Z_getr (pc := 102) dX12_throwsWith_102 w8_71 (lk_69 hP) fr_12_5 (lr_69_5 hP) ?_
            refine Y_iload (pc := 105) (j := 0) dX12_throwsWith_105 rfl ?_
            obtain ⟨hb6, h⟩ := okE h
            refine Y_iald (pc := 107) dX12_throwsWith_107 (lk_73 hP) (ln_73 hP) hb6 ?_
            refine Y_iload_n (pc := 108) (j := 3) dX12_throwsWith_108 rfl rfl ?_
            refine Y_icmp_ne (pc := 109) (tgt := 116) dX12_throwsWith_109 (by decide) (fun hc6 => ?_) (fun hc6 => ?_)
            · replace h := ifF hc6 h
              refine VV.sub [1, 2, 3, 4, 5, 7] rfl ?_
              exact b_X12_throwsWith_116 hk20 hP h
            · replace h := ifT hc6 h
              refine VV.sub [1, 2, 3, 4, 5, 7] rfl ?_
              exact b_X12_throwsWith_112 hk20 hP h
theorem b_X12_throwsWith_20 {k5 : (Int32 × Int32) → Mem → Option (Int32 × Mem)} {x1 : Int32} {x2 : Int32} {x3 : Int32} {x4 : Int32} (hk5 : ∀ (a : (Int32 × Int32)) (M : Mem) (z : Int32 × Mem), Lay M → k5 a M = some z → VV Lay k_X12_throwsWith 5 [(0, .ref 69), (1, .int x1), (2, .int x2), (3, .int a.1), (4, .int a.2)] [] M z.2 (Qv (some (.int z.1)) z.2) xF) (n : Nat) : ∀ (a : (Int32 × Int32)) (M : Mem) (z : Int32 × Mem), d_X12_throwsWith_20 k5 x1 x2 x3 x4 n a M = some z → Lay M → VV Lay k_X12_throwsWith 20 [(0, .ref 69), (1, .int x1), (2, .int x2), (3, .int x3), (4, .int x4), (5, .int a.1), (6, .int a.2)] [] M z.2 (Qv (some (.int z.1)) z.2) xF :=
  lp_ind (G := fun (a : (Int32 × Int32)) (M : Mem) (z : Int32 × Mem) => Lay M → VV Lay k_X12_throwsWith 20 [(0, .ref 69), (1, .int x1), (2, .int x2), (3, .int x3), (4, .int x4), (5, .int a.1), (6, .int a.2)] [] M z.2 (Qv (some (.int z.1)) z.2) xF) (fun k hk a M z h hP => b_X12_throwsWith_20b  hk5 (fun a M z hP h => hk a M z h hP) hP h) n
theorem b_X12_throwsWith_5b {k5 : (Int32 × Int32) → Mem → Option (Int32 × Mem)} {x1 : Int32} {x2 : Int32} {x3 : Int32} {x4 : Int32} {M z} (hk5 : ∀ (a : (Int32 × Int32)) (M : Mem) (z : Int32 × Mem), Lay M → k5 a M = some z → VV Lay k_X12_throwsWith 5 [(0, .ref 69), (1, .int x1), (2, .int x2), (3, .int a.1), (4, .int a.2)] [] M z.2 (Qv (some (.int z.1)) z.2) xF) (hP : Lay M) (h : d_X12_throwsWith_5b k5 x1 x2 x3 x4 M = some z) : VV Lay k_X12_throwsWith 5 [(0, .ref 69), (1, .int x1), (2, .int x2), (3, .int x3), (4, .int x4)] [] M z.2 (Qv (some (.int z.1)) z.2) xF := by
  unfold d_X12_throwsWith_5b at h
  refine Y_iload (pc := 5) (j := 4) dX12_throwsWith_5 rfl ?_
  refine Y_aload_n (pc := 7) (j := 0) dX12_throwsWith_7 rfl rfl ?_
  refine Z_geti (pc := 8) dX12_throwsWith_8 w8_92 (lk_69 hP) fi_12_26 ?_
  refine Y_icmp_ge (pc := 11) (tgt := 150) dX12_throwsWith_11 (by decide) (fun hc1 => ?_) (fun hc1 => ?_)
  · replace h := ifT hc1 h
    refine Y_iload_n (pc := 150) (j := 3) dX12_throwsWith_150 rfl rfl ?_
    cases h
    exact Y_iret (pc := 151) rfl rfl dX12_throwsWith_151 hP ⟨rfl, rfl⟩
  · replace h := ifF hc1 h
    refine Y_iconst (pc := 14) (v := (0 : Int32)) dX12_throwsWith_14 rfl ?_
    refine Y_istore (pc := 15) (lv1 := [(5, .int (0 : Int32)), (0, .ref 69), (1, .int x1), (2, .int x2), (3, .int x3), (4, .int x4)]) dX12_throwsWith_15 (by decide) rfl ?_
    refine Y_iconst (pc := 17) (v := (0 : Int32)) dX12_throwsWith_17 rfl ?_
    refine Y_istore (pc := 18) (lv1 := [(6, .int (0 : Int32)), (5, .int (0 : Int32)), (0, .ref 69), (1, .int x1), (2, .int x2), (3, .int x3), (4, .int x4)]) dX12_throwsWith_18 (by decide) rfl ?_
    refine VV.sub [2, 3, 4, 5, 6, 1, 0] rfl ?_
    exact b_X12_throwsWith_20 hk5 fuel _ _ _ h hP
theorem b_X12_throwsWith_5 {x1 : Int32} {x2 : Int32} (n : Nat) : ∀ (a : (Int32 × Int32)) (M : Mem) (z : Int32 × Mem), d_X12_throwsWith_5 x1 x2 n a M = some z → Lay M → VV Lay k_X12_throwsWith 5 [(0, .ref 69), (1, .int x1), (2, .int x2), (3, .int a.1), (4, .int a.2)] [] M z.2 (Qv (some (.int z.1)) z.2) xF :=
  lp_ind (G := fun (a : (Int32 × Int32)) (M : Mem) (z : Int32 × Mem) => Lay M → VV Lay k_X12_throwsWith 5 [(0, .ref 69), (1, .int x1), (2, .int x2), (3, .int a.1), (4, .int a.2)] [] M z.2 (Qv (some (.int z.1)) z.2) xF) (fun k hk a M z h hP => b_X12_throwsWith_5b  (fun a M z hP h => hk a M z h hP) hP h) n
theorem b_X12_throwsWith {x1 : Int32} {x2 : Int32} {M z} (hP : Lay M) (h : d_X12_throwsWith x1 x2 M = some z) : VV Lay k_X12_throwsWith 0 [(0, .ref 69), (1, .int x1), (2, .int x2)] [] M z.2 (Qv (some (.int z.1)) z.2) xF := by
  unfold d_X12_throwsWith at h
  refine Y_iconst (pc := 0) (v := (0 : Int32)) dX12_throwsWith_0 rfl ?_
  refine Y_istore_n (pc := 1) (lv1 := [(3, .int (0 : Int32)), (0, .ref 69), (1, .int x1), (2, .int x2)]) dX12_throwsWith_1 rfl (by decide) rfl ?_
  refine Y_iconst (pc := 2) (v := (0 : Int32)) dX12_throwsWith_2 rfl ?_
  refine Y_istore (pc := 3) (lv1 := [(4, .int (0 : Int32)), (3, .int (0 : Int32)), (0, .ref 69), (1, .int x1), (2, .int x2)]) dX12_throwsWith_3 (by decide) rfl ?_
  refine VV.sub [2, 3, 4, 1, 0] rfl ?_
  exact b_X12_throwsWith_5  fuel _ _ _ h hP
theorem v_X12_throwsWith {x1 : Int32} {x2 : Int32} {M z} (hP : Lay M) (h : d_X12_throwsWith x1 x2 M = some z) : CC Lay k_X12_throwsWith [.ref 69, .int x1, .int x2] M z.2 (Qv (some (.int z.1)) z.2) xF :=
  CC.ofVV (by decide) rfl (Nat.le_of_ble_eq_true rfl) (b_X12_throwsWith hP h)
theorem b_X12_setMethod_133 {k85 : (Int32) → Mem → Option (Int32 × Mem)} {x4 : Int32} {s1 : Int32} {s2 : Int32} {M z} (hk85 : ∀ (a : (Int32)) (M : Mem) (z : Int32 × Mem), Lay M → k85 a M = some z → VV Lay k_X12_setMethod 85 [(0, .ref 69), (4, .int a)] [] M z.2 (Qv (some (.int z.1)) z.2) xF) (hP : Lay M) (h : d_X12_setMethod_133 k85 x4 s1 s2 M = some z) : VV Lay k_X12_setMethod 133 [(0, .ref 69), (4, .int x4)] [.int s2, .int s1, .ref 83] M z.2 (Qv (some (.int z.1)) z.2) xF := by
  unfold d_X12_setMethod_133 at h
  obtain ⟨hb1, h⟩ := okE h
  refine Y_iast (pc := 133) dX12_setMethod_133 (lk_83 hP) (ln_83 hP) hb1 ?_
  obtain ⟨M1, eM1, h⟩ := bndE h
  refine VV.mem eM1 ?_
  have hP1 := hP.wI eM1
  obtain ⟨b1, eb1, h⟩ := bndE h
  refine Y_iinc (pc := 134) (j := 1) (v := b1) (lv1 := [(4, .int b1), (0, .ref 69)]) dX12_setMethod_134 rfl eb1.symm (by decide) rfl ?_
  refine Y_goto (pc := 137) (tgt := 85) dX12_setMethod_137 (by decide) ?_
  refine VV.sub [1, 0] rfl ?_
  exact hk85 _ _ _ hP1 h
theorem b_X12_setMethod_126 {k85 : (Int32) → Mem → Option (Int32 × Mem)} {x4 : Int32} {s1 : Int32} {M z} (hk85 : ∀ (a : (Int32)) (M : Mem) (z : Int32 × Mem), Lay M → k85 a M = some z → VV Lay k_X12_setMethod 85 [(0, .ref 69), (4, .int a)] [] M z.2 (Qv (some (.int z.1)) z.2) xF) (hP : Lay M) (h : d_X12_setMethod_126 k85 x4 s1 M = some z) : VV Lay k_X12_setMethod 126 [(0, .ref 69), (4, .int x4)] [.int s1, .ref 83] M z.2 (Qv (some (.int z.1)) z.2) xF := by
  unfold d_X12_setMethod_126 at h
  refine Y_aload_n (pc := 126) (j := 0) dX12_setMethod_126 rfl rfl ?_
  refine Z_getr (pc := 127) dX12_setMethod_127 w8_83 (lk_69 hP) fr_12_17 (lr_69_17 hP) ?_
  refine Y_iload (pc := 130) (j := 1) dX12_setMethod_130 rfl ?_
  obtain ⟨hb1, h⟩ := okE h
  refine Y_iald (pc := 132) dX12_setMethod_132 (lk_83 hP) (ln_83 hP) hb1 ?_
  refine VV.sub [0, 1] rfl ?_
  exact b_X12_setMethod_133 hk85 hP h
theorem b_X12_setMethod_85b {k85 : (Int32) → Mem → Option (Int32 × Mem)} {x4 : Int32} {M z} (hk85 : ∀ (a : (Int32)) (M : Mem) (z : Int32 × Mem), Lay M → k85 a M = some z → VV Lay k_X12_setMethod 85 [(0, .ref 69), (4, .int a)] [] M z.2 (Qv (some (.int z.1)) z.2) xF) (hP : Lay M) (h : d_X12_setMethod_85b k85 x4 M = some z) : VV Lay k_X12_setMethod 85 [(0, .ref 69), (4, .int x4)] [] M z.2 (Qv (some (.int z.1)) z.2) xF := by
  unfold d_X12_setMethod_85b at h
  refine Y_iload (pc := 85) (j := 1) dX12_setMethod_85 rfl ?_
  refine Y_sipush (pc := 87) (v := (320 : Int32)) dX12_setMethod_87 rfl ?_
  refine Y_icmp_ge (pc := 90) (tgt := 140) dX12_setMethod_90 (by decide) (fun hc1 => ?_) (fun hc1 => ?_)
  · replace h := ifT hc1 h
    refine Y_aload_n (pc := 140) (j := 0) dX12_setMethod_140 rfl rfl ?_
    refine Y_bipush (pc := 141) (v := (109 : Int32)) dX12_setMethod_141 rfl ?_
    refine Y_iconst (pc := 143) (v := (-1 : Int32)) dX12_setMethod_143 rfl ?_
    obtain ⟨y1, qy1, h⟩ := bindE h
    have cy1 := v_X12_throwsWith hP qy1
    refine C_V2r (pc := 144) (k' := k_X12_throwsWith) dX12_setMethod_144 w9_148 i_X12_throwsWith (lk_69 hP) ⟨Nat.le_of_ble_eq_true rfl, Nat.le_of_ble_eq_true rfl⟩ rfl (Nat.le_of_ble_eq_true rfl) (Nat.le_of_ble_eq_true rfl) (Nat.le_of_ble_eq_true rfl) (cy1) ?_
    have hPy1 := cy1.1.1
    cases h
    exact Y_iret (pc := 147) rfl rfl dX12_setMethod_147 hPy1 ⟨rfl, rfl⟩
  · replace h := ifF hc1 h
    refine Y_aload_n (pc := 93) (j := 0) dX12_setMethod_93 rfl rfl ?_
    refine Z_getr (pc := 94) dX12_setMethod_94 w8_83 (lk_69 hP) fr_12_17 (lr_69_17 hP) ?_
    refine Y_iload (pc := 97) (j := 1) dX12_setMethod_97 rfl ?_
    refine Y_aload_n (pc := 99) (j := 0) dX12_setMethod_99 rfl rfl ?_
    refine Z_getr (pc := 100) dX12_setMethod_100 w8_70 (lk_69 hP) fr_12_4 (lr_69_4 hP) ?_
    refine Y_iload (pc := 103) (j := 1) dX12_setMethod_103 rfl ?_
    obtain ⟨hb1, h⟩ := okE h
    refine Y_cald (pc := 105) dX12_setMethod_105 (lk_72 hP) (ln_72 hP) hb1 ?_
    refine Y_bipush (pc := 106) (v := (109 : Int32)) dX12_setMethod_106 rfl ?_
    refine Y_icmp_ne (pc := 108) (tgt := 126) dX12_setMethod_108 (by decide) (fun hc2 => ?_) (fun hc2 => ?_)
    · replace h := ifF hc2 h
      refine VV.sub [0, 1] rfl ?_
      exact b_X12_setMethod_126 hk85 hP h
    · replace h := ifT hc2 h
      refine Y_aload_n (pc := 111) (j := 0) dX12_setMethod_111 rfl rfl ?_
      refine Z_getr (pc := 112) dX12_setMethod_112 w8_83 (lk_69 hP) fr_12_17 (lr_69_17 hP) ?_
      refine Y_iload (pc := 115) (j := 1) dX12_setMethod_115 rfl ?_
      obtain ⟨hb2, h⟩ := okE h
      refine Y_iald (pc := 117) dX12_setMethod_117 (lk_83 hP) (ln_83 hP) hb2 ?_
      refine Y_iconst (pc := 118) (v := (-1 : Int32)) dX12_setMethod_118 rfl ?_
      refine Y_icmp_eq (pc := 119) (tgt := 126) dX12_setMethod_119 (by decide) (fun hc3 => ?_) (fun hc3 => ?_)
      · replace h := ifT hc3 h
        refine VV.sub [0, 1] rfl ?_
        exact b_X12_setMethod_126 hk85 hP h
      · replace h := ifF hc3 h
        refine Y_iconst (pc := 122) (v := (0 : Int32)) dX12_setMethod_122 rfl ?_
        refine Y_goto (pc := 123) (tgt := 133) dX12_setMethod_123 (by decide) ?_
        refine VV.sub [0, 1] rfl ?_
        exact b_X12_setMethod_133 hk85 hP h
theorem b_X12_setMethod_85 (n : Nat) : ∀ (a : (Int32)) (M : Mem) (z : Int32 × Mem), d_X12_setMethod_85 n a M = some z → Lay M → VV Lay k_X12_setMethod 85 [(0, .ref 69), (4, .int a)] [] M z.2 (Qv (some (.int z.1)) z.2) xF :=
  lp_ind (G := fun (a : (Int32)) (M : Mem) (z : Int32 × Mem) => Lay M → VV Lay k_X12_setMethod 85 [(0, .ref 69), (4, .int a)] [] M z.2 (Qv (some (.int z.1)) z.2) xF) (fun k hk a M z h hP => b_X12_setMethod_85b  (fun a M z hP h => hk a M z h hP) hP h) n
theorem b_X12_setMethod {x1 : Int32} {x2 : Int32} {x3 : Int32} {M z} (hP : Lay M) (h : d_X12_setMethod x1 x2 x3 M = some z) : VV Lay k_X12_setMethod 0 [(0, .ref 69), (1, .int x1), (2, .int x2), (3, .int x3)] [] M z.2 (Qv (some (.int z.1)) z.2) xF := by
  unfold d_X12_setMethod at h
  refine Y_aload_n (pc := 0) (j := 0) dX12_setMethod_0 rfl rfl ?_
  refine Y_iconst (pc := 1) (v := (0 : Int32)) dX12_setMethod_1 rfl ?_
  refine Z_puti (pc := 2) dX12_setMethod_2 w8_66 (lk_69 hP) fi_12_0 (Or.inl rfl) rfl ?_
  obtain ⟨M1, eM1, h⟩ := bndE h
  refine VV.mem eM1 ?_
  have hP1 := hP.wI eM1
  refine Y_iload_n (pc := 5) (j := 1) dX12_setMethod_5 rfl rfl ?_
  refine Y_iconst (pc := 6) (v := (0 : Int32)) dX12_setMethod_6 rfl ?_
  refine Y_aload_n (pc := 7) (j := 0) dX12_setMethod_7 rfl rfl ?_
  refine Z_geti (pc := 8) dX12_setMethod_8 w8_74 (lk_69 hP1) fi_12_8 ?_
  refine Y_iconst (pc := 11) (v := (1 : Int32)) dX12_setMethod_11 rfl ?_
  refine Y_isub (pc := 12) dX12_setMethod_12 ?_
  obtain ⟨y1, qy1, h⟩ := bindE h
  have cy1 := v_X12_in hP1 qy1
  refine C_S3r (pc := 13) (k' := k_X12_in) dX12_setMethod_13 w9_110 i_X12_in (Nat.le_of_ble_eq_true rfl) (Nat.le_of_ble_eq_true rfl) (Nat.le_of_ble_eq_true rfl) (cy1) ?_
  have hPy1 := cy1.1.1
  refine Y_if_ne (pc := 16) (tgt := 25) dX12_setMethod_16 (by decide) (fun hc1 => ?_) (fun hc1 => ?_)
  · replace h := ifF hc1 h
    refine Y_iload_n (pc := 25) (j := 2) dX12_setMethod_25 rfl rfl ?_
    refine Y_iconst (pc := 26) (v := (0 : Int32)) dX12_setMethod_26 rfl ?_
    refine Y_iconst (pc := 27) (v := (5 : Int32)) dX12_setMethod_27 rfl ?_
    obtain ⟨y2, qy2, h⟩ := bindE h
    have cy2 := v_X12_in hPy1 qy2
    refine C_S3r (pc := 28) (k' := k_X12_in) dX12_setMethod_28 w9_110 i_X12_in (Nat.le_of_ble_eq_true rfl) (Nat.le_of_ble_eq_true rfl) (Nat.le_of_ble_eq_true rfl) (cy2) ?_
    have hPy2 := cy2.1.1
    refine Y_if_ne (pc := 31) (tgt := 40) dX12_setMethod_31 (by decide) (fun hc2 => ?_) (fun hc2 => ?_)
    · replace h := ifF hc2 h
      refine Y_aload_n (pc := 40) (j := 0) dX12_setMethod_40 rfl rfl ?_
      refine Y_iload_n (pc := 41) (j := 3) dX12_setMethod_41 rfl rfl ?_
      obtain ⟨y3, qy3, h⟩ := bindE h
      have cy3 := v_X12_isFunction hPy2 qy3
      refine C_V1r (pc := 42) (k' := k_X12_isFunction) dX12_setMethod_42 w9_121 i_X12_isFunction (lk_69 hPy2) ⟨Nat.le_of_ble_eq_true rfl, Nat.le_of_ble_eq_true rfl⟩ rfl (Nat.le_of_ble_eq_true rfl) (Nat.le_of_ble_eq_true rfl) (Nat.le_of_ble_eq_true rfl) (cy3) ?_
      have hPy3 := cy3.1.1
      refine Y_if_ne (pc := 45) (tgt := 54) dX12_setMethod_45 (by decide) (fun hc3 => ?_) (fun hc3 => ?_)
      · replace h := ifF hc3 h
        refine Y_aload_n (pc := 54) (j := 0) dX12_setMethod_54 rfl rfl ?_
        refine Z_getr (pc := 55) dX12_setMethod_55 w8_68 (lk_69 hPy3) fr_12_2 (lr_69_2 hPy3) ?_
        refine Y_iload_n (pc := 58) (j := 3) dX12_setMethod_58 rfl rfl ?_
        obtain ⟨hb1, h⟩ := okE h
        refine Y_iald (pc := 59) dX12_setMethod_59 (lk_70 hPy3) (ln_70 hPy3) hb1 ?_
        refine Y_iconst (pc := 60) (v := (1 : Int32)) dX12_setMethod_60 rfl ?_
        refine Y_icmp_eq (pc := 61) (tgt := 70) dX12_setMethod_61 (by decide) (fun hc4 => ?_) (fun hc4 => ?_)
        · replace h := ifT hc4 h
          refine Y_aload_n (pc := 70) (j := 0) dX12_setMethod_70 rfl rfl ?_
          refine Z_getr (pc := 71) dX12_setMethod_71 w8_76 (lk_69 hPy3) fr_12_10 (lr_69_10 hPy3) ?_
          refine Y_bipush (pc := 74) (v := (6 : Int32)) dX12_setMethod_74 rfl ?_
          refine Y_iload_n (pc := 76) (j := 1) dX12_setMethod_76 rfl rfl ?_
          refine Y_imul (pc := 77) dX12_setMethod_77 ?_
          refine Y_iload_n (pc := 78) (j := 2) dX12_setMethod_78 rfl rfl ?_
          refine Y_iadd (pc := 79) dX12_setMethod_79 ?_
          refine Y_iload_n (pc := 80) (j := 3) dX12_setMethod_80 rfl rfl ?_
          obtain ⟨hb2, h⟩ := okE h
          refine Y_iast (pc := 81) dX12_setMethod_81 (lk_77 hPy3) (ln_77 hPy3) hb2 ?_
          obtain ⟨M2, eM2, h⟩ := bndE h
          refine VV.mem eM2 ?_
          have hP2 := hPy3.wI eM2
          refine Y_iconst (pc := 82) (v := (0 : Int32)) dX12_setMethod_82 rfl ?_
          refine Y_istore (pc := 83) (lv1 := [(4, .int (0 : Int32)), (0, .ref 69), (1, .int x1), (2, .int x2), (3, .int x3)]) dX12_setMethod_83 (by decide) rfl ?_
          refine VV.sub [1, 0] rfl ?_
          exact b_X12_setMethod_85  fuel _ _ _ h hP2
        · replace h := ifF hc4 h
          refine Y_aload_n (pc := 64) (j := 0) dX12_setMethod_64 rfl rfl ?_
          refine Y_iconst (pc := 65) (v := (4 : Int32)) dX12_setMethod_65 rfl ?_
          obtain ⟨y4, qy4, h⟩ := bindE h
          have cy4 := v_X12_fails hPy3 qy4
          refine C_V1r (pc := 66) (k' := k_X12_fails) dX12_setMethod_66 w9_113 i_X12_fails (lk_69 hPy3) ⟨Nat.le_of_ble_eq_true rfl, Nat.le_of_ble_eq_true rfl⟩ rfl (Nat.le_of_ble_eq_true rfl) (Nat.le_of_ble_eq_true rfl) (Nat.le_of_ble_eq_true rfl) (cy4) ?_
          have hPy4 := cy4.1.1
          cases h
          exact Y_iret (pc := 69) rfl rfl dX12_setMethod_69 hPy4 ⟨rfl, rfl⟩
      · replace h := ifT hc3 h
        refine Y_aload_n (pc := 48) (j := 0) dX12_setMethod_48 rfl rfl ?_
        refine Y_iconst (pc := 49) (v := (3 : Int32)) dX12_setMethod_49 rfl ?_
        obtain ⟨y5, qy5, h⟩ := bindE h
        have cy5 := v_X12_fails hPy3 qy5
        refine C_V1r (pc := 50) (k' := k_X12_fails) dX12_setMethod_50 w9_113 i_X12_fails (lk_69 hPy3) ⟨Nat.le_of_ble_eq_true rfl, Nat.le_of_ble_eq_true rfl⟩ rfl (Nat.le_of_ble_eq_true rfl) (Nat.le_of_ble_eq_true rfl) (Nat.le_of_ble_eq_true rfl) (cy5) ?_
        have hPy5 := cy5.1.1
        cases h
        exact Y_iret (pc := 53) rfl rfl dX12_setMethod_53 hPy5 ⟨rfl, rfl⟩
    · replace h := ifT hc2 h
      refine Y_aload_n (pc := 34) (j := 0) dX12_setMethod_34 rfl rfl ?_
      refine Y_iconst (pc := 35) (v := (2 : Int32)) dX12_setMethod_35 rfl ?_
      obtain ⟨y6, qy6, h⟩ := bindE h
      have cy6 := v_X12_fails hPy2 qy6
      refine C_V1r (pc := 36) (k' := k_X12_fails) dX12_setMethod_36 w9_113 i_X12_fails (lk_69 hPy2) ⟨Nat.le_of_ble_eq_true rfl, Nat.le_of_ble_eq_true rfl⟩ rfl (Nat.le_of_ble_eq_true rfl) (Nat.le_of_ble_eq_true rfl) (Nat.le_of_ble_eq_true rfl) (cy6) ?_
      have hPy6 := cy6.1.1
      cases h
      exact Y_iret (pc := 39) rfl rfl dX12_setMethod_39 hPy6 ⟨rfl, rfl⟩
  · replace h := ifT hc1 h
    refine Y_aload_n (pc := 19) (j := 0) dX12_setMethod_19 rfl rfl ?_
    refine Y_iconst (pc := 20) (v := (1 : Int32)) dX12_setMethod_20 rfl ?_
    obtain ⟨y7, qy7, h⟩ := bindE h
    have cy7 := v_X12_fails hPy1 qy7
    refine C_V1r (pc := 21) (k' := k_X12_fails) dX12_setMethod_21 w9_113 i_X12_fails (lk_69 hPy1) ⟨Nat.le_of_ble_eq_true rfl, Nat.le_of_ble_eq_true rfl⟩ rfl (Nat.le_of_ble_eq_true rfl) (Nat.le_of_ble_eq_true rfl) (Nat.le_of_ble_eq_true rfl) (cy7) ?_
    have hPy7 := cy7.1.1
    cases h
    exact Y_iret (pc := 24) rfl rfl dX12_setMethod_24 hPy7 ⟨rfl, rfl⟩
theorem v_X12_setMethod {x1 : Int32} {x2 : Int32} {x3 : Int32} {M z} (hP : Lay M) (h : d_X12_setMethod x1 x2 x3 M = some z) : CC Lay k_X12_setMethod [.ref 69, .int x1, .int x2, .int x3] M z.2 (Qv (some (.int z.1)) z.2) xF :=
  CC.ofVV (by decide) rfl (Nat.le_of_ble_eq_true rfl) (b_X12_setMethod hP h)
theorem b_X12_setCell_36 {x1 : Int32} {x2 : Int32} {s0 : Int32} {M z} (hP : Lay M) (h : d_X12_setCell_36 x1 x2 s0 M = some z) : VV Lay k_X12_setCell 36 [(0, .ref 69), (1, .int x1), (2, .int x2)] [.int s0] M z.2 (Qv (some (.int z.1)) z.2) xF := by
  unfold d_X12_setCell_36 at h
  refine Y_istore_n (pc := 36) (lv1 := [(3, .int s0), (0, .ref 69), (1, .int x1), (2, .int x2)]) dX12_setCell_36 rfl (by decide) rfl ?_
  refine Y_aload_n (pc := 37) (j := 1) dX12_setCell_37 rfl rfl ?_
  refine Z_getr (pc := 38) dX12_setCell_38 w8_73 (lk_69 hP) fr_12_7 (lr_69_7 hP) ?_
  refine Y_iload_n (pc := 41) (j := 2) dX12_setCell_41 rfl rfl ?_
  refine Y_iload_n (pc := 42) (j := 3) dX12_setCell_42 rfl rfl ?_
  obtain ⟨hb1, h⟩ := okE h
  refine Y_iast (pc := 43) dX12_setCell_43 (lk_75 hP) (ln_75 hP) hb1 ?_
  obtain ⟨M1, eM1, h⟩ := bndE h
  refine VV.mem eM1 ?_
  have hP1 := hP.wI eM1
  refine Y_iload_n (pc := 44) (j := 0) dX12_setCell_44 rfl rfl ?_
  refine Y_if_eq (pc := 45) (tgt := 58) dX12_setCell_45 (by decide) (fun hc1 => ?_) (fun hc1 => ?_)
  · replace h := ifT hc1 h
    refine Y_iconst (pc := 58) (v := (0 : Int32)) dX12_setCell_58 rfl ?_
    cases h
    exact Y_iret (pc := 59) rfl rfl dX12_setCell_59 hP1 ⟨rfl, rfl⟩
  · replace h := ifF hc1 h
    refine Y_aload_n (pc := 48) (j := 1) dX12_setCell_48 rfl rfl ?_
    refine Y_bipush (pc := 49) (v := (107 : Int32)) dX12_setCell_49 rfl ?_
    refine Y_iload_n (pc := 51) (j := 2) dX12_setCell_51 rfl rfl ?_
    obtain ⟨y1, qy1, h⟩ := bindE h
    have cy1 := v_X12_throwsWith hP1 qy1
    refine C_V2r (pc := 52) (k' := k_X12_throwsWith) dX12_setCell_52 w9_148 i_X12_throwsWith (lk_69 hP1) ⟨Nat.le_of_ble_eq_true rfl, Nat.le_of_ble_eq_true rfl⟩ rfl (Nat.le_of_ble_eq_true rfl) (Nat.le_of_ble_eq_true rfl) (Nat.le_of_ble_eq_true rfl) (cy1) ?_
    have hPy1 := cy1.1.1
    refine Y_goto (pc := 55) (tgt := 59) dX12_setCell_55 (by decide) ?_
    cases h
    exact Y_iret (pc := 59) rfl rfl dX12_setCell_59 hPy1 ⟨rfl, rfl⟩
theorem b_X12_setCell {x1 : Int32} {x2 : Int32} {M z} (hP : Lay M) (h : d_X12_setCell x1 x2 M = some z) : VV Lay k_X12_setCell 0 [(0, .ref 69), (1, .int x1), (2, .int x2)] [] M z.2 (Qv (some (.int z.1)) z.2) xF := by
  unfold d_X12_setCell at h
  refine Y_aload_n (pc := 0) (j := 0) dX12_setCell_0 rfl rfl ?_
  refine Y_iconst (pc := 1) (v := (0 : Int32)) dX12_setCell_1 rfl ?_
  refine Z_puti (pc := 2) dX12_setCell_2 w8_66 (lk_69 hP) fi_12_0 (Or.inl rfl) rfl ?_
  obtain ⟨M1, eM1, h⟩ := bndE h
  refine VV.mem eM1 ?_
  have hP1 := hP.wI eM1
  refine Y_iload_n (pc := 5) (j := 1) dX12_setCell_5 rfl rfl ?_
  refine Y_iconst (pc := 6) (v := (0 : Int32)) dX12_setCell_6 rfl ?_
  refine Y_bipush (pc := 7) (v := (7 : Int32)) dX12_setCell_7 rfl ?_
  obtain ⟨y1, qy1, h⟩ := bindE h
  have cy1 := v_X12_in hP1 qy1
  refine C_S3r (pc := 9) (k' := k_X12_in) dX12_setCell_9 w9_110 i_X12_in (Nat.le_of_ble_eq_true rfl) (Nat.le_of_ble_eq_true rfl) (Nat.le_of_ble_eq_true rfl) (cy1) ?_
  have hPy1 := cy1.1.1
  refine Y_if_ne (pc := 12) (tgt := 21) dX12_setCell_12 (by decide) (fun hc1 => ?_) (fun hc1 => ?_)
  · replace h := ifF hc1 h
    refine Y_aload_n (pc := 21) (j := 0) dX12_setCell_21 rfl rfl ?_
    refine Z_getr (pc := 22) dX12_setCell_22 w8_73 (lk_69 hPy1) fr_12_7 (lr_69_7 hPy1) ?_
    refine Y_iload_n (pc := 25) (j := 1) dX12_setCell_25 rfl rfl ?_
    obtain ⟨hb1, h⟩ := okE h
    refine Y_iald (pc := 26) dX12_setCell_26 (lk_75 hPy1) (ln_75 hPy1) hb1 ?_
    refine Y_iload_n (pc := 27) (j := 2) dX12_setCell_27 rfl rfl ?_
    refine Y_icmp_eq (pc := 28) (tgt := 35) dX12_setCell_28 (by decide) (fun hc2 => ?_) (fun hc2 => ?_)
    · replace h := ifT hc2 h
      refine Y_iconst (pc := 35) (v := (0 : Int32)) dX12_setCell_35 rfl ?_
      refine VV.sub [0, 1, 2] rfl ?_
      exact b_X12_setCell_36  hPy1 h
    · replace h := ifF hc2 h
      refine Y_iconst (pc := 31) (v := (1 : Int32)) dX12_setCell_31 rfl ?_
      refine Y_goto (pc := 32) (tgt := 36) dX12_setCell_32 (by decide) ?_
      refine VV.sub [0, 1, 2] rfl ?_
      exact b_X12_setCell_36  hPy1 h
  · replace h := ifT hc1 h
    refine Y_aload_n (pc := 15) (j := 0) dX12_setCell_15 rfl rfl ?_
    refine Y_iconst (pc := 16) (v := (1 : Int32)) dX12_setCell_16 rfl ?_
    obtain ⟨y2, qy2, h⟩ := bindE h
    have cy2 := v_X12_fails hPy1 qy2
    refine C_V1r (pc := 17) (k' := k_X12_fails) dX12_setCell_17 w9_113 i_X12_fails (lk_69 hPy1) ⟨Nat.le_of_ble_eq_true rfl, Nat.le_of_ble_eq_true rfl⟩ rfl (Nat.le_of_ble_eq_true rfl) (Nat.le_of_ble_eq_true rfl) (Nat.le_of_ble_eq_true rfl) (cy2) ?_
    have hPy2 := cy2.1.1
    cases h
    exact Y_iret (pc := 20) rfl rfl dX12_setCell_20 hPy2 ⟨rfl, rfl⟩
theorem v_X12_setCell {x1 : Int32} {x2 : Int32} {M z} (hP : Lay M) (h : d_X12_setCell x1 x2 M = some z) : CC Lay k_X12_setCell [.ref 69, .int x1, .int x2] M z.2 (Qv (some (.int z.1)) z.2) xF :=
  CC.ofVV (by decide) rfl (Nat.le_of_ble_eq_true rfl) (b_X12_setCell hP h)
theorem b_X12_size_32 {k4 : (Int32 × Int32) → Mem → Option (Int32 × Mem)} {x2 : Int32} {s0 : Int32} {s1 : Int32} {M z} (hk4 : ∀ (a : (Int32 × Int32)) (M : Mem) (z : Int32 × Mem), Lay M → k4 a M = some z → VV Lay k_X12_size 4 [(0, .ref 69), (1, .int a.1), (2, .int a.2)] [] M z.2 (Qv (some (.int z.1)) z.2) xF) (hP : Lay M) (h : d_X12_size_32 k4 x2 s0 s1 M = some z) : VV Lay k_X12_size 32 [(0, .ref 69), (2, .int x2)] [.int s1, .int s0] M z.2 (Qv (some (.int z.1)) z.2) xF := by
  unfold d_X12_size_32 at h
  refine Y_iadd (pc := 32) dX12_size_32 ?_
  obtain ⟨b1, eb1, h⟩ := bndE h
  refine VV.topI eb1 ?_
  refine Y_istore_n (pc := 33) (lv1 := [(1, .int b1), (0, .ref 69), (2, .int x2)]) dX12_size_33 rfl (by decide) rfl ?_
  obtain ⟨b2, eb2, h⟩ := bndE h
  refine Y_iinc (pc := 34) (j := 2) (v := b2) (lv1 := [(2, .int b2), (1, .int b1), (0, .ref 69)]) dX12_size_34 rfl eb2.symm (by decide) rfl ?_
  refine Y_goto (pc := 37) (tgt := 4) dX12_size_37 (by decide) ?_
  refine VV.sub [2, 1, 0] rfl ?_
  exact hk4 _ _ _ hP h
theorem b_X12_size_4b {k4 : (Int32 × Int32) → Mem → Option (Int32 × Mem)} {x1 : Int32} {x2 : Int32} {M z} (hk4 : ∀ (a : (Int32 × Int32)) (M : Mem) (z : Int32 × Mem), Lay M → k4 a M = some z → VV Lay k_X12_size 4 [(0, .ref 69), (1, .int a.1), (2, .int a.2)] [] M z.2 (Qv (some (.int z.1)) z.2) xF) (hP : Lay M) (h : d_X12_size_4b k4 x1 x2 M = some z) : VV Lay k_X12_size 4 [(0, .ref 69), (1, .int x1), (2, .int x2)] [] M z.2 (Qv (some (.int z.1)) z.2) xF := by
  unfold d_X12_size_4b at h
  refine Y_iload_n (pc := 4) (j := 2) dX12_size_4 rfl rfl ?_
  refine Y_aload_n (pc := 5) (j := 0) dX12_size_5 rfl rfl ?_
  refine Z_geti (pc := 6) dX12_size_6 w8_92 (lk_69 hP) fi_12_26 ?_
  refine Y_icmp_ge (pc := 9) (tgt := 40) dX12_size_9 (by decide) (fun hc1 => ?_) (fun hc1 => ?_)
  · replace h := ifT hc1 h
    refine Y_iload_n (pc := 40) (j := 1) dX12_size_40 rfl rfl ?_
    cases h
    exact Y_iret (pc := 41) rfl rfl dX12_size_41 hP ⟨rfl, rfl⟩
  · replace h := ifF hc1 h
    refine Y_iload_n (pc := 12) (j := 1) dX12_size_12 rfl rfl ?_
    refine Y_aload_n (pc := 13) (j := 0) dX12_size_13 rfl rfl ?_
    refine Z_getr (pc := 14) dX12_size_14 w8_93 (lk_69 hP) fr_12_27 (lr_69_27 hP) ?_
    refine Y_iload_n (pc := 17) (j := 2) dX12_size_17 rfl rfl ?_
    obtain ⟨hb1, h⟩ := okE h
    refine Y_zald (pc := 18) dX12_size_18 (lk_89 hP) (ln_89 hP) hb1 ?_
    refine Y_if_eq (pc := 19) (tgt := 31) dX12_size_19 (by decide) (fun hc2 => ?_) (fun hc2 => ?_)
    · replace h := ifT hc2 h
      refine Y_iconst (pc := 31) (v := (0 : Int32)) dX12_size_31 rfl ?_
      refine VV.sub [0, 2] rfl ?_
      exact b_X12_size_32 hk4 hP h
    · replace h := ifF hc2 h
      refine Y_aload_n (pc := 22) (j := 0) dX12_size_22 rfl rfl ?_
      refine Z_getr (pc := 23) dX12_size_23 w8_94 (lk_69 hP) fr_12_28 (lr_69_28 hP) ?_
      refine Y_iload_n (pc := 26) (j := 2) dX12_size_26 rfl rfl ?_
      obtain ⟨hb2, h⟩ := okE h
      refine Y_iald (pc := 27) dX12_size_27 (lk_90 hP) (ln_90 hP) hb2 ?_
      refine Y_goto (pc := 28) (tgt := 32) dX12_size_28 (by decide) ?_
      refine VV.sub [0, 2] rfl ?_
      exact b_X12_size_32 hk4 hP h
theorem b_X12_size_4 (n : Nat) : ∀ (a : (Int32 × Int32)) (M : Mem) (z : Int32 × Mem), d_X12_size_4 n a M = some z → Lay M → VV Lay k_X12_size 4 [(0, .ref 69), (1, .int a.1), (2, .int a.2)] [] M z.2 (Qv (some (.int z.1)) z.2) xF :=
  lp_ind (G := fun (a : (Int32 × Int32)) (M : Mem) (z : Int32 × Mem) => Lay M → VV Lay k_X12_size 4 [(0, .ref 69), (1, .int a.1), (2, .int a.2)] [] M z.2 (Qv (some (.int z.1)) z.2) xF) (fun k hk a M z h hP => b_X12_size_4b  (fun a M z hP h => hk a M z h hP) hP h) n
theorem b_X12_size {M z} (hP : Lay M) (h : d_X12_size M = some z) : VV Lay k_X12_size 0 [(0, .ref 69)] [] M z.2 (Qv (some (.int z.1)) z.2) xF := by
  unfold d_X12_size at h
  refine Y_iconst (pc := 0) (v := (0 : Int32)) dX12_size_0 rfl ?_
  refine Y_istore_n (pc := 1) (lv1 := [(1, .int (0 : Int32)), (0, .ref 69)]) dX12_size_1 rfl (by decide) rfl ?_
  refine Y_iconst (pc := 2) (v := (0 : Int32)) dX12_size_2 rfl ?_
  refine Y_istore_n (pc := 3) (lv1 := [(2, .int (0 : Int32)), (1, .int (0 : Int32)), (0, .ref 69)]) dX12_size_3 rfl (by decide) rfl ?_
  refine VV.sub [2, 1, 0] rfl ?_
  exact b_X12_size_4  fuel _ _ _ h hP
theorem v_X12_size {M z} (hP : Lay M) (h : d_X12_size M = some z) : CC Lay k_X12_size [.ref 69] M z.2 (Qv (some (.int z.1)) z.2) xF :=
  CC.ofVV (by decide) rfl (Nat.le_of_ble_eq_true rfl) (b_X12_size hP h)
theorem b_X12_oldest_73 {k4 : (Int32 × Int32) → Mem → Option (Int32 × Mem)} {x1 : Int32} {x3 : Int32} {s0 : Int32} {M z} (hk4 : ∀ (a : (Int32 × Int32)) (M : Mem) (z : Int32 × Mem), Lay M → k4 a M = some z → VV Lay k_X12_oldest 4 [(0, .ref 69), (1, .int x1), (2, .int a.1), (3, .int a.2)] [] M z.2 (Qv (some (.int z.1)) z.2) xF) (hP : Lay M) (h : d_X12_oldest_73 k4 x1 x3 s0 M = some z) : VV Lay k_X12_oldest 73 [(0, .ref 69), (1, .int x1), (3, .int x3)] [.int s0] M z.2 (Qv (some (.int z.1)) z.2) xF := by
  unfold d_X12_oldest_73 at h
  refine Y_istore_n (pc := 73) (lv1 := [(2, .int s0), (0, .ref 69), (1, .int x1), (3, .int x3)]) dX12_oldest_73 rfl (by decide) rfl ?_
  obtain ⟨b1, eb1, h⟩ := bndE h
  refine Y_iinc (pc := 74) (j := 3) (v := b1) (lv1 := [(3, .int b1), (2, .int s0), (0, .ref 69), (1, .int x1)]) dX12_oldest_74 rfl eb1.symm (by decide) rfl ?_
  refine Y_goto (pc := 77) (tgt := 4) dX12_oldest_77 (by decide) ?_
  refine VV.sub [2, 3, 1, 0] rfl ?_
  exact hk4 _ _ _ hP h
theorem b_X12_oldest_72 {k4 : (Int32 × Int32) → Mem → Option (Int32 × Mem)} {x1 : Int32} {x2 : Int32} {x3 : Int32} {M z} (hk4 : ∀ (a : (Int32 × Int32)) (M : Mem) (z : Int32 × Mem), Lay M → k4 a M = some z → VV Lay k_X12_oldest 4 [(0, .ref 69), (1, .int x1), (2, .int a.1), (3, .int a.2)] [] M z.2 (Qv (some (.int z.1)) z.2) xF) (hP : Lay M) (h : d_X12_oldest_72 k4 x1 x2 x3 M = some z) : VV Lay k_X12_oldest 72 [(0, .ref 69), (1, .int x1), (2, .int x2), (3, .int x3)] [] M z.2 (Qv (some (.int z.1)) z.2) xF := by
  unfold d_X12_oldest_72 at h
  refine Y_iload_n (pc := 72) (j := 2) dX12_oldest_72 rfl rfl ?_
  refine VV.sub [0, 1, 3] rfl ?_
  exact b_X12_oldest_73 hk4 hP h
theorem b_X12_oldest_68 {k4 : (Int32 × Int32) → Mem → Option (Int32 × Mem)} {x1 : Int32} {x3 : Int32} {M z} (hk4 : ∀ (a : (Int32 × Int32)) (M : Mem) (z : Int32 × Mem), Lay M → k4 a M = some z → VV Lay k_X12_oldest 4 [(0, .ref 69), (1, .int x1), (2, .int a.1), (3, .int a.2)] [] M z.2 (Qv (some (.int z.1)) z.2) xF) (hP : Lay M) (h : d_X12_oldest_68 k4 x1 x3 M = some z) : VV Lay k_X12_oldest 68 [(0, .ref 69), (1, .int x1), (3, .int x3)] [] M z.2 (Qv (some (.int z.1)) z.2) xF := by
  unfold d_X12_oldest_68 at h
  refine Y_iload_n (pc := 68) (j := 2) dX12_oldest_68 rfl rfl ?_
  refine Y_goto (pc := 69) (tgt := 73) dX12_oldest_69 (by decide) ?_
  refine VV.sub [0, 1, 2] rfl ?_
  exact b_X12_oldest_73 hk4 hP h
theorem b_X12_oldest_41 {k4 : (Int32 × Int32) → Mem → Option (Int32 × Mem)} {x1 : Int32} {x2 : Int32} {x3 : Int32} {s0 : Int32} {M z} (hk4 : ∀ (a : (Int32 × Int32)) (M : Mem) (z : Int32 × Mem), Lay M → k4 a M = some z → VV Lay k_X12_oldest 4 [(0, .ref 69), (1, .int x1), (2, .int a.1), (3, .int a.2)] [] M z.2 (Qv (some (.int z.1)) z.2) xF) (hP : Lay M) (h : d_X12_oldest_41 k4 x1 x2 x3 s0 M = some z) : VV Lay k_X12_oldest 41 [(0, .ref 69), (1, .int x1), (2, .int x2), (3, .int x3)] [.int s0] M z.2 (Qv (some (.int z.1)) z.2) xF := by
  unfold d_X12_oldest_41 at h
  refine Y_istore (pc := 41) (lv1 := [(4, .int s0), (0, .ref 69), (1, .int x1), (2, .int x2), (3, .int x3)]) dX12_oldest_41 (by decide) rfl ?_
  refine Y_iload (pc := 43) (j := 0) dX12_oldest_43 rfl ?_
  refine Y_if_eq (pc := 45) (tgt := 72) dX12_oldest_45 (by decide) (fun hc1 => ?_) (fun hc1 => ?_)
  · replace h := ifT hc1 h
    refine VV.sub [1, 2, 3, 4] rfl ?_
    exact b_X12_oldest_72 hk4 hP h
  · replace h := ifF hc1 h
    refine Y_iload_n (pc := 48) (j := 3) dX12_oldest_48 rfl rfl ?_
    refine Y_iconst (pc := 49) (v := (-1 : Int32)) dX12_oldest_49 rfl ?_
    refine Y_icmp_eq (pc := 50) (tgt := 68) dX12_oldest_50 (by decide) (fun hc2 => ?_) (fun hc2 => ?_)
    · replace h := ifT hc2 h
      refine VV.sub [1, 2, 4] rfl ?_
      exact b_X12_oldest_68 hk4 hP h
    · replace h := ifF hc2 h
      refine Y_aload_n (pc := 53) (j := 1) dX12_oldest_53 rfl rfl ?_
      refine Z_getr (pc := 54) dX12_oldest_54 w8_100 (lk_69 hP) fr_12_34 (lr_69_34 hP) ?_
      refine Y_iload_n (pc := 57) (j := 4) dX12_oldest_57 rfl rfl ?_
      obtain ⟨hb1, h⟩ := okE h
      refine Y_iald (pc := 58) dX12_oldest_58 (lk_96 hP) (ln_96 hP) hb1 ?_
      refine Y_aload_n (pc := 59) (j := 1) dX12_oldest_59 rfl rfl ?_
      refine Z_getr (pc := 60) dX12_oldest_60 w8_100 (lk_69 hP) fr_12_34 (lr_69_34 hP) ?_
      refine Y_iload_n (pc := 63) (j := 3) dX12_oldest_63 rfl rfl ?_
      obtain ⟨hb2, h⟩ := okE h
      refine Y_iald (pc := 64) dX12_oldest_64 (lk_96 hP) (ln_96 hP) hb2 ?_
      refine Y_icmp_ge (pc := 65) (tgt := 72) dX12_oldest_65 (by decide) (fun hc3 => ?_) (fun hc3 => ?_)
      · replace h := ifT hc3 h
        refine VV.sub [1, 2, 3, 4] rfl ?_
        exact b_X12_oldest_72 hk4 hP h
      · replace h := ifF hc3 h
        refine VV.sub [1, 2, 4] rfl ?_
        exact b_X12_oldest_68 hk4 hP h
theorem b_X12_oldest_40 {k4 : (Int32 × Int32) → Mem → Option (Int32 × Mem)} {x1 : Int32} {x2 : Int32} {x3 : Int32} {M z} (hk4 : ∀ (a : (Int32 × Int32)) (M : Mem) (z : Int32 × Mem), Lay M → k4 a M = some z → VV Lay k_X12_oldest 4 [(0, .ref 69), (1, .int x1), (2, .int a.1), (3, .int a.2)] [] M z.2 (Qv (some (.int z.1)) z.2) xF) (hP : Lay M) (h : d_X12_oldest_40 k4 x1 x2 x3 M = some z) : VV Lay k_X12_oldest 40 [(0, .ref 69), (1, .int x1), (2, .int x2), (3, .int x3)] [] M z.2 (Qv (some (.int z.1)) z.2) xF := by
  unfold d_X12_oldest_40 at h
  refine Y_iconst (pc := 40) (v := (0 : Int32)) dX12_oldest_40 rfl ?_
  refine VV.sub [0, 1, 2, 3] rfl ?_
  exact b_X12_oldest_41 hk4 hP h
theorem b_X12_oldest_4b {k4 : (Int32 × Int32) → Mem → Option (Int32 × Mem)} {x1 : Int32} {x2 : Int32} {x3 : Int32} {M z} (hk4 : ∀ (a : (Int32 × Int32)) (M : Mem) (z : Int32 × Mem), Lay M → k4 a M = some z → VV Lay k_X12_oldest 4 [(0, .ref 69), (1, .int x1), (2, .int a.1), (3, .int a.2)] [] M z.2 (Qv (some (.int z.1)) z.2) xF) (hP : Lay M) (h : d_X12_oldest_4b k4 x1 x2 x3 M = some z) : VV Lay k_X12_oldest 4 [(0, .ref 69), (1, .int x1), (2, .int x2), (3, .int x3)] [] M z.2 (Qv (some (.int z.1)) z.2) xF := by
  unfold d_X12_oldest_4b at h
  refine Y_iload_n (pc := 4) (j := 3) dX12_oldest_4 rfl rfl ?_
  refine Y_aload_n (pc := 5) (j := 0) dX12_oldest_5 rfl rfl ?_
  refine Z_geti (pc := 6) dX12_oldest_6 w8_92 (lk_69 hP) fi_12_26 ?_
  refine Y_icmp_ge (pc := 9) (tgt := 80) dX12_oldest_9 (by decide) (fun hc1 => ?_) (fun hc1 => ?_)
  · replace h := ifT hc1 h
    refine Y_iload_n (pc := 80) (j := 2) dX12_oldest_80 rfl rfl ?_
    cases h
    exact Y_iret (pc := 81) rfl rfl dX12_oldest_81 hP ⟨rfl, rfl⟩
  · replace h := ifF hc1 h
    refine Y_aload_n (pc := 12) (j := 0) dX12_oldest_12 rfl rfl ?_
    refine Z_getr (pc := 13) dX12_oldest_13 w8_93 (lk_69 hP) fr_12_27 (lr_69_27 hP) ?_
    refine Y_iload_n (pc := 16) (j := 3) dX12_oldest_16 rfl rfl ?_
    obtain ⟨hb1, h⟩ := okE h
    refine Y_zald (pc := 17) dX12_oldest_17 (lk_89 hP) (ln_89 hP) hb1 ?_
    refine Y_if_eq (pc := 18) (tgt := 40) dX12_oldest_18 (by decide) (fun hc2 => ?_) (fun hc2 => ?_)
    · replace h := ifT hc2 h
      refine VV.sub [0, 1, 2, 3] rfl ?_
      exact b_X12_oldest_40 hk4 hP h
    · replace h := ifF hc2 h
      refine Y_aload_n (pc := 21) (j := 0) dX12_oldest_21 rfl rfl ?_
      refine Z_getr (pc := 22) dX12_oldest_22 w8_97 (lk_69 hP) fr_12_31 (lr_69_31 hP) ?_
      refine Y_iload_n (pc := 25) (j := 3) dX12_oldest_25 rfl rfl ?_
      obtain ⟨hb2, h⟩ := okE h
      refine Y_iald (pc := 26) dX12_oldest_26 (lk_93 hP) (ln_93 hP) hb2 ?_
      refine Y_iload_n (pc := 27) (j := 3) dX12_oldest_27 rfl rfl ?_
      refine Y_icmp_ne (pc := 28) (tgt := 40) dX12_oldest_28 (by decide) (fun hc3 => ?_) (fun hc3 => ?_)
      · replace h := ifF hc3 h
        refine VV.sub [0, 1, 2, 3] rfl ?_
        exact b_X12_oldest_40 hk4 hP h
      · replace h := ifT hc3 h
        refine Y_iload_n (pc := 31) (j := 3) dX12_oldest_31 rfl rfl ?_
        refine Y_iload_n (pc := 32) (j := 1) dX12_oldest_32 rfl rfl ?_
        refine Y_icmp_eq (pc := 33) (tgt := 40) dX12_oldest_33 (by decide) (fun hc4 => ?_) (fun hc4 => ?_)
        · replace h := ifT hc4 h
          refine VV.sub [0, 1, 2, 3] rfl ?_
          exact b_X12_oldest_40 hk4 hP h
        · replace h := ifF hc4 h
          refine Y_iconst (pc := 36) (v := (1 : Int32)) dX12_oldest_36 rfl ?_
          refine Y_goto (pc := 37) (tgt := 41) dX12_oldest_37 (by decide) ?_
          refine VV.sub [0, 1, 2, 3] rfl ?_
          exact b_X12_oldest_41 hk4 hP h
theorem b_X12_oldest_4 {x1 : Int32} (n : Nat) : ∀ (a : (Int32 × Int32)) (M : Mem) (z : Int32 × Mem), d_X12_oldest_4 x1 n a M = some z → Lay M → VV Lay k_X12_oldest 4 [(0, .ref 69), (1, .int x1), (2, .int a.1), (3, .int a.2)] [] M z.2 (Qv (some (.int z.1)) z.2) xF :=
  lp_ind (G := fun (a : (Int32 × Int32)) (M : Mem) (z : Int32 × Mem) => Lay M → VV Lay k_X12_oldest 4 [(0, .ref 69), (1, .int x1), (2, .int a.1), (3, .int a.2)] [] M z.2 (Qv (some (.int z.1)) z.2) xF) (fun k hk a M z h hP => b_X12_oldest_4b  (fun a M z hP h => hk a M z h hP) hP h) n
theorem b_X12_oldest {x1 : Int32} {M z} (hP : Lay M) (h : d_X12_oldest x1 M = some z) : VV Lay k_X12_oldest 0 [(0, .ref 69), (1, .int x1)] [] M z.2 (Qv (some (.int z.1)) z.2) xF := by
  unfold d_X12_oldest at h
  refine Y_iconst (pc := 0) (v := (-1 : Int32)) dX12_oldest_0 rfl ?_
  refine Y_istore_n (pc := 1) (lv1 := [(2, .int (-1 : Int32)), (0, .ref 69), (1, .int x1)]) dX12_oldest_1 rfl (by decide) rfl ?_
  refine Y_iconst (pc := 2) (v := (0 : Int32)) dX12_oldest_2 rfl ?_
  refine Y_istore_n (pc := 3) (lv1 := [(3, .int (0 : Int32)), (2, .int (-1 : Int32)), (0, .ref 69), (1, .int x1)]) dX12_oldest_3 rfl (by decide) rfl ?_
  refine VV.sub [2, 3, 1, 0] rfl ?_
  exact b_X12_oldest_4  fuel _ _ _ h hP
theorem v_X12_oldest {x1 : Int32} {M z} (hP : Lay M) (h : d_X12_oldest x1 M = some z) : CC Lay k_X12_oldest [.ref 69, .int x1] M z.2 (Qv (some (.int z.1)) z.2) xF :=
  CC.ofVV (by decide) rfl (Nat.le_of_ble_eq_true rfl) (b_X12_oldest hP h)
end VCR

