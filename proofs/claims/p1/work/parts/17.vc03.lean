/-! ===== what the methods reckon (printed by a program) ===== -/
section VCR
theorem b_X12_holds_187 {x1 : Int32} {s0 : Int32} {M z} (hP : Lay M) (h : d_X12_holds_187 x1 s0 M = some z) : VV Lay k_X12_holds 187 [(0, .ref 69), (1, .int x1)] [.int s0] M z.2 (Qv (some (.int z.1)) z.2) xF := by
  unfold d_X12_holds_187 at h
  refine Y_aload_n (pc := 187) (j := 0) dX12_holds_187 rfl rfl ?_
  refine Z_getr (pc := 188) dX12_holds_188 w8_105 (lk_69 hP) fr_12_39 (lr_69_39 hP) ?_
  refine Y_iload_n (pc := 191) (j := 1) dX12_holds_191 rfl rfl ?_
  obtain ⟨hb1, h⟩ := okE h
  refine Y_iald (pc := 192) dX12_holds_192 (lk_100 hP) (ln_100 hP) hb1 ?_
  refine Y_icmp_ne (pc := 193) (tgt := 200) dX12_holds_193 (by decide) (fun hc1 => ?_) (fun hc1 => ?_)
  · replace h := ifF hc1 h
    refine Y_iconst (pc := 200) (v := (0 : Int32)) dX12_holds_200 rfl ?_
    cases h
    exact Y_iret (pc := 201) rfl (nar_bo (by decide)) dX12_holds_201 hP ⟨rfl, rfl⟩
  · replace h := ifT hc1 h
    refine Y_iconst (pc := 196) (v := (1 : Int32)) dX12_holds_196 rfl ?_
    refine Y_goto (pc := 197) (tgt := 201) dX12_holds_197 (by decide) ?_
    cases h
    exact Y_iret (pc := 201) rfl (nar_bo (by decide)) dX12_holds_201 hP ⟨rfl, rfl⟩
theorem b_X12_holds_85 {x1 : Int32} {s0 : Int32} {M z} (hP : Lay M) (h : d_X12_holds_85 x1 s0 M = some z) : VV Lay k_X12_holds 85 [(0, .ref 69), (1, .int x1)] [.int s0] M z.2 (Qv (some (.int z.1)) z.2) xF := by
  unfold d_X12_holds_85 at h
  refine Y_aload_n (pc := 85) (j := 0) dX12_holds_85 rfl rfl ?_
  refine Z_getr (pc := 86) dX12_holds_86 w8_105 (lk_69 hP) fr_12_39 (lr_69_39 hP) ?_
  refine Y_iload_n (pc := 89) (j := 1) dX12_holds_89 rfl rfl ?_
  obtain ⟨hb1, h⟩ := okE h
  refine Y_iald (pc := 90) dX12_holds_90 (lk_100 hP) (ln_100 hP) hb1 ?_
  refine Y_icmp_ne (pc := 91) (tgt := 98) dX12_holds_91 (by decide) (fun hc1 => ?_) (fun hc1 => ?_)
  · replace h := ifF hc1 h
    refine Y_iconst (pc := 98) (v := (0 : Int32)) dX12_holds_98 rfl ?_
    cases h
    exact Y_iret (pc := 99) rfl (nar_bo (by decide)) dX12_holds_99 hP ⟨rfl, rfl⟩
  · replace h := ifT hc1 h
    refine Y_iconst (pc := 94) (v := (1 : Int32)) dX12_holds_94 rfl ?_
    refine Y_goto (pc := 95) (tgt := 99) dX12_holds_95 (by decide) ?_
    cases h
    exact Y_iret (pc := 99) rfl (nar_bo (by decide)) dX12_holds_99 hP ⟨rfl, rfl⟩
set_option maxRecDepth 20000 in
theorem b_X12_holds {x1 : Int32} {M z} (hP : Lay M) (h : d_X12_holds x1 M = some z) : VV Lay k_X12_holds 0 [(0, .ref 69), (1, .int x1)] [] M z.2 (Qv (some (.int z.1)) z.2) xF := by
  unfold d_X12_holds at h
  refine Y_aload_n (pc := 0) (j := 0) dX12_holds_0 rfl rfl ?_
  refine Y_aload_n (pc := 1) (j := 0) dX12_holds_1 rfl rfl ?_
  refine Z_getr (pc := 2) dX12_holds_2 w8_104 (lk_69 hP) fr_12_38 (lr_69_38 hP) ?_
  refine Y_iload_n (pc := 5) (j := 1) dX12_holds_5 rfl rfl ?_
  obtain ⟨hb1, h⟩ := okE h
  refine Y_iald (pc := 6) dX12_holds_6 (lk_99 hP) (ln_99 hP) hb1 ?_
  obtain ⟨y1, qy1, h⟩ := bindE h
  have cy1 := v_X12_top hP qy1
  refine C_V1r (pc := 7) (k' := k_X12_top) dX12_holds_7 w9_200 i_X12_top (lk_69 hP) ⟨Nat.le_of_ble_eq_true rfl, Nat.le_of_ble_eq_true rfl⟩ rfl (Nat.le_of_ble_eq_true rfl) (Nat.le_of_ble_eq_true rfl) (Nat.le_of_ble_eq_true rfl) (cy1) ?_
  have hPy1 := cy1.1.1
  refine Y_istore_n (pc := 10) (lv1 := [(2, .int y1.1), (0, .ref 69), (1, .int x1)]) dX12_holds_10 rfl (by decide) rfl ?_
  refine Y_aload_n (pc := 11) (j := 1) dX12_holds_11 rfl rfl ?_
  refine Z_getr (pc := 12) dX12_holds_12 w8_102 (lk_69 hPy1) fr_12_36 (lr_69_36 hPy1) ?_
  refine Y_iload_n (pc := 15) (j := 2) dX12_holds_15 rfl rfl ?_
  obtain ⟨hb2, h⟩ := okE h
  refine Y_cald (pc := 16) dX12_holds_16 (lk_97 hPy1) (ln_97 hPy1) hb2 ?_
  obtain ⟨b1, eb1, h⟩ := bndE h
  refine VV.topI eb1 ?_
  refine Y_istore_n (pc := 17) (lv1 := [(3, .int b1), (2, .int y1.1), (0, .ref 69), (1, .int x1)]) dX12_holds_17 rfl (by decide) rfl ?_
  refine Y_iload_n (pc := 18) (j := 0) dX12_holds_18 rfl rfl ?_
  refine Y_bipush (pc := 19) (v := (107 : Int32)) dX12_holds_19 rfl ?_
  refine Y_icmp_ne (pc := 21) (tgt := 45) dX12_holds_21 (by decide) (fun hc1 => ?_) (fun hc1 => ?_)
  · replace h := ifF hc1 h
    refine Y_iload_n (pc := 45) (j := 0) dX12_holds_45 rfl rfl ?_
    refine Y_bipush (pc := 46) (v := (122 : Int32)) dX12_holds_46 rfl ?_
    refine Y_icmp_ne (pc := 48) (tgt := 66) dX12_holds_48 (by decide) (fun hc2 => ?_) (fun hc2 => ?_)
    · replace h := ifF hc2 h
      refine Y_iload_n (pc := 66) (j := 0) dX12_holds_66 rfl rfl ?_
      refine Y_bipush (pc := 67) (v := (116 : Int32)) dX12_holds_67 rfl ?_
      refine Y_icmp_ne (pc := 69) (tgt := 100) dX12_holds_69 (by decide) (fun hc3 => ?_) (fun hc3 => ?_)
      · replace h := ifF hc3 h
        refine Y_iload_n (pc := 100) (j := 0) dX12_holds_100 rfl rfl ?_
        refine Y_bipush (pc := 101) (v := (115 : Int32)) dX12_holds_101 rfl ?_
        refine Y_icmp_ne (pc := 103) (tgt := 132) dX12_holds_103 (by decide) (fun hc4 => ?_) (fun hc4 => ?_)
        · replace h := ifF hc4 h
          refine Y_aload_n (pc := 132) (j := 2) dX12_holds_132 rfl rfl ?_
          refine Y_aload_n (pc := 133) (j := 2) dX12_holds_133 rfl rfl ?_
          refine Z_getr (pc := 134) dX12_holds_134 w8_70 (lk_69 hPy1) fr_12_4 (lr_69_4 hPy1) ?_
          refine Y_bipush (pc := 137) (v := (40 : Int32)) dX12_holds_137 rfl ?_
          refine Y_aload_n (pc := 139) (j := 2) dX12_holds_139 rfl rfl ?_
          refine Z_getr (pc := 140) dX12_holds_140 w8_115 (lk_69 hPy1) fr_12_49 (lr_69_49 hPy1) ?_
          refine Y_aload_n (pc := 143) (j := 2) dX12_holds_143 rfl rfl ?_
          refine Z_geti (pc := 144) dX12_holds_144 w8_114 (lk_69 hPy1) fi_12_48 ?_
          obtain ⟨hb3, h⟩ := okE h
          refine Y_iald (pc := 147) dX12_holds_147 (lk_109 hPy1) (ln_109 hPy1) hb3 ?_
          refine Y_imul (pc := 148) dX12_holds_148 ?_
          refine Y_aload_n (pc := 149) (j := 2) dX12_holds_149 rfl rfl ?_
          refine Z_getr (pc := 150) dX12_holds_150 w8_116 (lk_69 hPy1) fr_12_50 (lr_69_50 hPy1) ?_
          refine Y_aload_n (pc := 153) (j := 2) dX12_holds_153 rfl rfl ?_
          refine Z_geti (pc := 154) dX12_holds_154 w8_114 (lk_69 hPy1) fi_12_48 ?_
          obtain ⟨hb4, h⟩ := okE h
          refine Y_iald (pc := 157) dX12_holds_157 (lk_110 hPy1) (ln_110 hPy1) hb4 ?_
          refine Y_iadd (pc := 158) dX12_holds_158 ?_
          obtain ⟨hb5, h⟩ := okE h
          refine Y_cald (pc := 159) dX12_holds_159 (lk_72 hPy1) (ln_72 hPy1) hb5 ?_
          refine Y_aload_n (pc := 160) (j := 2) dX12_holds_160 rfl rfl ?_
          refine Y_iconst (pc := 161) (v := (1 : Int32)) dX12_holds_161 rfl ?_
          obtain ⟨y2, qy2, h⟩ := bindE h
          have cy2 := v_X12_top hPy1 qy2
          refine C_V1r (pc := 162) (k' := k_X12_top) dX12_holds_162 w9_200 i_X12_top (lk_69 hPy1) ⟨Nat.le_of_ble_eq_true rfl, Nat.le_of_ble_eq_true rfl⟩ rfl (Nat.le_of_ble_eq_true rfl) (Nat.le_of_ble_eq_true rfl) (Nat.le_of_ble_eq_true rfl) (cy2) ?_
          have hPy2 := cy2.1.1
          refine Y_aload_n (pc := 165) (j := 2) dX12_holds_165 rfl rfl ?_
          refine Y_iconst (pc := 166) (v := (0 : Int32)) dX12_holds_166 rfl ?_
          obtain ⟨y3, qy3, h⟩ := bindE h
          have cy3 := v_X12_top hPy2 qy3
          refine C_V1r (pc := 167) (k' := k_X12_top) dX12_holds_167 w9_200 i_X12_top (lk_69 hPy2) ⟨Nat.le_of_ble_eq_true rfl, Nat.le_of_ble_eq_true rfl⟩ rfl (Nat.le_of_ble_eq_true rfl) (Nat.le_of_ble_eq_true rfl) (Nat.le_of_ble_eq_true rfl) (cy3) ?_
          have hPy3 := cy3.1.1
          obtain ⟨y4, qy4, h⟩ := bindE h
          have cy4 := v_X12_reckons hPy3 qy4
          refine C_V3o (pc := 170) (k' := k_X12_reckons) dX12_holds_170 w10_9 i_X12_reckons (lk_69 hPy3) ⟨Nat.le_of_ble_eq_true rfl, Nat.le_of_ble_eq_true rfl⟩ rfl (Nat.le_of_ble_eq_true rfl) (Nat.le_of_ble_eq_true rfl) (Nat.le_of_ble_eq_true rfl) (cy4) ?_
          have hPy4 := cy4.1.1
          refine Y_aload_n (pc := 173) (j := 2) dX12_holds_173 rfl rfl ?_
          refine Z_geti (pc := 174) dX12_holds_174 w8_154 (lk_69 hPy4) fi_12_88 ?_
          refine Y_bipush (pc := 177) (v := (105 : Int32)) dX12_holds_177 rfl ?_
          refine Y_icmp_ne (pc := 179) (tgt := 186) dX12_holds_179 (by decide) (fun hc5 => ?_) (fun hc5 => ?_)
          · replace h := ifF hc5 h
            refine Y_iconst (pc := 186) (v := (0 : Int32)) dX12_holds_186 rfl ?_
            refine VV.sub [2, 3] rfl ?_
            exact b_X12_holds_187  hPy4 h
          · replace h := ifT hc5 h
            refine Y_iconst (pc := 182) (v := (1 : Int32)) dX12_holds_182 rfl ?_
            refine Y_goto (pc := 183) (tgt := 187) dX12_holds_183 (by decide) ?_
            refine VV.sub [2, 3] rfl ?_
            exact b_X12_holds_187  hPy4 h
        · replace h := ifT hc4 h
          refine Y_aload_n (pc := 106) (j := 2) dX12_holds_106 rfl rfl ?_
          refine Z_getr (pc := 107) dX12_holds_107 w8_119 (lk_69 hPy1) fr_12_53 (lr_69_53 hPy1) ?_
          refine Y_aload_n (pc := 110) (j := 2) dX12_holds_110 rfl rfl ?_
          refine Z_getr (pc := 111) dX12_holds_111 w8_111 (lk_69 hPy1) fr_12_45 (lr_69_45 hPy1) ?_
          refine Y_iload_n (pc := 114) (j := 1) dX12_holds_114 rfl rfl ?_
          obtain ⟨hb6, h⟩ := okE h
          refine Y_iald (pc := 115) dX12_holds_115 (lk_106 hPy1) (ln_106 hPy1) hb6 ?_
          obtain ⟨hb7, h⟩ := okE h
          refine Y_iald (pc := 116) dX12_holds_116 (lk_112 hPy1) (ln_112 hPy1) hb7 ?_
          refine Y_aload_n (pc := 117) (j := 2) dX12_holds_117 rfl rfl ?_
          refine Z_getr (pc := 118) dX12_holds_118 w8_105 (lk_69 hPy1) fr_12_39 (lr_69_39 hPy1) ?_
          refine Y_iload_n (pc := 121) (j := 3) dX12_holds_121 rfl rfl ?_
          obtain ⟨hb8, h⟩ := okE h
          refine Y_iald (pc := 122) dX12_holds_122 (lk_100 hPy1) (ln_100 hPy1) hb8 ?_
          refine Y_icmp_ne (pc := 123) (tgt := 130) dX12_holds_123 (by decide) (fun hc6 => ?_) (fun hc6 => ?_)
          · replace h := ifF hc6 h
            refine Y_iconst (pc := 130) (v := (0 : Int32)) dX12_holds_130 rfl ?_
            cases h
            exact Y_iret (pc := 131) rfl (nar_bo (by decide)) dX12_holds_131 hPy1 ⟨rfl, rfl⟩
          · replace h := ifT hc6 h
            refine Y_iconst (pc := 126) (v := (1 : Int32)) dX12_holds_126 rfl ?_
            refine Y_goto (pc := 127) (tgt := 131) dX12_holds_127 (by decide) ?_
            cases h
            exact Y_iret (pc := 131) rfl (nar_bo (by decide)) dX12_holds_131 hPy1 ⟨rfl, rfl⟩
      · replace h := ifT hc3 h
        refine Y_aload_n (pc := 72) (j := 2) dX12_holds_72 rfl rfl ?_
        refine Y_iload_n (pc := 73) (j := 1) dX12_holds_73 rfl rfl ?_
        obtain ⟨y5, qy5, h⟩ := bindE h
        have cy5 := v_X12_isNull hPy1 qy5
        refine C_V1r (pc := 74) (k' := k_X12_isNull) dX12_holds_74 w10_5 i_X12_isNull (lk_69 hPy1) ⟨Nat.le_of_ble_eq_true rfl, Nat.le_of_ble_eq_true rfl⟩ rfl (Nat.le_of_ble_eq_true rfl) (Nat.le_of_ble_eq_true rfl) (Nat.le_of_ble_eq_true rfl) (cy5) ?_
        have hPy5 := cy5.1.1
        refine Y_if_eq (pc := 77) (tgt := 84) dX12_holds_77 (by decide) (fun hc7 => ?_) (fun hc7 => ?_)
        · replace h := ifT hc7 h
          refine Y_iconst (pc := 84) (v := (0 : Int32)) dX12_holds_84 rfl ?_
          refine VV.sub [2, 3] rfl ?_
          exact b_X12_holds_85  hPy5 h
        · replace h := ifF hc7 h
          refine Y_iconst (pc := 80) (v := (1 : Int32)) dX12_holds_80 rfl ?_
          refine Y_goto (pc := 81) (tgt := 85) dX12_holds_81 (by decide) ?_
          refine VV.sub [2, 3] rfl ?_
          exact b_X12_holds_85  hPy5 h
    · replace h := ifT hc2 h
      refine Y_aload_n (pc := 51) (j := 2) dX12_holds_51 rfl rfl ?_
      refine Z_getr (pc := 52) dX12_holds_52 w8_111 (lk_69 hPy1) fr_12_45 (lr_69_45 hPy1) ?_
      refine Y_iload_n (pc := 55) (j := 1) dX12_holds_55 rfl rfl ?_
      obtain ⟨hb9, h⟩ := okE h
      refine Y_iald (pc := 56) dX12_holds_56 (lk_106 hPy1) (ln_106 hPy1) hb9 ?_
      refine Y_if_eq (pc := 57) (tgt := 64) dX12_holds_57 (by decide) (fun hc8 => ?_) (fun hc8 => ?_)
      · replace h := ifT hc8 h
        refine Y_iconst (pc := 64) (v := (0 : Int32)) dX12_holds_64 rfl ?_
        cases h
        exact Y_iret (pc := 65) rfl (nar_bo (by decide)) dX12_holds_65 hPy1 ⟨rfl, rfl⟩
      · replace h := ifF hc8 h
        refine Y_iconst (pc := 60) (v := (1 : Int32)) dX12_holds_60 rfl ?_
        refine Y_goto (pc := 61) (tgt := 65) dX12_holds_61 (by decide) ?_
        cases h
        exact Y_iret (pc := 65) rfl (nar_bo (by decide)) dX12_holds_65 hPy1 ⟨rfl, rfl⟩
  · replace h := ifT hc1 h
    refine Y_aload_n (pc := 24) (j := 2) dX12_holds_24 rfl rfl ?_
    refine Z_getr (pc := 25) dX12_holds_25 w8_110 (lk_69 hPy1) fr_12_44 (lr_69_44 hPy1) ?_
    refine Y_iload_n (pc := 28) (j := 1) dX12_holds_28 rfl rfl ?_
    obtain ⟨hb10, h⟩ := okE h
    refine Y_cald (pc := 29) dX12_holds_29 (lk_105 hPy1) (ln_105 hPy1) hb10 ?_
    refine Y_aload_n (pc := 30) (j := 2) dX12_holds_30 rfl rfl ?_
    refine Z_getr (pc := 31) dX12_holds_31 w8_105 (lk_69 hPy1) fr_12_39 (lr_69_39 hPy1) ?_
    refine Y_iload_n (pc := 34) (j := 3) dX12_holds_34 rfl rfl ?_
    obtain ⟨hb11, h⟩ := okE h
    refine Y_iald (pc := 35) dX12_holds_35 (lk_100 hPy1) (ln_100 hPy1) hb11 ?_
    refine Y_icmp_ne (pc := 36) (tgt := 43) dX12_holds_36 (by decide) (fun hc9 => ?_) (fun hc9 => ?_)
    · replace h := ifF hc9 h
      refine Y_iconst (pc := 43) (v := (0 : Int32)) dX12_holds_43 rfl ?_
      cases h
      exact Y_iret (pc := 44) rfl (nar_bo (by decide)) dX12_holds_44 hPy1 ⟨rfl, rfl⟩
    · replace h := ifT hc9 h
      refine Y_iconst (pc := 39) (v := (1 : Int32)) dX12_holds_39 rfl ?_
      refine Y_goto (pc := 40) (tgt := 44) dX12_holds_40 (by decide) ?_
      cases h
      exact Y_iret (pc := 44) rfl (nar_bo (by decide)) dX12_holds_44 hPy1 ⟨rfl, rfl⟩
theorem v_X12_holds {x1 : Int32} {M z} (hP : Lay M) (h : d_X12_holds x1 M = some z) : CC Lay k_X12_holds [.ref 69, .int x1] M z.2 (Qv (some (.int z.1)) z.2) xF :=
  CC.ofVV (by decide) rfl (Nat.le_of_ble_eq_true rfl) (b_X12_holds hP h)
theorem b_X12_records_57b {k45 : (Int32) → Mem → Option (Unit × Mem)} {k57 : (Int32) → Mem → Option (Unit × Mem)} {x5 : Int32} {x6 : Int32} {M z} (hk45 : ∀ (a : (Int32)) (M : Mem) (z : Unit × Mem), Lay M → k45 a M = some z → VV Lay k_X12_records 45 [(0, .ref 69), (5, .int a)] [] M z.2 (Qv (none) z.2) xF) (hk57 : ∀ (a : (Int32)) (M : Mem) (z : Unit × Mem), Lay M → k57 a M = some z → VV Lay k_X12_records 57 [(0, .ref 69), (5, .int x5), (6, .int a)] [] M z.2 (Qv (none) z.2) xF) (hP : Lay M) (h : d_X12_records_57b k45 k57 x5 x6 M = some z) : VV Lay k_X12_records 57 [(0, .ref 69), (5, .int x5), (6, .int x6)] [] M z.2 (Qv (none) z.2) xF := by
  unfold d_X12_records_57b at h
  refine Y_iload (pc := 57) (j := 2) dX12_records_57 rfl ?_
  refine Y_bipush (pc := 59) (v := (6 : Int32)) dX12_records_59 rfl ?_
  refine Y_aload_n (pc := 61) (j := 0) dX12_records_61 rfl rfl ?_
  refine Z_getr (pc := 62) dX12_records_62 w8_117 (lk_69 hP) fr_12_51 (lr_69_51 hP) ?_
  refine Y_iload (pc := 65) (j := 1) dX12_records_65 rfl ?_
  obtain ⟨hb1, h⟩ := okE h
  refine Y_iald (pc := 67) dX12_records_67 (lk_111 hP) (ln_111 hP) hb1 ?_
  refine Y_iadd (pc := 68) dX12_records_68 ?_
  refine Y_icmp_ge (pc := 69) (tgt := 95) dX12_records_69 (by decide) (fun hc1 => ?_) (fun hc1 => ?_)
  · replace h := ifT hc1 h
    obtain ⟨b1, eb1, h⟩ := bndE h
    refine Y_iinc (pc := 95) (j := 1) (v := b1) (lv1 := [(5, .int b1), (0, .ref 69), (6, .int x6)]) dX12_records_95 rfl eb1.symm (by decide) rfl ?_
    refine Y_goto (pc := 98) (tgt := 45) dX12_records_98 (by decide) ?_
    refine VV.sub [1, 0] rfl ?_
    exact hk45 _ _ _ hP h
  · replace h := ifF hc1 h
    refine Y_aload_n (pc := 72) (j := 0) dX12_records_72 rfl rfl ?_
    refine Z_getr (pc := 73) dX12_records_73 w8_113 (lk_69 hP) fr_12_47 (lr_69_47 hP) ?_
    refine Y_bipush (pc := 76) (v := (14 : Int32)) dX12_records_76 rfl ?_
    refine Y_iload (pc := 78) (j := 1) dX12_records_78 rfl ?_
    refine Y_imul (pc := 80) dX12_records_80 ?_
    refine Y_iload (pc := 81) (j := 2) dX12_records_81 rfl ?_
    refine Y_iadd (pc := 83) dX12_records_83 ?_
    refine Y_aload_n (pc := 84) (j := 0) dX12_records_84 rfl rfl ?_
    obtain ⟨y1, qy1, h⟩ := bindE h
    have cy1 := v_X12_newValue hP qy1
    refine C_V0r (pc := 85) (k' := k_X12_newValue) dX12_records_85 w10_35 i_X12_newValue (lk_69 hP) ⟨Nat.le_of_ble_eq_true rfl, Nat.le_of_ble_eq_true rfl⟩ rfl (Nat.le_of_ble_eq_true rfl) (Nat.le_of_ble_eq_true rfl) (Nat.le_of_ble_eq_true rfl) (cy1) ?_
    have hPy1 := cy1.1.1
    obtain ⟨hb2, h⟩ := okE h
    refine Y_iast (pc := 88) dX12_records_88 (lk_108 hPy1) (ln_108 hPy1) hb2 ?_
    obtain ⟨M1, eM1, h⟩ := bndE h
    refine VV.mem eM1 ?_
    have hP1 := hPy1.wI eM1
    obtain ⟨b2, eb2, h⟩ := bndE h
    refine Y_iinc (pc := 89) (j := 2) (v := b2) (lv1 := [(6, .int b2), (0, .ref 69), (5, .int x5)]) dX12_records_89 rfl eb2.symm (by decide) rfl ?_
    refine Y_goto (pc := 92) (tgt := 57) dX12_records_92 (by decide) ?_
    refine VV.sub [1, 2, 0] rfl ?_
    exact hk57 _ _ _ hP1 h
theorem b_X12_records_57 {k45 : (Int32) → Mem → Option (Unit × Mem)} {x5 : Int32} (hk45 : ∀ (a : (Int32)) (M : Mem) (z : Unit × Mem), Lay M → k45 a M = some z → VV Lay k_X12_records 45 [(0, .ref 69), (5, .int a)] [] M z.2 (Qv (none) z.2) xF) (n : Nat) : ∀ (a : (Int32)) (M : Mem) (z : Unit × Mem), d_X12_records_57 k45 x5 n a M = some z → Lay M → VV Lay k_X12_records 57 [(0, .ref 69), (5, .int x5), (6, .int a)] [] M z.2 (Qv (none) z.2) xF :=
  lp_ind (G := fun (a : (Int32)) (M : Mem) (z : Unit × Mem) => Lay M → VV Lay k_X12_records 57 [(0, .ref 69), (5, .int x5), (6, .int a)] [] M z.2 (Qv (none) z.2) xF) (fun k hk a M z h hP => b_X12_records_57b  hk45 (fun a M z hP h => hk a M z h hP) hP h) n
theorem b_X12_records_45b {k45 : (Int32) → Mem → Option (Unit × Mem)} {x5 : Int32} {M z} (hk45 : ∀ (a : (Int32)) (M : Mem) (z : Unit × Mem), Lay M → k45 a M = some z → VV Lay k_X12_records 45 [(0, .ref 69), (5, .int a)] [] M z.2 (Qv (none) z.2) xF) (hP : Lay M) (h : d_X12_records_45b k45 x5 M = some z) : VV Lay k_X12_records 45 [(0, .ref 69), (5, .int x5)] [] M z.2 (Qv (none) z.2) xF := by
  unfold d_X12_records_45b at h
  refine Y_iload (pc := 45) (j := 1) dX12_records_45 rfl ?_
  refine Y_aload_n (pc := 47) (j := 0) dX12_records_47 rfl rfl ?_
  refine Z_geti (pc := 48) dX12_records_48 w8_114 (lk_69 hP) fi_12_48 ?_
  refine Y_icmp_gt (pc := 51) (tgt := 101) dX12_records_51 (by decide) (fun hc1 => ?_) (fun hc1 => ?_)
  · replace h := ifT hc1 h
    cases h
    exact Y_vret (pc := 101) rfl dX12_records_101 hP ⟨rfl, rfl⟩
  · replace h := ifF hc1 h
    refine Y_iconst (pc := 54) (v := (0 : Int32)) dX12_records_54 rfl ?_
    refine Y_istore (pc := 55) (lv1 := [(6, .int (0 : Int32)), (0, .ref 69), (5, .int x5)]) dX12_records_55 (by decide) rfl ?_
    refine VV.sub [1, 2, 0] rfl ?_
    exact b_X12_records_57 hk45 fuel _ _ _ h hP
theorem b_X12_records_45 (n : Nat) : ∀ (a : (Int32)) (M : Mem) (z : Unit × Mem), d_X12_records_45 n a M = some z → Lay M → VV Lay k_X12_records 45 [(0, .ref 69), (5, .int a)] [] M z.2 (Qv (none) z.2) xF :=
  lp_ind (G := fun (a : (Int32)) (M : Mem) (z : Unit × Mem) => Lay M → VV Lay k_X12_records 45 [(0, .ref 69), (5, .int a)] [] M z.2 (Qv (none) z.2) xF) (fun k hk a M z h hP => b_X12_records_45b  (fun a M z hP h => hk a M z h hP) hP h) n
theorem b_X12_records {x1 : Int32} {x2 : Int32} {x3 : Int32} {x4 : Int32} {M z} (hP : Lay M) (h : d_X12_records x1 x2 x3 x4 M = some z) : VV Lay k_X12_records 0 [(0, .ref 69), (1, .int x1), (2, .int x2), (3, .int x3), (4, .int x4)] [] M z.2 (Qv (none) z.2) xF := by
  unfold d_X12_records at h
  refine Y_aload_n (pc := 0) (j := 0) dX12_records_0 rfl rfl ?_
  refine Y_iconst (pc := 1) (v := (1 : Int32)) dX12_records_1 rfl ?_
  refine Z_putz (pc := 2) dX12_records_2 w8_137 (lk_69 hP) fi_12_71 (Or.inl rfl) rfl (by decide) ?_
  obtain ⟨M1, eM1, h⟩ := bndE h
  refine VV.mem eM1 ?_
  have hP1 := hP.wI eM1
  refine Y_aload_n (pc := 5) (j := 0) dX12_records_5 rfl rfl ?_
  refine Y_iload_n (pc := 6) (j := 1) dX12_records_6 rfl rfl ?_
  refine Z_puti (pc := 7) dX12_records_7 w8_138 (lk_69 hP1) fi_12_72 (Or.inl rfl) rfl ?_
  obtain ⟨M2, eM2, h⟩ := bndE h
  refine VV.mem eM2 ?_
  have hP2 := hP1.wI eM2
  refine Y_aload_n (pc := 10) (j := 0) dX12_records_10 rfl rfl ?_
  refine Y_iload_n (pc := 11) (j := 2) dX12_records_11 rfl rfl ?_
  refine Z_puti (pc := 12) dX12_records_12 w8_139 (lk_69 hP2) fi_12_73 (Or.inl rfl) rfl ?_
  obtain ⟨M3, eM3, h⟩ := bndE h
  refine VV.mem eM3 ?_
  have hP3 := hP2.wI eM3
  refine Y_aload_n (pc := 15) (j := 0) dX12_records_15 rfl rfl ?_
  refine Y_iload_n (pc := 16) (j := 3) dX12_records_16 rfl rfl ?_
  refine Z_puti (pc := 17) dX12_records_17 w8_140 (lk_69 hP3) fi_12_74 (Or.inl rfl) rfl ?_
  obtain ⟨M4, eM4, h⟩ := bndE h
  refine VV.mem eM4 ?_
  have hP4 := hP3.wI eM4
  refine Y_aload_n (pc := 20) (j := 0) dX12_records_20 rfl rfl ?_
  refine Y_iload (pc := 21) (j := 4) dX12_records_21 rfl ?_
  refine Z_puti (pc := 23) dX12_records_23 w8_141 (lk_69 hP4) fi_12_75 (Or.inl rfl) rfl ?_
  obtain ⟨M5, eM5, h⟩ := bndE h
  refine VV.mem eM5 ?_
  have hP5 := hP4.wI eM5
  refine Y_aload_n (pc := 26) (j := 0) dX12_records_26 rfl rfl ?_
  refine Y_iconst (pc := 27) (v := (0 : Int32)) dX12_records_27 rfl ?_
  refine Z_puti (pc := 28) dX12_records_28 w8_142 (lk_69 hP5) fi_12_76 (Or.inl rfl) rfl ?_
  obtain ⟨M6, eM6, h⟩ := bndE h
  refine VV.mem eM6 ?_
  have hP6 := hP5.wI eM6
  refine Y_aload_n (pc := 31) (j := 0) dX12_records_31 rfl rfl ?_
  refine Y_iconst (pc := 32) (v := (0 : Int32)) dX12_records_32 rfl ?_
  refine Z_puti (pc := 33) dX12_records_33 w8_144 (lk_69 hP6) fi_12_78 (Or.inl rfl) rfl ?_
  obtain ⟨M7, eM7, h⟩ := bndE h
  refine VV.mem eM7 ?_
  have hP7 := hP6.wI eM7
  refine Y_aload_n (pc := 36) (j := 0) dX12_records_36 rfl rfl ?_
  refine Y_iconst (pc := 37) (v := (0 : Int32)) dX12_records_37 rfl ?_
  refine Z_puti (pc := 38) dX12_records_38 w8_149 (lk_69 hP7) fi_12_83 (Or.inl rfl) rfl ?_
  obtain ⟨M8, eM8, h⟩ := bndE h
  refine VV.mem eM8 ?_
  have hP8 := hP7.wI eM8
  refine Y_iload (pc := 41) (j := 4) dX12_records_41 rfl ?_
  refine Y_istore (pc := 43) (lv1 := [(5, .int x4), (0, .ref 69), (1, .int x1), (2, .int x2), (3, .int x3), (4, .int x4)]) dX12_records_43 (by decide) rfl ?_
  refine VV.sub [1, 0] rfl ?_
  exact b_X12_records_45  fuel _ _ _ h hP8
theorem v_X12_records {x1 : Int32} {x2 : Int32} {x3 : Int32} {x4 : Int32} {M z} (hP : Lay M) (h : d_X12_records x1 x2 x3 x4 M = some z) : CC Lay k_X12_records [.ref 69, .int x1, .int x2, .int x3, .int x4] M z.2 (Qv (none) z.2) xF :=
  CC.ofVV (by decide) rfl (Nat.le_of_ble_eq_true rfl) (b_X12_records hP h)
theorem b_X12_breaksOff {M z} (hP : Lay M) (h : d_X12_breaksOff M = some z) : VV Lay k_X12_breaksOff 0 [(0, .ref 69)] [] M z.2 (Qv (none) z.2) xF := by
  unfold d_X12_breaksOff at h
  refine Y_aload_n (pc := 0) (j := 0) dX12_breaksOff_0 rfl rfl ?_
  refine Z_geti (pc := 1) dX12_breaksOff_1 w8_137 (lk_69 hP) fi_12_71 ?_
  refine Y_if_ne (pc := 4) (tgt := 8) dX12_breaksOff_4 (by decide) (fun hc1 => ?_) (fun hc1 => ?_)
  · replace h := ifF hc1 h
    refine Y_aload_n (pc := 8) (j := 0) dX12_breaksOff_8 rfl rfl ?_
    refine Y_iconst (pc := 9) (v := (0 : Int32)) dX12_breaksOff_9 rfl ?_
    refine Z_putz (pc := 10) dX12_breaksOff_10 w8_137 (lk_69 hP) fi_12_71 (Or.inl rfl) rfl (by decide) ?_
    obtain ⟨M1, eM1, h⟩ := bndE h
    refine VV.mem eM1 ?_
    have hP1 := hP.wI eM1
    refine Y_aload_n (pc := 13) (j := 0) dX12_breaksOff_13 rfl rfl ?_
    refine Z_geti (pc := 14) dX12_breaksOff_14 w8_139 (lk_69 hP1) fi_12_73 ?_
    refine Y_iconst (pc := 17) (v := (-1 : Int32)) dX12_breaksOff_17 rfl ?_
    refine Y_icmp_ne (pc := 18) (tgt := 47) dX12_breaksOff_18 (by decide) (fun hc2 => ?_) (fun hc2 => ?_)
    · replace h := ifF hc2 h
      refine Y_aload_n (pc := 47) (j := 0) dX12_breaksOff_47 rfl rfl ?_
      refine Z_getr (pc := 48) dX12_breaksOff_48 w8_107 (lk_69 hP1) fr_12_41 (lr_69_41 hP1) ?_
      refine Y_aload_n (pc := 51) (j := 0) dX12_breaksOff_51 rfl rfl ?_
      refine Z_geti (pc := 52) dX12_breaksOff_52 w8_139 (lk_69 hP1) fi_12_73 ?_
      refine Y_iconst (pc := 55) (v := (0 : Int32)) dX12_breaksOff_55 rfl ?_
      obtain ⟨hb1, h⟩ := okE h
      refine Y_iast (pc := 56) dX12_breaksOff_56 (lk_102 hP1) (ln_102 hP1) hb1 ?_
      obtain ⟨M2, eM2, h⟩ := bndE h
      refine VV.mem eM2 ?_
      have hP2 := hP1.wI eM2
      refine Y_aload_n (pc := 57) (j := 0) dX12_breaksOff_57 rfl rfl ?_
      refine Z_getr (pc := 58) dX12_breaksOff_58 w8_108 (lk_69 hP2) fr_12_42 (lr_69_42 hP2) ?_
      refine Y_aload_n (pc := 61) (j := 0) dX12_breaksOff_61 rfl rfl ?_
      refine Z_geti (pc := 62) dX12_breaksOff_62 w8_139 (lk_69 hP2) fi_12_73 ?_
      refine Y_dup2 (pc := 65) dX12_breaksOff_65 rfl rfl ?_
      obtain ⟨hb2, h⟩ := okE h
      refine Y_iald (pc := 66) dX12_breaksOff_66 (lk_103 hP2) (ln_103 hP2) hb2 ?_
      refine Y_iconst (pc := 67) (v := (1 : Int32)) dX12_breaksOff_67 rfl ?_
      refine Y_iadd (pc := 68) dX12_breaksOff_68 ?_
      obtain ⟨hb3, h⟩ := okE h
      refine Y_iast (pc := 69) dX12_breaksOff_69 (lk_103 hP2) (ln_103 hP2) hb3 ?_
      obtain ⟨M3, eM3, h⟩ := bndE h
      refine VV.mem eM3 ?_
      have hP3 := hP2.wI eM3
      cases h
      exact Y_vret (pc := 70) rfl dX12_breaksOff_70 hP3 ⟨rfl, rfl⟩
    · replace h := ifT hc2 h
      refine Y_aload_n (pc := 21) (j := 0) dX12_breaksOff_21 rfl rfl ?_
      refine Z_getr (pc := 22) dX12_breaksOff_22 w8_87 (lk_69 hP1) fr_12_21 (lr_69_21 hP1) ?_
      refine Y_aload_n (pc := 25) (j := 0) dX12_breaksOff_25 rfl rfl ?_
      refine Z_geti (pc := 26) dX12_breaksOff_26 w8_140 (lk_69 hP1) fi_12_74 ?_
      refine Y_iconst (pc := 29) (v := (0 : Int32)) dX12_breaksOff_29 rfl ?_
      obtain ⟨hb4, h⟩ := okE h
      refine Y_iast (pc := 30) dX12_breaksOff_30 (lk_87 hP1) (ln_87 hP1) hb4 ?_
      obtain ⟨M4, eM4, h⟩ := bndE h
      refine VV.mem eM4 ?_
      have hP4 := hP1.wI eM4
      refine Y_aload_n (pc := 31) (j := 0) dX12_breaksOff_31 rfl rfl ?_
      refine Z_getr (pc := 32) dX12_breaksOff_32 w8_88 (lk_69 hP4) fr_12_22 (lr_69_22 hP4) ?_
      refine Y_aload_n (pc := 35) (j := 0) dX12_breaksOff_35 rfl rfl ?_
      refine Z_geti (pc := 36) dX12_breaksOff_36 w8_140 (lk_69 hP4) fi_12_74 ?_
      refine Y_dup2 (pc := 39) dX12_breaksOff_39 rfl rfl ?_
      obtain ⟨hb5, h⟩ := okE h
      refine Y_iald (pc := 40) dX12_breaksOff_40 (lk_88 hP4) (ln_88 hP4) hb5 ?_
      refine Y_iconst (pc := 41) (v := (1 : Int32)) dX12_breaksOff_41 rfl ?_
      refine Y_iadd (pc := 42) dX12_breaksOff_42 ?_
      obtain ⟨hb6, h⟩ := okE h
      refine Y_iast (pc := 43) dX12_breaksOff_43 (lk_88 hP4) (ln_88 hP4) hb6 ?_
      obtain ⟨M5, eM5, h⟩ := bndE h
      refine VV.mem eM5 ?_
      have hP5 := hP4.wI eM5
      refine Y_goto (pc := 44) (tgt := 70) dX12_breaksOff_44 (by decide) ?_
      cases h
      exact Y_vret (pc := 70) rfl dX12_breaksOff_70 hP5 ⟨rfl, rfl⟩
  · replace h := ifT hc1 h
    cases h
    exact Y_vret (pc := 7) rfl dX12_breaksOff_7 hP ⟨rfl, rfl⟩
theorem v_X12_breaksOff {M z} (hP : Lay M) (h : d_X12_breaksOff M = some z) : CC Lay k_X12_breaksOff [.ref 69] M z.2 (Qv (none) z.2) xF :=
  CC.ofVV (by decide) rfl (Nat.le_of_ble_eq_true rfl) (b_X12_breaksOff hP h)
theorem b_X12_ends_290 {x2 : Int32} {M z} (hP : Lay M) (h : d_X12_ends_290 x2 M = some z) : VV Lay k_X12_ends 290 [(0, .ref 69), (2, .int x2)] [] M z.2 (Qv (none) z.2) xF := by
  unfold d_X12_ends_290 at h
  refine Y_aload_n (pc := 290) (j := 0) dX12_ends_290 rfl rfl ?_
  refine Y_aload_n (pc := 291) (j := 0) dX12_ends_291 rfl rfl ?_
  refine Z_getr (pc := 292) dX12_ends_292 w8_97 (lk_69 hP) fr_12_31 (lr_69_31 hP) ?_
  refine Y_iload_n (pc := 295) (j := 1) dX12_ends_295 rfl rfl ?_
  obtain ⟨hb1, h⟩ := okE h
  refine Y_iald (pc := 296) dX12_ends_296 (lk_93 hP) (ln_93 hP) hb1 ?_
  obtain ⟨y1, qy1, h⟩ := bindE h
  have cy1 := v_X12_enters hP qy1
  refine C_V1o (pc := 297) (k' := k_X12_enters) dX12_ends_297 w10_103 i_X12_enters (lk_69 hP) ⟨Nat.le_of_ble_eq_true rfl, Nat.le_of_ble_eq_true rfl⟩ rfl (Nat.le_of_ble_eq_true rfl) (Nat.le_of_ble_eq_true rfl) (Nat.le_of_ble_eq_true rfl) (cy1) ?_
  have hPy1 := cy1.1.1
  cases h
  exact Y_vret (pc := 300) rfl dX12_ends_300 hPy1 ⟨rfl, rfl⟩
theorem b_X12_ends_190b {k190 : (Int32) → Mem → Option (Unit × Mem)} {x2 : Int32} {x3 : Int32} {M z} (hk190 : ∀ (a : (Int32)) (M : Mem) (z : Unit × Mem), Lay M → k190 a M = some z → VV Lay k_X12_ends 190 [(0, .ref 69), (2, .int x2), (3, .int a)] [] M z.2 (Qv (none) z.2) xF) (hP : Lay M) (h : d_X12_ends_190b k190 x2 x3 M = some z) : VV Lay k_X12_ends 190 [(0, .ref 69), (2, .int x2), (3, .int x3)] [] M z.2 (Qv (none) z.2) xF := by
  unfold d_X12_ends_190b at h
  refine Y_iload_n (pc := 190) (j := 2) dX12_ends_190 rfl rfl ?_
  refine Y_aload_n (pc := 191) (j := 0) dX12_ends_191 rfl rfl ?_
  refine Z_geti (pc := 192) dX12_ends_192 w8_144 (lk_69 hP) fi_12_78 ?_
  refine Y_icmp_ge (pc := 195) (tgt := 272) dX12_ends_195 (by decide) (fun hc1 => ?_) (fun hc1 => ?_)
  · replace h := ifT hc1 h
    refine Y_aload_n (pc := 272) (j := 0) dX12_ends_272 rfl rfl ?_
    refine Z_geti (pc := 273) dX12_ends_273 w8_139 (lk_69 hP) fi_12_73 ?_
    refine Y_iconst (pc := 276) (v := (-1 : Int32)) dX12_ends_276 rfl ?_
    refine Y_icmp_eq (pc := 277) (tgt := 290) dX12_ends_277 (by decide) (fun hc2 => ?_) (fun hc2 => ?_)
    · replace h := ifT hc2 h
      refine VV.sub [0, 1] rfl ?_
      exact b_X12_ends_290  hP h
    · replace h := ifF hc2 h
      refine Y_aload_n (pc := 280) (j := 0) dX12_ends_280 rfl rfl ?_
      refine Z_getr (pc := 281) dX12_ends_281 w8_109 (lk_69 hP) fr_12_43 (lr_69_43 hP) ?_
      refine Y_aload_n (pc := 284) (j := 0) dX12_ends_284 rfl rfl ?_
      refine Z_geti (pc := 285) dX12_ends_285 w8_139 (lk_69 hP) fi_12_73 ?_
      refine Y_iload_n (pc := 288) (j := 1) dX12_ends_288 rfl rfl ?_
      obtain ⟨hb1, h⟩ := okE h
      refine Y_iast (pc := 289) dX12_ends_289 (lk_104 hP) (ln_104 hP) hb1 ?_
      obtain ⟨M1, eM1, h⟩ := bndE h
      refine VV.mem eM1 ?_
      have hP1 := hP.wI eM1
      refine VV.sub [0, 1] rfl ?_
      exact b_X12_ends_290  hP1 h
  · replace h := ifF hc1 h
    refine Y_bipush (pc := 198) (v := (120 : Int32)) dX12_ends_198 rfl ?_
    refine Y_iload_n (pc := 200) (j := 1) dX12_ends_200 rfl rfl ?_
    refine Y_imul (pc := 201) dX12_ends_201 ?_
    refine Y_iload_n (pc := 202) (j := 2) dX12_ends_202 rfl rfl ?_
    refine Y_iadd (pc := 203) dX12_ends_203 ?_
    obtain ⟨b1, eb1, h⟩ := bndE h
    refine VV.topI eb1 ?_
    refine Y_istore (pc := 204) (lv1 := [(4, .int b1), (0, .ref 69), (2, .int x2), (3, .int x3)]) dX12_ends_204 (by decide) rfl ?_
    refine Y_aload_n (pc := 206) (j := 1) dX12_ends_206 rfl rfl ?_
    refine Z_getr (pc := 207) dX12_ends_207 w8_102 (lk_69 hP) fr_12_36 (lr_69_36 hP) ?_
    refine Y_iload (pc := 210) (j := 0) dX12_ends_210 rfl ?_
    refine Y_aload_n (pc := 212) (j := 1) dX12_ends_212 rfl rfl ?_
    refine Z_getr (pc := 213) dX12_ends_213 w8_145 (lk_69 hP) fr_12_79 (lr_69_79 hP) ?_
    refine Y_iload_n (pc := 216) (j := 3) dX12_ends_216 rfl rfl ?_
    obtain ⟨hb2, h⟩ := okE h
    refine Y_cald (pc := 217) dX12_ends_217 (lk_119 hP) (ln_119 hP) hb2 ?_
    obtain ⟨hb3, h⟩ := okE h
    obtain ⟨hb4, h⟩ := okE h
    refine Y_cast (pc := 218) dX12_ends_218 (lk_97 hP) (ln_97 hP) hb3 (nar_ch hb4) ?_
    obtain ⟨M2, eM2, h⟩ := bndE h
    refine VV.mem eM2 ?_
    have hP2 := hP.wI eM2
    refine Y_aload_n (pc := 219) (j := 1) dX12_ends_219 rfl rfl ?_
    refine Z_getr (pc := 220) dX12_ends_220 w8_103 (lk_69 hP2) fr_12_37 (lr_69_37 hP2) ?_
    refine Y_iload (pc := 223) (j := 0) dX12_ends_223 rfl ?_
    refine Y_aload_n (pc := 225) (j := 1) dX12_ends_225 rfl rfl ?_
    refine Z_getr (pc := 226) dX12_ends_226 w8_146 (lk_69 hP2) fr_12_80 (lr_69_80 hP2) ?_
    refine Y_iload_n (pc := 229) (j := 3) dX12_ends_229 rfl rfl ?_
    obtain ⟨hb5, h⟩ := okE h
    refine Y_iald (pc := 230) dX12_ends_230 (lk_120 hP2) (ln_120 hP2) hb5 ?_
    obtain ⟨hb6, h⟩ := okE h
    refine Y_iast (pc := 231) dX12_ends_231 (lk_98 hP2) (ln_98 hP2) hb6 ?_
    obtain ⟨M3, eM3, h⟩ := bndE h
    refine VV.mem eM3 ?_
    have hP3 := hP2.wI eM3
    refine Y_aload_n (pc := 232) (j := 1) dX12_ends_232 rfl rfl ?_
    refine Z_getr (pc := 233) dX12_ends_233 w8_104 (lk_69 hP3) fr_12_38 (lr_69_38 hP3) ?_
    refine Y_iload (pc := 236) (j := 0) dX12_ends_236 rfl ?_
    refine Y_aload_n (pc := 238) (j := 1) dX12_ends_238 rfl rfl ?_
    refine Z_getr (pc := 239) dX12_ends_239 w8_147 (lk_69 hP3) fr_12_81 (lr_69_81 hP3) ?_
    refine Y_iload_n (pc := 242) (j := 3) dX12_ends_242 rfl rfl ?_
    obtain ⟨hb7, h⟩ := okE h
    refine Y_iald (pc := 243) dX12_ends_243 (lk_121 hP3) (ln_121 hP3) hb7 ?_
    obtain ⟨hb8, h⟩ := okE h
    refine Y_iast (pc := 244) dX12_ends_244 (lk_99 hP3) (ln_99 hP3) hb8 ?_
    obtain ⟨M4, eM4, h⟩ := bndE h
    refine VV.mem eM4 ?_
    have hP4 := hP3.wI eM4
    refine Y_aload_n (pc := 245) (j := 1) dX12_ends_245 rfl rfl ?_
    refine Z_getr (pc := 246) dX12_ends_246 w8_105 (lk_69 hP4) fr_12_39 (lr_69_39 hP4) ?_
    refine Y_iload (pc := 249) (j := 0) dX12_ends_249 rfl ?_
    refine Y_aload_n (pc := 251) (j := 1) dX12_ends_251 rfl rfl ?_
    refine Z_getr (pc := 252) dX12_ends_252 w8_148 (lk_69 hP4) fr_12_82 (lr_69_82 hP4) ?_
    refine Y_iload_n (pc := 255) (j := 3) dX12_ends_255 rfl rfl ?_
    obtain ⟨hb9, h⟩ := okE h
    refine Y_iald (pc := 256) dX12_ends_256 (lk_122 hP4) (ln_122 hP4) hb9 ?_
    obtain ⟨hb10, h⟩ := okE h
    refine Y_iast (pc := 257) dX12_ends_257 (lk_100 hP4) (ln_100 hP4) hb10 ?_
    obtain ⟨M5, eM5, h⟩ := bndE h
    refine VV.mem eM5 ?_
    have hP5 := hP4.wI eM5
    refine Y_aload_n (pc := 258) (j := 1) dX12_ends_258 rfl rfl ?_
    refine Z_getr (pc := 259) dX12_ends_259 w8_109 (lk_69 hP5) fr_12_43 (lr_69_43 hP5) ?_
    refine Y_iload (pc := 262) (j := 0) dX12_ends_262 rfl ?_
    refine Y_iconst (pc := 264) (v := (-1 : Int32)) dX12_ends_264 rfl ?_
    obtain ⟨hb11, h⟩ := okE h
    refine Y_iast (pc := 265) dX12_ends_265 (lk_104 hP5) (ln_104 hP5) hb11 ?_
    obtain ⟨M6, eM6, h⟩ := bndE h
    refine VV.mem eM6 ?_
    have hP6 := hP5.wI eM6
    obtain ⟨b2, eb2, h⟩ := bndE h
    refine Y_iinc (pc := 266) (j := 3) (v := b2) (lv1 := [(3, .int b2), (4, .int b1), (0, .ref 69), (2, .int x2)]) dX12_ends_266 rfl eb2.symm (by decide) rfl ?_
    refine Y_goto (pc := 269) (tgt := 190) dX12_ends_269 (by decide) ?_
    refine VV.sub [2, 3, 0] rfl ?_
    exact hk190 _ _ _ hP6 h
theorem b_X12_ends_190 {x2 : Int32} (n : Nat) : ∀ (a : (Int32)) (M : Mem) (z : Unit × Mem), d_X12_ends_190 x2 n a M = some z → Lay M → VV Lay k_X12_ends 190 [(0, .ref 69), (2, .int x2), (3, .int a)] [] M z.2 (Qv (none) z.2) xF :=
  lp_ind (G := fun (a : (Int32)) (M : Mem) (z : Unit × Mem) => Lay M → VV Lay k_X12_ends 190 [(0, .ref 69), (2, .int x2), (3, .int a)] [] M z.2 (Qv (none) z.2) xF) (fun k hk a M z h hP => b_X12_ends_190b  (fun a M z hP h => hk a M z h hP) hP h) n
theorem b_X12_ends_157b {k157 : (Int32) → Mem → Option (Unit × Mem)} {x2 : Int32} {x3 : Int32} {M z} (hk157 : ∀ (a : (Int32)) (M : Mem) (z : Unit × Mem), Lay M → k157 a M = some z → VV Lay k_X12_ends 157 [(0, .ref 69), (2, .int x2), (3, .int a)] [] M z.2 (Qv (none) z.2) xF) (hP : Lay M) (h : d_X12_ends_157b k157 x2 x3 M = some z) : VV Lay k_X12_ends 157 [(0, .ref 69), (2, .int x2), (3, .int x3)] [] M z.2 (Qv (none) z.2) xF := by
  unfold d_X12_ends_157b at h
  refine Y_iload_n (pc := 157) (j := 2) dX12_ends_157 rfl rfl ?_
  refine Y_aload_n (pc := 158) (j := 0) dX12_ends_158 rfl rfl ?_
  refine Z_geti (pc := 159) dX12_ends_159 w8_142 (lk_69 hP) fi_12_76 ?_
  refine Y_icmp_ge (pc := 162) (tgt := 188) dX12_ends_162 (by decide) (fun hc1 => ?_) (fun hc1 => ?_)
  · replace h := ifT hc1 h
    refine Y_iconst (pc := 188) (v := (0 : Int32)) dX12_ends_188 rfl ?_
    refine Y_istore_n (pc := 189) (lv1 := [(3, .int (0 : Int32)), (0, .ref 69), (2, .int x2)]) dX12_ends_189 rfl (by decide) rfl ?_
    refine VV.sub [1, 2, 0] rfl ?_
    exact b_X12_ends_190  fuel _ _ _ h hP
  · replace h := ifF hc1 h
    refine Y_aload_n (pc := 165) (j := 0) dX12_ends_165 rfl rfl ?_
    refine Z_getr (pc := 166) dX12_ends_166 w8_95 (lk_69 hP) fr_12_29 (lr_69_29 hP) ?_
    refine Y_bipush (pc := 169) (v := (30 : Int32)) dX12_ends_169 rfl ?_
    refine Y_iload_n (pc := 171) (j := 1) dX12_ends_171 rfl rfl ?_
    refine Y_imul (pc := 172) dX12_ends_172 ?_
    refine Y_iload_n (pc := 173) (j := 2) dX12_ends_173 rfl rfl ?_
    refine Y_iadd (pc := 174) dX12_ends_174 ?_
    refine Y_aload_n (pc := 175) (j := 0) dX12_ends_175 rfl rfl ?_
    refine Z_getr (pc := 176) dX12_ends_176 w8_143 (lk_69 hP) fr_12_77 (lr_69_77 hP) ?_
    refine Y_iload_n (pc := 179) (j := 2) dX12_ends_179 rfl rfl ?_
    obtain ⟨hb1, h⟩ := okE h
    refine Y_iald (pc := 180) dX12_ends_180 (lk_118 hP) (ln_118 hP) hb1 ?_
    obtain ⟨hb2, h⟩ := okE h
    refine Y_iast (pc := 181) dX12_ends_181 (lk_91 hP) (ln_91 hP) hb2 ?_
    obtain ⟨M1, eM1, h⟩ := bndE h
    refine VV.mem eM1 ?_
    have hP1 := hP.wI eM1
    obtain ⟨b1, eb1, h⟩ := bndE h
    refine Y_iinc (pc := 182) (j := 2) (v := b1) (lv1 := [(3, .int b1), (0, .ref 69), (2, .int x2)]) dX12_ends_182 rfl eb1.symm (by decide) rfl ?_
    refine Y_goto (pc := 185) (tgt := 157) dX12_ends_185 (by decide) ?_
    refine VV.sub [1, 2, 0] rfl ?_
    exact hk157 _ _ _ hP1 h
theorem b_X12_ends_157 {x2 : Int32} (n : Nat) : ∀ (a : (Int32)) (M : Mem) (z : Unit × Mem), d_X12_ends_157 x2 n a M = some z → Lay M → VV Lay k_X12_ends 157 [(0, .ref 69), (2, .int x2), (3, .int a)] [] M z.2 (Qv (none) z.2) xF :=
  lp_ind (G := fun (a : (Int32)) (M : Mem) (z : Unit × Mem) => Lay M → VV Lay k_X12_ends 157 [(0, .ref 69), (2, .int x2), (3, .int a)] [] M z.2 (Qv (none) z.2) xF) (fun k hk a M z h hP => b_X12_ends_157b  (fun a M z hP h => hk a M z h hP) hP h) n
theorem b_X12_ends_144 {x2 : Int32} {s1 : Int32} {s2 : Int32} {M z} (hP : Lay M) (h : d_X12_ends_144 x2 s1 s2 M = some z) : VV Lay k_X12_ends 144 [(0, .ref 69), (2, .int x2)] [.int s2, .int s1, .ref 93] M z.2 (Qv (none) z.2) xF := by
  unfold d_X12_ends_144 at h
  obtain ⟨hb1, h⟩ := okE h
  refine Y_iast (pc := 144) dX12_ends_144 (lk_93 hP) (ln_93 hP) hb1 ?_
  obtain ⟨M1, eM1, h⟩ := bndE h
  refine VV.mem eM1 ?_
  have hP1 := hP.wI eM1
  refine Y_aload_n (pc := 145) (j := 0) dX12_ends_145 rfl rfl ?_
  refine Z_getr (pc := 146) dX12_ends_146 w8_98 (lk_69 hP1) fr_12_32 (lr_69_32 hP1) ?_
  refine Y_iload_n (pc := 149) (j := 1) dX12_ends_149 rfl rfl ?_
  refine Y_aload_n (pc := 150) (j := 0) dX12_ends_150 rfl rfl ?_
  refine Z_geti (pc := 151) dX12_ends_151 w8_140 (lk_69 hP1) fi_12_74 ?_
  obtain ⟨hb2, h⟩ := okE h
  refine Y_iast (pc := 154) dX12_ends_154 (lk_94 hP1) (ln_94 hP1) hb2 ?_
  obtain ⟨M2, eM2, h⟩ := bndE h
  refine VV.mem eM2 ?_
  have hP2 := hP1.wI eM2
  refine Y_iconst (pc := 155) (v := (0 : Int32)) dX12_ends_155 rfl ?_
  refine Y_istore_n (pc := 156) (lv1 := [(3, .int (0 : Int32)), (0, .ref 69), (2, .int x2)]) dX12_ends_156 rfl (by decide) rfl ?_
  refine VV.sub [1, 2, 0] rfl ?_
  exact b_X12_ends_157  fuel _ _ _ h hP2
theorem b_X12_ends_67 {x1 : Int32} {M z} (hP : Lay M) (h : d_X12_ends_67 x1 M = some z) : VV Lay k_X12_ends 67 [(0, .ref 69), (1, .int x1)] [] M z.2 (Qv (none) z.2) xF := by
  unfold d_X12_ends_67 at h
  refine Y_iload_n (pc := 67) (j := 1) dX12_ends_67 rfl rfl ?_
  refine Y_if_ne (pc := 68) (tgt := 76) dX12_ends_68 (by decide) (fun hc1 => ?_) (fun hc1 => ?_)
  · replace h := ifF hc1 h
    refine Y_aload_n (pc := 76) (j := 0) dX12_ends_76 rfl rfl ?_
    refine Z_geti (pc := 77) dX12_ends_77 w8_92 (lk_69 hP) fi_12_26 ?_
    obtain ⟨b1, eb1, h⟩ := bndE h
    refine VV.topI eb1 ?_
    refine Y_istore_n (pc := 80) (lv1 := [(2, .int b1), (0, .ref 69), (1, .int x1)]) dX12_ends_80 rfl (by decide) rfl ?_
    refine Y_aload_n (pc := 81) (j := 1) dX12_ends_81 rfl rfl ?_
    refine Y_iconst (pc := 82) (v := (0 : Int32)) dX12_ends_82 rfl ?_
    refine Z_putz (pc := 83) dX12_ends_83 w8_137 (lk_69 hP) fi_12_71 (Or.inl rfl) rfl (by decide) ?_
    obtain ⟨M1, eM1, h⟩ := bndE h
    refine VV.mem eM1 ?_
    have hP1 := hP.wI eM1
    refine Y_aload_n (pc := 86) (j := 1) dX12_ends_86 rfl rfl ?_
    refine Y_dup (pc := 87) dX12_ends_87 rfl ?_
    refine Z_geti (pc := 88) dX12_ends_88 w8_92 (lk_69 hP1) fi_12_26 ?_
    refine Y_iconst (pc := 91) (v := (1 : Int32)) dX12_ends_91 rfl ?_
    refine Y_iadd (pc := 92) dX12_ends_92 ?_
    refine Z_puti (pc := 93) dX12_ends_93 w8_92 (lk_69 hP1) fi_12_26 (Or.inl rfl) rfl ?_
    obtain ⟨M2, eM2, h⟩ := bndE h
    refine VV.mem eM2 ?_
    have hP2 := hP1.wI eM2
    refine Y_aload_n (pc := 96) (j := 1) dX12_ends_96 rfl rfl ?_
    refine Z_getr (pc := 97) dX12_ends_97 w8_93 (lk_69 hP2) fr_12_27 (lr_69_27 hP2) ?_
    refine Y_iload_n (pc := 100) (j := 0) dX12_ends_100 rfl rfl ?_
    refine Y_iconst (pc := 101) (v := (1 : Int32)) dX12_ends_101 rfl ?_
    obtain ⟨hb1, h⟩ := okE h
    refine Y_zast (pc := 102) dX12_ends_102 (lk_89 hP2) (ln_89 hP2) hb1 (nar_bo (by decide)) ?_
    obtain ⟨M3, eM3, h⟩ := bndE h
    refine VV.mem eM3 ?_
    have hP3 := hP2.wI eM3
    refine Y_aload_n (pc := 103) (j := 1) dX12_ends_103 rfl rfl ?_
    refine Z_getr (pc := 104) dX12_ends_104 w8_94 (lk_69 hP3) fr_12_28 (lr_69_28 hP3) ?_
    refine Y_iload_n (pc := 107) (j := 0) dX12_ends_107 rfl rfl ?_
    refine Y_aload_n (pc := 108) (j := 1) dX12_ends_108 rfl rfl ?_
    refine Z_geti (pc := 109) dX12_ends_109 w8_142 (lk_69 hP3) fi_12_76 ?_
    obtain ⟨hb2, h⟩ := okE h
    refine Y_iast (pc := 112) dX12_ends_112 (lk_90 hP3) (ln_90 hP3) hb2 ?_
    obtain ⟨M4, eM4, h⟩ := bndE h
    refine VV.mem eM4 ?_
    have hP4 := hP3.wI eM4
    refine Y_aload_n (pc := 113) (j := 1) dX12_ends_113 rfl rfl ?_
    refine Z_getr (pc := 114) dX12_ends_114 w8_96 (lk_69 hP4) fr_12_30 (lr_69_30 hP4) ?_
    refine Y_iload_n (pc := 117) (j := 0) dX12_ends_117 rfl rfl ?_
    refine Y_aload_n (pc := 118) (j := 1) dX12_ends_118 rfl rfl ?_
    refine Z_geti (pc := 119) dX12_ends_119 w8_144 (lk_69 hP4) fi_12_78 ?_
    obtain ⟨hb3, h⟩ := okE h
    refine Y_iast (pc := 122) dX12_ends_122 (lk_92 hP4) (ln_92 hP4) hb3 ?_
    obtain ⟨M5, eM5, h⟩ := bndE h
    refine VV.mem eM5 ?_
    have hP5 := hP4.wI eM5
    refine Y_aload_n (pc := 123) (j := 1) dX12_ends_123 rfl rfl ?_
    refine Z_getr (pc := 124) dX12_ends_124 w8_97 (lk_69 hP5) fr_12_31 (lr_69_31 hP5) ?_
    refine Y_iload_n (pc := 127) (j := 0) dX12_ends_127 rfl rfl ?_
    refine Y_aload_n (pc := 128) (j := 1) dX12_ends_128 rfl rfl ?_
    refine Z_geti (pc := 129) dX12_ends_129 w8_138 (lk_69 hP5) fi_12_72 ?_
    refine Y_iconst (pc := 132) (v := (-1 : Int32)) dX12_ends_132 rfl ?_
    refine Y_icmp_ne (pc := 133) (tgt := 140) dX12_ends_133 (by decide) (fun hc2 => ?_) (fun hc2 => ?_)
    · replace h := ifF hc2 h
      refine Y_aload_n (pc := 140) (j := 1) dX12_ends_140 rfl rfl ?_
      refine Z_geti (pc := 141) dX12_ends_141 w8_138 (lk_69 hP5) fi_12_72 ?_
      refine VV.sub [1, 0] rfl ?_
      exact b_X12_ends_144  hP5 h
    · replace h := ifT hc2 h
      refine Y_iload_n (pc := 136) (j := 0) dX12_ends_136 rfl rfl ?_
      refine Y_goto (pc := 137) (tgt := 144) dX12_ends_137 (by decide) ?_
      refine VV.sub [1, 0] rfl ?_
      exact b_X12_ends_144  hP5 h
  · replace h := ifT hc1 h
    refine Y_aload_n (pc := 71) (j := 0) dX12_ends_71 rfl rfl ?_
    obtain ⟨y1, qy1, h⟩ := bindE h
    have cy1 := v_X12_breaksOff hP qy1
    refine C_V0o (pc := 72) (k' := k_X12_breaksOff) dX12_ends_72 w9_180 i_X12_breaksOff (lk_69 hP) ⟨Nat.le_of_ble_eq_true rfl, Nat.le_of_ble_eq_true rfl⟩ rfl (Nat.le_of_ble_eq_true rfl) (Nat.le_of_ble_eq_true rfl) (Nat.le_of_ble_eq_true rfl) (cy1) ?_
    have hPy1 := cy1.1.1
    cases h
    exact Y_vret (pc := 75) rfl dX12_ends_75 hPy1 ⟨rfl, rfl⟩
theorem b_X12_ends_64 {k15 : (Int32) → Mem → Option (Unit × Mem)} {x1 : Int32} {M z} (hk15 : ∀ (a : (Int32)) (M : Mem) (z : Unit × Mem), Lay M → k15 a M = some z → VV Lay k_X12_ends 15 [(0, .ref 69), (1, .int a)] [] M z.2 (Qv (none) z.2) xF) (hP : Lay M) (h : d_X12_ends_64 k15 x1 M = some z) : VV Lay k_X12_ends 64 [(0, .ref 69), (1, .int x1)] [] M z.2 (Qv (none) z.2) xF := by
  unfold d_X12_ends_64 at h
  refine Y_goto (pc := 64) (tgt := 15) dX12_ends_64 (by decide) ?_
  refine VV.sub [0, 1] rfl ?_
  exact hk15 _ _ _ hP h
theorem b_X12_ends_54 {k15 : (Int32) → Mem → Option (Unit × Mem)} {x2 : Int32} {s0 : Int32} {M z} (hk15 : ∀ (a : (Int32)) (M : Mem) (z : Unit × Mem), Lay M → k15 a M = some z → VV Lay k_X12_ends 15 [(0, .ref 69), (1, .int a)] [] M z.2 (Qv (none) z.2) xF) (hP : Lay M) (h : d_X12_ends_54 k15 x2 s0 M = some z) : VV Lay k_X12_ends 54 [(0, .ref 69), (2, .int x2)] [.int s0] M z.2 (Qv (none) z.2) xF := by
  unfold d_X12_ends_54 at h
  refine Y_istore_n (pc := 54) (lv1 := [(1, .int s0), (0, .ref 69), (2, .int x2)]) dX12_ends_54 rfl (by decide) rfl ?_
  refine Y_iload_n (pc := 55) (j := 0) dX12_ends_55 rfl rfl ?_
  refine Y_if_eq (pc := 56) (tgt := 64) dX12_ends_56 (by decide) (fun hc1 => ?_) (fun hc1 => ?_)
  · replace h := ifT hc1 h
    refine VV.sub [1, 0] rfl ?_
    exact b_X12_ends_64 hk15 hP h
  · replace h := ifF hc1 h
    refine Y_aload_n (pc := 59) (j := 1) dX12_ends_59 rfl rfl ?_
    refine Y_iload_n (pc := 60) (j := 2) dX12_ends_60 rfl rfl ?_
    obtain ⟨y1, qy1, h⟩ := bindE h
    have cy1 := v_X12_throwAway hP qy1
    refine C_V1o (pc := 61) (k' := k_X12_throwAway) dX12_ends_61 w9_152 i_X12_throwAway (lk_69 hP) ⟨Nat.le_of_ble_eq_true rfl, Nat.le_of_ble_eq_true rfl⟩ rfl (Nat.le_of_ble_eq_true rfl) (Nat.le_of_ble_eq_true rfl) (Nat.le_of_ble_eq_true rfl) (cy1) ?_
    have hPy1 := cy1.1.1
    refine VV.sub [1, 0] rfl ?_
    exact b_X12_ends_64 hk15 hPy1 h
theorem b_X12_ends_15b {k15 : (Int32) → Mem → Option (Unit × Mem)} {x1 : Int32} {M z} (hk15 : ∀ (a : (Int32)) (M : Mem) (z : Unit × Mem), Lay M → k15 a M = some z → VV Lay k_X12_ends 15 [(0, .ref 69), (1, .int a)] [] M z.2 (Qv (none) z.2) xF) (hP : Lay M) (h : d_X12_ends_15b k15 x1 M = some z) : VV Lay k_X12_ends 15 [(0, .ref 69), (1, .int x1)] [] M z.2 (Qv (none) z.2) xF := by
  unfold d_X12_ends_15b at h
  refine Y_iload_n (pc := 15) (j := 1) dX12_ends_15 rfl rfl ?_
  refine Y_if_eq (pc := 16) (tgt := 67) dX12_ends_16 (by decide) (fun hc1 => ?_) (fun hc1 => ?_)
  · replace h := ifT hc1 h
    refine VV.sub [0, 1] rfl ?_
    exact b_X12_ends_67  hP h
  · replace h := ifF hc1 h
    refine Y_aload_n (pc := 19) (j := 0) dX12_ends_19 rfl rfl ?_
    obtain ⟨y1, qy1, h⟩ := bindE h
    have cy1 := v_X12_size hP qy1
    refine C_V0r (pc := 20) (k' := k_X12_size) dX12_ends_20 w9_164 i_X12_size (lk_69 hP) ⟨Nat.le_of_ble_eq_true rfl, Nat.le_of_ble_eq_true rfl⟩ rfl (Nat.le_of_ble_eq_true rfl) (Nat.le_of_ble_eq_true rfl) (Nat.le_of_ble_eq_true rfl) (cy1) ?_
    have hPy1 := cy1.1.1
    refine Y_aload_n (pc := 23) (j := 0) dX12_ends_23 rfl rfl ?_
    refine Z_geti (pc := 24) dX12_ends_24 w8_142 (lk_69 hPy1) fi_12_76 ?_
    refine Y_iadd (pc := 27) dX12_ends_27 ?_
    refine Y_aload_n (pc := 28) (j := 0) dX12_ends_28 rfl rfl ?_
    refine Z_geti (pc := 29) dX12_ends_29 w8_91 (lk_69 hPy1) fi_12_25 ?_
    refine Y_icmp_le (pc := 32) (tgt := 67) dX12_ends_32 (by decide) (fun hc2 => ?_) (fun hc2 => ?_)
    · replace h := ifT hc2 h
      refine VV.sub [0, 1] rfl ?_
      exact b_X12_ends_67  hPy1 h
    · replace h := ifF hc2 h
      refine Y_aload_n (pc := 35) (j := 0) dX12_ends_35 rfl rfl ?_
      refine Y_aload_n (pc := 36) (j := 0) dX12_ends_36 rfl rfl ?_
      refine Z_geti (pc := 37) dX12_ends_37 w8_138 (lk_69 hPy1) fi_12_72 ?_
      obtain ⟨y2, qy2, h⟩ := bindE h
      have cy2 := v_X12_oldest hPy1 qy2
      refine C_V1r (pc := 40) (k' := k_X12_oldest) dX12_ends_40 w9_168 i_X12_oldest (lk_69 hPy1) ⟨Nat.le_of_ble_eq_true rfl, Nat.le_of_ble_eq_true rfl⟩ rfl (Nat.le_of_ble_eq_true rfl) (Nat.le_of_ble_eq_true rfl) (Nat.le_of_ble_eq_true rfl) (cy2) ?_
      have hPy2 := cy2.1.1
      refine Y_istore_n (pc := 43) (lv1 := [(2, .int y2.1), (0, .ref 69), (1, .int x1)]) dX12_ends_43 rfl (by decide) rfl ?_
      refine Y_iload_n (pc := 44) (j := 0) dX12_ends_44 rfl rfl ?_
      refine Y_iconst (pc := 45) (v := (-1 : Int32)) dX12_ends_45 rfl ?_
      refine Y_icmp_eq (pc := 46) (tgt := 53) dX12_ends_46 (by decide) (fun hc3 => ?_) (fun hc3 => ?_)
      · replace h := ifT hc3 h
        refine Y_iconst (pc := 53) (v := (0 : Int32)) dX12_ends_53 rfl ?_
        refine VV.sub [1, 0] rfl ?_
        exact b_X12_ends_54 hk15 hPy2 h
      · replace h := ifF hc3 h
        refine Y_iconst (pc := 49) (v := (1 : Int32)) dX12_ends_49 rfl ?_
        refine Y_goto (pc := 50) (tgt := 54) dX12_ends_50 (by decide) ?_
        refine VV.sub [1, 0] rfl ?_
        exact b_X12_ends_54 hk15 hPy2 h
theorem b_X12_ends_15 (n : Nat) : ∀ (a : (Int32)) (M : Mem) (z : Unit × Mem), d_X12_ends_15 n a M = some z → Lay M → VV Lay k_X12_ends 15 [(0, .ref 69), (1, .int a)] [] M z.2 (Qv (none) z.2) xF :=
  lp_ind (G := fun (a : (Int32)) (M : Mem) (z : Unit × Mem) => Lay M → VV Lay k_X12_ends 15 [(0, .ref 69), (1, .int a)] [] M z.2 (Qv (none) z.2) xF) (fun k hk a M z h hP => b_X12_ends_15b  (fun a M z hP h => hk a M z h hP) hP h) n
theorem b_X12_ends_14 {s0 : Int32} {M z} (hP : Lay M) (h : d_X12_ends_14 s0 M = some z) : VV Lay k_X12_ends 14 [(0, .ref 69)] [.int s0] M z.2 (Qv (none) z.2) xF := by
  unfold d_X12_ends_14 at h
  refine Y_istore_n (pc := 14) (lv1 := [(1, .int s0), (0, .ref 69)]) dX12_ends_14 rfl (by decide) rfl ?_
  refine VV.sub [1, 0] rfl ?_
  exact b_X12_ends_15  fuel _ _ _ h hP
theorem b_X12_ends {M z} (hP : Lay M) (h : d_X12_ends M = some z) : VV Lay k_X12_ends 0 [(0, .ref 69)] [] M z.2 (Qv (none) z.2) xF := by
  unfold d_X12_ends at h
  refine Y_aload_n (pc := 0) (j := 0) dX12_ends_0 rfl rfl ?_
  refine Z_geti (pc := 1) dX12_ends_1 w8_92 (lk_69 hP) fi_12_26 ?_
  refine Y_bipush (pc := 4) (v := (20 : Int32)) dX12_ends_4 rfl ?_
  refine Y_icmp_ge (pc := 6) (tgt := 13) dX12_ends_6 (by decide) (fun hc1 => ?_) (fun hc1 => ?_)
  · replace h := ifT hc1 h
    refine Y_iconst (pc := 13) (v := (0 : Int32)) dX12_ends_13 rfl ?_
    refine VV.sub [0] rfl ?_
    exact b_X12_ends_14  hP h
  · replace h := ifF hc1 h
    refine Y_iconst (pc := 9) (v := (1 : Int32)) dX12_ends_9 rfl ?_
    refine Y_goto (pc := 10) (tgt := 14) dX12_ends_10 (by decide) ?_
    refine VV.sub [0] rfl ?_
    exact b_X12_ends_14  hP h
theorem v_X12_ends {M z} (hP : Lay M) (h : d_X12_ends M = some z) : CC Lay k_X12_ends [.ref 69] M z.2 (Qv (none) z.2) xF :=
  CC.ofVV (by decide) rfl (Nat.le_of_ble_eq_true rfl) (b_X12_ends hP h)
theorem b_X12_takes_87 {s0 : Int32} {M z} (hP : Lay M) (h : d_X12_takes_87 s0 M = some z) : VV Lay k_X12_takes 87 [] [.int s0] M z.2 (Qv (some (.int z.1)) z.2) xF := by
  unfold d_X12_takes_87 at h
  refine Y_istore_n (pc := 87) (lv1 := [(3, .int s0)]) dX12_takes_87 rfl (by decide) rfl ?_
  refine Y_iload_n (pc := 88) (j := 0) dX12_takes_88 rfl rfl ?_
  refine Y_if_eq (pc := 89) (tgt := 96) dX12_takes_89 (by decide) (fun hc1 => ?_) (fun hc1 => ?_)
  · replace h := ifT hc1 h
    refine Y_iconst (pc := 96) (v := (0 : Int32)) dX12_takes_96 rfl ?_
    cases h
    exact Y_iret (pc := 97) rfl rfl dX12_takes_97 hP ⟨rfl, rfl⟩
  · replace h := ifF hc1 h
    refine Y_iconst (pc := 92) (v := (1 : Int32)) dX12_takes_92 rfl ?_
    refine Y_goto (pc := 93) (tgt := 97) dX12_takes_93 (by decide) ?_
    cases h
    exact Y_iret (pc := 97) rfl rfl dX12_takes_97 hP ⟨rfl, rfl⟩
theorem b_X12_takes_82 {M z} (hP : Lay M) (h : d_X12_takes_82 M = some z) : VV Lay k_X12_takes 82 [] [] M z.2 (Qv (some (.int z.1)) z.2) xF := by
  unfold d_X12_takes_82 at h
  refine Y_iconst (pc := 82) (v := (1 : Int32)) dX12_takes_82 rfl ?_
  refine Y_goto (pc := 83) (tgt := 87) dX12_takes_83 (by decide) ?_
  refine VV.sub [] rfl ?_
  exact b_X12_takes_87  hP h
theorem b_X12_takes {x1 : Int32} {x2 : Int32} {M z} (hP : Lay M) (h : d_X12_takes x1 x2 M = some z) : VV Lay k_X12_takes 0 [(0, .ref 69), (1, .int x1), (2, .int x2)] [] M z.2 (Qv (some (.int z.1)) z.2) xF := by
  unfold d_X12_takes at h
  refine Y_iload_n (pc := 0) (j := 1) dX12_takes_0 rfl rfl ?_
  obtain ⟨y1, qy1, h⟩ := bindE h
  have cy1 := v_X12_isPair hP qy1
  refine C_S1r (pc := 1) (k' := k_X12_isPair) dX12_takes_1 w9_129 i_X12_isPair (Nat.le_of_ble_eq_true rfl) (Nat.le_of_ble_eq_true rfl) (Nat.le_of_ble_eq_true rfl) (cy1) ?_
  have hPy1 := cy1.1.1
  refine Y_if_ne (pc := 4) (tgt := 13) dX12_takes_4 (by decide) (fun hc1 => ?_) (fun hc1 => ?_)
  · replace h := ifF hc1 h
    refine Y_iconst (pc := 13) (v := (2 : Int32)) dX12_takes_13 rfl ?_
    cases h
    exact Y_iret (pc := 14) rfl rfl dX12_takes_14 hPy1 ⟨rfl, rfl⟩
  · replace h := ifT hc1 h
    refine Y_iload_n (pc := 7) (j := 1) dX12_takes_7 rfl rfl ?_
    refine Y_bipush (pc := 8) (v := (112 : Int32)) dX12_takes_8 rfl ?_
    refine Y_icmp_ne (pc := 10) (tgt := 15) dX12_takes_10 (by decide) (fun hc2 => ?_) (fun hc2 => ?_)
    · replace h := ifF hc2 h
      refine Y_iload_n (pc := 15) (j := 1) dX12_takes_15 rfl rfl ?_
      refine Y_bipush (pc := 16) (v := (99 : Int32)) dX12_takes_16 rfl ?_
      refine Y_icmp_ne (pc := 18) (tgt := 28) dX12_takes_18 (by decide) (fun hc3 => ?_) (fun hc3 => ?_)
      · replace h := ifF hc3 h
        refine Y_iload_n (pc := 28) (j := 1) dX12_takes_28 rfl rfl ?_
        refine Y_bipush (pc := 29) (v := (115 : Int32)) dX12_takes_29 rfl ?_
        refine Y_icmp_eq (pc := 31) (tgt := 82) dX12_takes_31 (by decide) (fun hc4 => ?_) (fun hc4 => ?_)
        · replace h := ifT hc4 h
          refine VV.sub [] rfl ?_
          exact b_X12_takes_82  hPy1 h
        · replace h := ifF hc4 h
          refine Y_iload_n (pc := 34) (j := 1) dX12_takes_34 rfl rfl ?_
          refine Y_bipush (pc := 35) (v := (117 : Int32)) dX12_takes_35 rfl ?_
          refine Y_icmp_eq (pc := 37) (tgt := 82) dX12_takes_37 (by decide) (fun hc5 => ?_) (fun hc5 => ?_)
          · replace h := ifT hc5 h
            refine VV.sub [] rfl ?_
            exact b_X12_takes_82  hPy1 h
          · replace h := ifF hc5 h
            refine Y_iload_n (pc := 40) (j := 1) dX12_takes_40 rfl rfl ?_
            refine Y_bipush (pc := 41) (v := (100 : Int32)) dX12_takes_41 rfl ?_
            refine Y_icmp_eq (pc := 43) (tgt := 82) dX12_takes_43 (by decide) (fun hc6 => ?_) (fun hc6 => ?_)
            · replace h := ifT hc6 h
              refine VV.sub [] rfl ?_
              exact b_X12_takes_82  hPy1 h
            · replace h := ifF hc6 h
              refine Y_iload_n (pc := 46) (j := 1) dX12_takes_46 rfl rfl ?_
              refine Y_bipush (pc := 47) (v := (119 : Int32)) dX12_takes_47 rfl ?_
              refine Y_icmp_eq (pc := 49) (tgt := 82) dX12_takes_49 (by decide) (fun hc7 => ?_) (fun hc7 => ?_)
              · replace h := ifT hc7 h
                refine VV.sub [] rfl ?_
                exact b_X12_takes_82  hPy1 h
              · replace h := ifF hc7 h
                refine Y_iload_n (pc := 52) (j := 1) dX12_takes_52 rfl rfl ?_
                refine Y_bipush (pc := 53) (v := (122 : Int32)) dX12_takes_53 rfl ?_
                refine Y_icmp_eq (pc := 55) (tgt := 82) dX12_takes_55 (by decide) (fun hc8 => ?_) (fun hc8 => ?_)
                · replace h := ifT hc8 h
                  refine VV.sub [] rfl ?_
                  exact b_X12_takes_82  hPy1 h
                · replace h := ifF hc8 h
                  refine Y_iload_n (pc := 58) (j := 1) dX12_takes_58 rfl rfl ?_
                  refine Y_bipush (pc := 59) (v := (103 : Int32)) dX12_takes_59 rfl ?_
                  refine Y_icmp_eq (pc := 61) (tgt := 82) dX12_takes_61 (by decide) (fun hc9 => ?_) (fun hc9 => ?_)
                  · replace h := ifT hc9 h
                    refine VV.sub [] rfl ?_
                    exact b_X12_takes_82  hPy1 h
                  · replace h := ifF hc9 h
                    refine Y_iload_n (pc := 64) (j := 1) dX12_takes_64 rfl rfl ?_
                    refine Y_bipush (pc := 65) (v := (109 : Int32)) dX12_takes_65 rfl ?_
                    refine Y_icmp_eq (pc := 67) (tgt := 82) dX12_takes_67 (by decide) (fun hc10 => ?_) (fun hc10 => ?_)
                    · replace h := ifT hc10 h
                      refine VV.sub [] rfl ?_
                      exact b_X12_takes_82  hPy1 h
                    · replace h := ifF hc10 h
                      refine Y_iload_n (pc := 70) (j := 1) dX12_takes_70 rfl rfl ?_
                      refine Y_bipush (pc := 71) (v := (114 : Int32)) dX12_takes_71 rfl ?_
                      refine Y_icmp_eq (pc := 73) (tgt := 82) dX12_takes_73 (by decide) (fun hc11 => ?_) (fun hc11 => ?_)
                      · replace h := ifT hc11 h
                        refine VV.sub [] rfl ?_
                        exact b_X12_takes_82  hPy1 h
                      · replace h := ifF hc11 h
                        refine Y_iload_n (pc := 76) (j := 1) dX12_takes_76 rfl rfl ?_
                        refine Y_bipush (pc := 77) (v := (116 : Int32)) dX12_takes_77 rfl ?_
                        refine Y_icmp_ne (pc := 79) (tgt := 86) dX12_takes_79 (by decide) (fun hc12 => ?_) (fun hc12 => ?_)
                        · replace h := ifF hc12 h
                          refine Y_iconst (pc := 86) (v := (0 : Int32)) dX12_takes_86 rfl ?_
                          refine VV.sub [] rfl ?_
                          exact b_X12_takes_87  hPy1 h
                        · replace h := ifT hc12 h
                          refine VV.sub [] rfl ?_
                          exact b_X12_takes_82  hPy1 h
      · replace h := ifT hc3 h
        refine Y_aload_n (pc := 21) (j := 0) dX12_takes_21 rfl rfl ?_
        refine Z_getr (pc := 22) dX12_takes_22 w8_68 (lk_69 hPy1) fr_12_2 (lr_69_2 hPy1) ?_
        refine Y_iload_n (pc := 25) (j := 2) dX12_takes_25 rfl rfl ?_
        obtain ⟨hb1, h⟩ := okE h
        refine Y_iald (pc := 26) dX12_takes_26 (lk_70 hPy1) (ln_70 hPy1) hb1 ?_
        cases h
        exact Y_iret (pc := 27) rfl rfl dX12_takes_27 hPy1 ⟨rfl, rfl⟩
    · replace h := ifT hc2 h
      refine Y_iconst (pc := 13) (v := (2 : Int32)) dX12_takes_13 rfl ?_
      cases h
      exact Y_iret (pc := 14) rfl rfl dX12_takes_14 hPy1 ⟨rfl, rfl⟩
theorem v_X12_takes {x1 : Int32} {x2 : Int32} {M z} (hP : Lay M) (h : d_X12_takes x1 x2 M = some z) : CC Lay k_X12_takes [.ref 69, .int x1, .int x2] M z.2 (Qv (some (.int z.1)) z.2) xF :=
  CC.ofVV (by decide) rfl (Nat.le_of_ble_eq_true rfl) (b_X12_takes hP h)
theorem b_X12_hasNoRoom_70 {s0 : Int32} {M z} (hP : Lay M) (h : d_X12_hasNoRoom_70 s0 M = some z) : VV Lay k_X12_hasNoRoom 70 [(0, .ref 69)] [.int s0] M z.2 (Qv (some (.int z.1)) z.2) xF := by
  unfold d_X12_hasNoRoom_70 at h
  refine Y_istore_n (pc := 70) (lv1 := [(2, .int s0), (0, .ref 69)]) dX12_hasNoRoom_70 rfl (by decide) rfl ?_
  refine Y_iload_n (pc := 71) (j := 0) dX12_hasNoRoom_71 rfl rfl ?_
  refine Y_if_eq (pc := 72) (tgt := 93) dX12_hasNoRoom_72 (by decide) (fun hc1 => ?_) (fun hc1 => ?_)
  · replace h := ifT hc1 h
    refine Y_iconst (pc := 93) (v := (0 : Int32)) dX12_hasNoRoom_93 rfl ?_
    cases h
    exact Y_iret (pc := 94) rfl (nar_bo (by decide)) dX12_hasNoRoom_94 hP ⟨rfl, rfl⟩
  · replace h := ifF hc1 h
    refine Y_aload_n (pc := 75) (j := 1) dX12_hasNoRoom_75 rfl rfl ?_
    refine Z_getr (pc := 76) dX12_hasNoRoom_76 w8_117 (lk_69 hP) fr_12_51 (lr_69_51 hP) ?_
    refine Y_aload_n (pc := 79) (j := 1) dX12_hasNoRoom_79 rfl rfl ?_
    refine Z_geti (pc := 80) dX12_hasNoRoom_80 w8_114 (lk_69 hP) fi_12_48 ?_
    obtain ⟨hb1, h⟩ := okE h
    refine Y_iald (pc := 83) dX12_hasNoRoom_83 (lk_111 hP) (ln_111 hP) hb1 ?_
    refine Y_bipush (pc := 84) (v := (8 : Int32)) dX12_hasNoRoom_84 rfl ?_
    refine Y_icmp_ne (pc := 86) (tgt := 93) dX12_hasNoRoom_86 (by decide) (fun hc2 => ?_) (fun hc2 => ?_)
    · replace h := ifF hc2 h
      refine Y_iconst (pc := 93) (v := (0 : Int32)) dX12_hasNoRoom_93 rfl ?_
      cases h
      exact Y_iret (pc := 94) rfl (nar_bo (by decide)) dX12_hasNoRoom_94 hP ⟨rfl, rfl⟩
    · replace h := ifT hc2 h
      refine Y_iconst (pc := 89) (v := (1 : Int32)) dX12_hasNoRoom_89 rfl ?_
      refine Y_goto (pc := 90) (tgt := 94) dX12_hasNoRoom_90 (by decide) ?_
      cases h
      exact Y_iret (pc := 94) rfl (nar_bo (by decide)) dX12_hasNoRoom_94 hP ⟨rfl, rfl⟩
theorem b_X12_hasNoRoom_65 {M z} (hP : Lay M) (h : d_X12_hasNoRoom_65 M = some z) : VV Lay k_X12_hasNoRoom 65 [(0, .ref 69)] [] M z.2 (Qv (some (.int z.1)) z.2) xF := by
  unfold d_X12_hasNoRoom_65 at h
  refine Y_iconst (pc := 65) (v := (1 : Int32)) dX12_hasNoRoom_65 rfl ?_
  refine Y_goto (pc := 66) (tgt := 70) dX12_hasNoRoom_66 (by decide) ?_
  refine VV.sub [0] rfl ?_
  exact b_X12_hasNoRoom_70  hP h
theorem b_X12_hasNoRoom {x1 : Int32} {M z} (hP : Lay M) (h : d_X12_hasNoRoom x1 M = some z) : VV Lay k_X12_hasNoRoom 0 [(0, .ref 69), (1, .int x1)] [] M z.2 (Qv (some (.int z.1)) z.2) xF := by
  unfold d_X12_hasNoRoom at h
  refine Y_iload_n (pc := 0) (j := 1) dX12_hasNoRoom_0 rfl rfl ?_
  refine Y_bipush (pc := 1) (v := (114 : Int32)) dX12_hasNoRoom_1 rfl ?_
  refine Y_icmp_ne (pc := 3) (tgt := 35) dX12_hasNoRoom_3 (by decide) (fun hc1 => ?_) (fun hc1 => ?_)
  · replace h := ifF hc1 h
    refine Y_iload_n (pc := 35) (j := 1) dX12_hasNoRoom_35 rfl rfl ?_
    refine Y_bipush (pc := 36) (v := (105 : Int32)) dX12_hasNoRoom_36 rfl ?_
    refine Y_icmp_eq (pc := 38) (tgt := 65) dX12_hasNoRoom_38 (by decide) (fun hc2 => ?_) (fun hc2 => ?_)
    · replace h := ifT hc2 h
      refine VV.sub [0] rfl ?_
      exact b_X12_hasNoRoom_65  hP h
    · replace h := ifF hc2 h
      refine Y_iload_n (pc := 41) (j := 1) dX12_hasNoRoom_41 rfl rfl ?_
      refine Y_bipush (pc := 42) (v := (107 : Int32)) dX12_hasNoRoom_42 rfl ?_
      refine Y_icmp_eq (pc := 44) (tgt := 65) dX12_hasNoRoom_44 (by decide) (fun hc3 => ?_) (fun hc3 => ?_)
      · replace h := ifT hc3 h
        refine VV.sub [0] rfl ?_
        exact b_X12_hasNoRoom_65  hP h
      · replace h := ifF hc3 h
        refine Y_iload_n (pc := 47) (j := 1) dX12_hasNoRoom_47 rfl rfl ?_
        refine Y_bipush (pc := 48) (v := (108 : Int32)) dX12_hasNoRoom_48 rfl ?_
        refine Y_icmp_eq (pc := 50) (tgt := 65) dX12_hasNoRoom_50 (by decide) (fun hc4 => ?_) (fun hc4 => ?_)
        · replace h := ifT hc4 h
          refine VV.sub [0] rfl ?_
          exact b_X12_hasNoRoom_65  hP h
        · replace h := ifF hc4 h
          refine Y_iload_n (pc := 53) (j := 1) dX12_hasNoRoom_53 rfl rfl ?_
          refine Y_bipush (pc := 54) (v := (117 : Int32)) dX12_hasNoRoom_54 rfl ?_
          refine Y_icmp_eq (pc := 56) (tgt := 65) dX12_hasNoRoom_56 (by decide) (fun hc5 => ?_) (fun hc5 => ?_)
          · replace h := ifT hc5 h
            refine VV.sub [0] rfl ?_
            exact b_X12_hasNoRoom_65  hP h
          · replace h := ifF hc5 h
            refine Y_iload_n (pc := 59) (j := 1) dX12_hasNoRoom_59 rfl rfl ?_
            refine Y_bipush (pc := 60) (v := (110 : Int32)) dX12_hasNoRoom_60 rfl ?_
            refine Y_icmp_ne (pc := 62) (tgt := 69) dX12_hasNoRoom_62 (by decide) (fun hc6 => ?_) (fun hc6 => ?_)
            · replace h := ifF hc6 h
              refine Y_iconst (pc := 69) (v := (0 : Int32)) dX12_hasNoRoom_69 rfl ?_
              refine VV.sub [0] rfl ?_
              exact b_X12_hasNoRoom_70  hP h
            · replace h := ifT hc6 h
              refine VV.sub [0] rfl ?_
              exact b_X12_hasNoRoom_65  hP h
  · replace h := ifT hc1 h
    refine Y_aload_n (pc := 6) (j := 0) dX12_hasNoRoom_6 rfl rfl ?_
    refine Z_geti (pc := 7) dX12_hasNoRoom_7 w8_114 (lk_69 hP) fi_12_48 ?_
    refine Y_if_le (pc := 10) (tgt := 33) dX12_hasNoRoom_10 (by decide) (fun hc7 => ?_) (fun hc7 => ?_)
    · replace h := ifT hc7 h
      refine Y_iconst (pc := 33) (v := (0 : Int32)) dX12_hasNoRoom_33 rfl ?_
      cases h
      exact Y_iret (pc := 34) rfl (nar_bo (by decide)) dX12_hasNoRoom_34 hP ⟨rfl, rfl⟩
    · replace h := ifF hc7 h
      refine Y_aload_n (pc := 13) (j := 0) dX12_hasNoRoom_13 rfl rfl ?_
      refine Z_getr (pc := 14) dX12_hasNoRoom_14 w8_117 (lk_69 hP) fr_12_51 (lr_69_51 hP) ?_
      refine Y_aload_n (pc := 17) (j := 0) dX12_hasNoRoom_17 rfl rfl ?_
      refine Z_geti (pc := 18) dX12_hasNoRoom_18 w8_114 (lk_69 hP) fi_12_48 ?_
      refine Y_iconst (pc := 21) (v := (1 : Int32)) dX12_hasNoRoom_21 rfl ?_
      refine Y_isub (pc := 22) dX12_hasNoRoom_22 ?_
      obtain ⟨hb1, h⟩ := okE h
      refine Y_iald (pc := 23) dX12_hasNoRoom_23 (lk_111 hP) (ln_111 hP) hb1 ?_
      refine Y_bipush (pc := 24) (v := (8 : Int32)) dX12_hasNoRoom_24 rfl ?_
      refine Y_icmp_ne (pc := 26) (tgt := 33) dX12_hasNoRoom_26 (by decide) (fun hc8 => ?_) (fun hc8 => ?_)
      · replace h := ifF hc8 h
        refine Y_iconst (pc := 33) (v := (0 : Int32)) dX12_hasNoRoom_33 rfl ?_
        cases h
        exact Y_iret (pc := 34) rfl (nar_bo (by decide)) dX12_hasNoRoom_34 hP ⟨rfl, rfl⟩
      · replace h := ifT hc8 h
        refine Y_iconst (pc := 29) (v := (1 : Int32)) dX12_hasNoRoom_29 rfl ?_
        refine Y_goto (pc := 30) (tgt := 34) dX12_hasNoRoom_30 (by decide) ?_
        cases h
        exact Y_iret (pc := 34) rfl (nar_bo (by decide)) dX12_hasNoRoom_34 hP ⟨rfl, rfl⟩
theorem v_X12_hasNoRoom {x1 : Int32} {M z} (hP : Lay M) (h : d_X12_hasNoRoom x1 M = some z) : CC Lay k_X12_hasNoRoom [.ref 69, .int x1] M z.2 (Qv (some (.int z.1)) z.2) xF :=
  CC.ofVV (by decide) rfl (Nat.le_of_ble_eq_true rfl) (b_X12_hasNoRoom hP h)
theorem b_X12_why_459 {x3 : Int32} {M z} (hP : Lay M) (h : d_X12_why_459 x3 M = some z) : VV Lay k_X12_why 459 [(0, .ref 69), (3, .int x3)] [] M z.2 (Qv (some (.int z.1)) z.2) xF := by
  unfold d_X12_why_459 at h
  refine Y_iload_n (pc := 459) (j := 1) dX12_why_459 rfl rfl ?_
  refine Y_bipush (pc := 460) (v := (110 : Int32)) dX12_why_460 rfl ?_
  refine Y_icmp_ne (pc := 462) (tgt := 479) dX12_why_462 (by decide) (fun hc1 => ?_) (fun hc1 => ?_)
  · replace h := ifF hc1 h
    refine Y_iconst (pc := 479) (v := (0 : Int32)) dX12_why_479 rfl ?_
    cases h
    exact Y_iret (pc := 480) rfl (nar_ch (by decide)) dX12_why_480 hP ⟨rfl, rfl⟩
  · replace h := ifT hc1 h
    refine Y_aload_n (pc := 465) (j := 0) dX12_why_465 rfl rfl ?_
    refine Z_geti (pc := 466) dX12_why_466 w8_118 (lk_69 hP) fi_12_52 ?_
    refine Y_bipush (pc := 469) (v := (60 : Int32)) dX12_why_469 rfl ?_
    refine Y_icmp_ne (pc := 471) (tgt := 479) dX12_why_471 (by decide) (fun hc2 => ?_) (fun hc2 => ?_)
    · replace h := ifF hc2 h
      refine Y_iconst (pc := 479) (v := (0 : Int32)) dX12_why_479 rfl ?_
      cases h
      exact Y_iret (pc := 480) rfl (nar_ch (by decide)) dX12_why_480 hP ⟨rfl, rfl⟩
    · replace h := ifT hc2 h
      refine Y_bipush (pc := 474) (v := (111 : Int32)) dX12_why_474 rfl ?_
      refine Y_goto (pc := 476) (tgt := 480) dX12_why_476 (by decide) ?_
      cases h
      exact Y_iret (pc := 480) rfl (nar_ch (by decide)) dX12_why_480 hP ⟨rfl, rfl⟩
theorem b_X12_why_447 {x3 : Int32} {M z} (hP : Lay M) (h : d_X12_why_447 x3 M = some z) : VV Lay k_X12_why 447 [(0, .ref 69), (3, .int x3)] [] M z.2 (Qv (some (.int z.1)) z.2) xF := by
  unfold d_X12_why_447 at h
  refine Y_aload_n (pc := 447) (j := 0) dX12_why_447 rfl rfl ?_
  refine Z_geti (pc := 448) dX12_why_448 w8_114 (lk_69 hP) fi_12_48 ?_
  refine Y_bipush (pc := 451) (v := (11 : Int32)) dX12_why_451 rfl ?_
  refine Y_icmp_ne (pc := 453) (tgt := 459) dX12_why_453 (by decide) (fun hc1 => ?_) (fun hc1 => ?_)
  · replace h := ifF hc1 h
    refine VV.sub [0, 1] rfl ?_
    exact b_X12_why_459  hP h
  · replace h := ifT hc1 h
    refine Y_bipush (pc := 456) (v := (100 : Int32)) dX12_why_456 rfl ?_
    cases h
    exact Y_iret (pc := 458) rfl (nar_ch (by decide)) dX12_why_458 hP ⟨rfl, rfl⟩
theorem b_X12_why_435 {x3 : Int32} {M z} (hP : Lay M) (h : d_X12_why_435 x3 M = some z) : VV Lay k_X12_why 435 [(0, .ref 69), (3, .int x3)] [] M z.2 (Qv (some (.int z.1)) z.2) xF := by
  unfold d_X12_why_435 at h
  refine Y_iload_n (pc := 435) (j := 1) dX12_why_435 rfl rfl ?_
  refine Y_bipush (pc := 436) (v := (99 : Int32)) dX12_why_436 rfl ?_
  refine Y_icmp_eq (pc := 438) (tgt := 447) dX12_why_438 (by decide) (fun hc1 => ?_) (fun hc1 => ?_)
  · replace h := ifT hc1 h
    refine VV.sub [0, 1] rfl ?_
    exact b_X12_why_447  hP h
  · replace h := ifF hc1 h
    refine Y_iload_n (pc := 441) (j := 1) dX12_why_441 rfl rfl ?_
    refine Y_bipush (pc := 442) (v := (109 : Int32)) dX12_why_442 rfl ?_
    refine Y_icmp_ne (pc := 444) (tgt := 459) dX12_why_444 (by decide) (fun hc2 => ?_) (fun hc2 => ?_)
    · replace h := ifF hc2 h
      refine VV.sub [0, 1] rfl ?_
      exact b_X12_why_459  hP h
    · replace h := ifT hc2 h
      refine VV.sub [0, 1] rfl ?_
      exact b_X12_why_447  hP h
theorem b_X12_why_399 {x3 : Int32} {x4 : Int32} {x5 : Int32} {M z} (hP : Lay M) (h : d_X12_why_399 x3 x4 x5 M = some z) : VV Lay k_X12_why 399 [(0, .ref 69), (3, .int x3), (4, .int x4), (5, .int x5)] [] M z.2 (Qv (some (.int z.1)) z.2) xF := by
  unfold d_X12_why_399 at h
  refine Y_iload_n (pc := 399) (j := 1) dX12_why_399 rfl rfl ?_
  refine Y_bipush (pc := 400) (v := (109 : Int32)) dX12_why_400 rfl ?_
  refine Y_icmp_ne (pc := 402) (tgt := 435) dX12_why_402 (by decide) (fun hc1 => ?_) (fun hc1 => ?_)
  · replace h := ifF hc1 h
    refine VV.sub [0, 1] rfl ?_
    exact b_X12_why_435  hP h
  · replace h := ifT hc1 h
    refine Y_aload_n (pc := 405) (j := 0) dX12_why_405 rfl rfl ?_
    refine Y_aload_n (pc := 406) (j := 0) dX12_why_406 rfl rfl ?_
    refine Z_getr (pc := 407) dX12_why_407 w8_79 (lk_69 hP) fr_12_13 (lr_69_13 hP) ?_
    refine Y_aload_n (pc := 410) (j := 0) dX12_why_410 rfl rfl ?_
    refine Z_getr (pc := 411) dX12_why_411 w8_119 (lk_69 hP) fr_12_53 (lr_69_53 hP) ?_
    refine Y_aload_n (pc := 414) (j := 0) dX12_why_414 rfl rfl ?_
    refine Z_getr (pc := 415) dX12_why_415 w8_111 (lk_69 hP) fr_12_45 (lr_69_45 hP) ?_
    refine Y_iload (pc := 418) (j := 3) dX12_why_418 rfl ?_
    obtain ⟨hb1, h⟩ := okE h
    refine Y_iald (pc := 420) dX12_why_420 (lk_106 hP) (ln_106 hP) hb1 ?_
    obtain ⟨hb2, h⟩ := okE h
    refine Y_iald (pc := 421) dX12_why_421 (lk_112 hP) (ln_112 hP) hb2 ?_
    obtain ⟨hb3, h⟩ := okE h
    refine Y_iald (pc := 422) dX12_why_422 (lk_79 hP) (ln_79 hP) hb3 ?_
    refine Y_iload (pc := 423) (j := 2) dX12_why_423 rfl ?_
    obtain ⟨y1, qy1, h⟩ := bindE h
    have cy1 := v_X12_methodOf hP qy1
    refine C_V2r (pc := 425) (k' := k_X12_methodOf) dX12_why_425 w9_237 i_X12_methodOf (lk_69 hP) ⟨Nat.le_of_ble_eq_true rfl, Nat.le_of_ble_eq_true rfl⟩ rfl (Nat.le_of_ble_eq_true rfl) (Nat.le_of_ble_eq_true rfl) (Nat.le_of_ble_eq_true rfl) (cy1) ?_
    have hPy1 := cy1.1.1
    refine Y_iconst (pc := 428) (v := (-1 : Int32)) dX12_why_428 rfl ?_
    refine Y_icmp_ne (pc := 429) (tgt := 435) dX12_why_429 (by decide) (fun hc2 => ?_) (fun hc2 => ?_)
    · replace h := ifF hc2 h
      refine VV.sub [0, 1] rfl ?_
      exact b_X12_why_435  hPy1 h
    · replace h := ifT hc2 h
      refine Y_bipush (pc := 432) (v := (109 : Int32)) dX12_why_432 rfl ?_
      cases h
      exact Y_iret (pc := 434) rfl (nar_ch (by decide)) dX12_why_434 hPy1 ⟨rfl, rfl⟩
theorem b_X12_why_337 {x3 : Int32} {x4 : Int32} {x5 : Int32} {M z} (hP : Lay M) (h : d_X12_why_337 x3 x4 x5 M = some z) : VV Lay k_X12_why 337 [(0, .ref 69), (3, .int x3), (4, .int x4), (5, .int x5)] [] M z.2 (Qv (some (.int z.1)) z.2) xF := by
  unfold d_X12_why_337 at h
  refine Y_iload_n (pc := 337) (j := 1) dX12_why_337 rfl rfl ?_
  refine Y_bipush (pc := 338) (v := (112 : Int32)) dX12_why_338 rfl ?_
  refine Y_icmp_ne (pc := 340) (tgt := 399) dX12_why_340 (by decide) (fun hc1 => ?_) (fun hc1 => ?_)
  · replace h := ifF hc1 h
    refine VV.sub [0, 1, 2, 3] rfl ?_
    exact b_X12_why_399  hP h
  · replace h := ifT hc1 h
    refine Y_aload_n (pc := 343) (j := 0) dX12_why_343 rfl rfl ?_
    refine Z_getr (pc := 344) dX12_why_344 w8_119 (lk_69 hP) fr_12_53 (lr_69_53 hP) ?_
    refine Y_aload_n (pc := 347) (j := 0) dX12_why_347 rfl rfl ?_
    refine Z_getr (pc := 348) dX12_why_348 w8_111 (lk_69 hP) fr_12_45 (lr_69_45 hP) ?_
    refine Y_iload (pc := 351) (j := 3) dX12_why_351 rfl ?_
    refine Y_iconst (pc := 353) (v := (1 : Int32)) dX12_why_353 rfl ?_
    refine Y_isub (pc := 354) dX12_why_354 ?_
    obtain ⟨hb1, h⟩ := okE h
    refine Y_iald (pc := 355) dX12_why_355 (lk_106 hP) (ln_106 hP) hb1 ?_
    obtain ⟨hb2, h⟩ := okE h
    refine Y_iald (pc := 356) dX12_why_356 (lk_112 hP) (ln_112 hP) hb2 ?_
    obtain ⟨b1, eb1, h⟩ := bndE h
    refine VV.topI eb1 ?_
    refine Y_istore (pc := 357) (lv1 := [(6, .int b1), (0, .ref 69), (3, .int x3), (4, .int x4), (5, .int x5)]) dX12_why_357 (by decide) rfl ?_
    refine Y_aload_n (pc := 359) (j := 1) dX12_why_359 rfl rfl ?_
    refine Y_iload (pc := 360) (j := 0) dX12_why_360 rfl ?_
    refine Y_iload (pc := 362) (j := 3) dX12_why_362 rfl ?_
    obtain ⟨y1, qy1, h⟩ := bindE h
    have cy1 := v_X12_hasField hP qy1
    refine C_V2r (pc := 364) (k' := k_X12_hasField) dX12_why_364 w9_233 i_X12_hasField (lk_69 hP) ⟨Nat.le_of_ble_eq_true rfl, Nat.le_of_ble_eq_true rfl⟩ rfl (Nat.le_of_ble_eq_true rfl) (Nat.le_of_ble_eq_true rfl) (Nat.le_of_ble_eq_true rfl) (cy1) ?_
    have hPy1 := cy1.1.1
    refine Y_if_ne (pc := 367) (tgt := 399) dX12_why_367 (by decide) (fun hc2 => ?_) (fun hc2 => ?_)
    · replace h := ifF hc2 h
      refine VV.sub [1, 2, 3, 4] rfl ?_
      exact b_X12_why_399  hPy1 h
    · replace h := ifT hc2 h
      refine Y_aload_n (pc := 370) (j := 1) dX12_why_370 rfl rfl ?_
      refine Z_getr (pc := 371) dX12_why_371 w8_82 (lk_69 hPy1) fr_12_16 (lr_69_16 hPy1) ?_
      refine Y_bipush (pc := 374) (v := (6 : Int32)) dX12_why_374 rfl ?_
      refine Y_iload (pc := 376) (j := 0) dX12_why_376 rfl ?_
      refine Y_imul (pc := 378) dX12_why_378 ?_
      refine Y_iload (pc := 379) (j := 3) dX12_why_379 rfl ?_
      refine Y_iadd (pc := 381) dX12_why_381 ?_
      obtain ⟨hb3, h⟩ := okE h
      refine Y_iald (pc := 382) dX12_why_382 (lk_82 hPy1) (ln_82 hPy1) hb3 ?_
      refine Y_iconst (pc := 383) (v := (-1 : Int32)) dX12_why_383 rfl ?_
      refine Y_icmp_ne (pc := 384) (tgt := 399) dX12_why_384 (by decide) (fun hc3 => ?_) (fun hc3 => ?_)
      · replace h := ifF hc3 h
        refine VV.sub [1, 2, 3, 4] rfl ?_
        exact b_X12_why_399  hPy1 h
      · replace h := ifT hc3 h
        refine Y_aload_n (pc := 387) (j := 1) dX12_why_387 rfl rfl ?_
        refine Z_geti (pc := 388) dX12_why_388 w8_78 (lk_69 hPy1) fi_12_12 ?_
        refine Y_bipush (pc := 391) (v := (60 : Int32)) dX12_why_391 rfl ?_
        refine Y_icmp_ne (pc := 393) (tgt := 399) dX12_why_393 (by decide) (fun hc4 => ?_) (fun hc4 => ?_)
        · replace h := ifF hc4 h
          refine VV.sub [1, 2, 3, 4] rfl ?_
          exact b_X12_why_399  hPy1 h
        · replace h := ifT hc4 h
          refine Y_bipush (pc := 396) (v := (102 : Int32)) dX12_why_396 rfl ?_
          cases h
          exact Y_iret (pc := 398) rfl (nar_ch (by decide)) dX12_why_398 hPy1 ⟨rfl, rfl⟩
theorem b_X12_why_307 {x3 : Int32} {x4 : Int32} {x5 : Int32} {M z} (hP : Lay M) (h : d_X12_why_307 x3 x4 x5 M = some z) : VV Lay k_X12_why 307 [(0, .ref 69), (3, .int x3), (4, .int x4), (5, .int x5)] [] M z.2 (Qv (some (.int z.1)) z.2) xF := by
  unfold d_X12_why_307 at h
  refine Y_iload_n (pc := 307) (j := 1) dX12_why_307 rfl rfl ?_
  refine Y_bipush (pc := 308) (v := (103 : Int32)) dX12_why_308 rfl ?_
  refine Y_icmp_ne (pc := 310) (tgt := 337) dX12_why_310 (by decide) (fun hc1 => ?_) (fun hc1 => ?_)
  · replace h := ifF hc1 h
    refine VV.sub [0, 1, 2, 3] rfl ?_
    exact b_X12_why_337  hP h
  · replace h := ifT hc1 h
    refine Y_aload_n (pc := 313) (j := 0) dX12_why_313 rfl rfl ?_
    refine Y_aload_n (pc := 314) (j := 0) dX12_why_314 rfl rfl ?_
    refine Z_getr (pc := 315) dX12_why_315 w8_119 (lk_69 hP) fr_12_53 (lr_69_53 hP) ?_
    refine Y_aload_n (pc := 318) (j := 0) dX12_why_318 rfl rfl ?_
    refine Z_getr (pc := 319) dX12_why_319 w8_111 (lk_69 hP) fr_12_45 (lr_69_45 hP) ?_
    refine Y_iload (pc := 322) (j := 3) dX12_why_322 rfl ?_
    obtain ⟨hb1, h⟩ := okE h
    refine Y_iald (pc := 324) dX12_why_324 (lk_106 hP) (ln_106 hP) hb1 ?_
    obtain ⟨hb2, h⟩ := okE h
    refine Y_iald (pc := 325) dX12_why_325 (lk_112 hP) (ln_112 hP) hb2 ?_
    refine Y_iload (pc := 326) (j := 2) dX12_why_326 rfl ?_
    obtain ⟨y1, qy1, h⟩ := bindE h
    have cy1 := v_X12_hasField hP qy1
    refine C_V2r (pc := 328) (k' := k_X12_hasField) dX12_why_328 w9_233 i_X12_hasField (lk_69 hP) ⟨Nat.le_of_ble_eq_true rfl, Nat.le_of_ble_eq_true rfl⟩ rfl (Nat.le_of_ble_eq_true rfl) (Nat.le_of_ble_eq_true rfl) (Nat.le_of_ble_eq_true rfl) (cy1) ?_
    have hPy1 := cy1.1.1
    refine Y_if_ne (pc := 331) (tgt := 337) dX12_why_331 (by decide) (fun hc2 => ?_) (fun hc2 => ?_)
    · replace h := ifF hc2 h
      refine VV.sub [0, 1, 2, 3] rfl ?_
      exact b_X12_why_337  hPy1 h
    · replace h := ifT hc2 h
      refine Y_bipush (pc := 334) (v := (102 : Int32)) dX12_why_334 rfl ?_
      cases h
      exact Y_iret (pc := 336) rfl (nar_ch (by decide)) dX12_why_336 hPy1 ⟨rfl, rfl⟩
theorem b_X12_calls_166 {k79 : (Int32) → Mem → Option (Unit × Mem)} {x2 : Int32} {x3 : Int32} {x4 : Int32} {M z} (hk79 : ∀ (a : (Int32)) (M : Mem) (z : Unit × Mem), Lay M → k79 a M = some z → VV Lay k_X12_calls 79 [(0, .ref 69), (2, .int x2), (3, .int x3), (4, .int a)] [] M z.2 (Qv (none) z.2) xF) (hP : Lay M) (h : d_X12_calls_166 k79 x2 x3 x4 M = some z) : VV Lay k_X12_calls 166 [(0, .ref 69), (2, .int x2), (3, .int x3), (4, .int x4)] [] M z.2 (Qv (none) z.2) xF := by
  unfold d_X12_calls_166 at h
  obtain ⟨b1, eb1, h⟩ := bndE h
  refine Y_iinc (pc := 166) (j := 3) (v := b1) (lv1 := [(4, .int b1), (0, .ref 69), (2, .int x2), (3, .int x3)]) dX12_calls_166 rfl eb1.symm (by decide) rfl ?_
  refine Y_goto (pc := 169) (tgt := 79) dX12_calls_169 (by decide) ?_
  refine VV.sub [1, 2, 3, 0] rfl ?_
  exact hk79 _ _ _ hP h
theorem b_X12_calls_165 {k79 : (Int32) → Mem → Option (Unit × Mem)} {x2 : Int32} {x3 : Int32} {x4 : Int32} {s1 : Int32} {s2 : Int32} {M z} (hk79 : ∀ (a : (Int32)) (M : Mem) (z : Unit × Mem), Lay M → k79 a M = some z → VV Lay k_X12_calls 79 [(0, .ref 69), (2, .int x2), (3, .int x3), (4, .int a)] [] M z.2 (Qv (none) z.2) xF) (hP : Lay M) (h : d_X12_calls_165 k79 x2 x3 x4 s1 s2 M = some z) : VV Lay k_X12_calls 165 [(0, .ref 69), (2, .int x2), (3, .int x3), (4, .int x4)] [.int s2, .int s1, .ref 108] M z.2 (Qv (none) z.2) xF := by
  unfold d_X12_calls_165 at h
  obtain ⟨hb1, h⟩ := okE h
  refine Y_iast (pc := 165) dX12_calls_165 (lk_108 hP) (ln_108 hP) hb1 ?_
  obtain ⟨M1, eM1, h⟩ := bndE h
  refine VV.mem eM1 ?_
  have hP1 := hP.wI eM1
  refine VV.sub [0, 1, 2, 3] rfl ?_
  exact b_X12_calls_166 hk79 hP1 h
theorem b_X12_calls_79b {k79 : (Int32) → Mem → Option (Unit × Mem)} {x2 : Int32} {x3 : Int32} {x4 : Int32} {M z} (hk79 : ∀ (a : (Int32)) (M : Mem) (z : Unit × Mem), Lay M → k79 a M = some z → VV Lay k_X12_calls 79 [(0, .ref 69), (2, .int x2), (3, .int x3), (4, .int a)] [] M z.2 (Qv (none) z.2) xF) (hP : Lay M) (h : d_X12_calls_79b k79 x2 x3 x4 M = some z) : VV Lay k_X12_calls 79 [(0, .ref 69), (2, .int x2), (3, .int x3), (4, .int x4)] [] M z.2 (Qv (none) z.2) xF := by
  unfold d_X12_calls_79b at h
  refine Y_iload (pc := 79) (j := 3) dX12_calls_79 rfl ?_
  refine Y_bipush (pc := 81) (v := (6 : Int32)) dX12_calls_81 rfl ?_
  refine Y_icmp_ge (pc := 83) (tgt := 172) dX12_calls_83 (by decide) (fun hc1 => ?_) (fun hc1 => ?_)
  · replace h := ifT hc1 h
    cases h
    exact Y_vret (pc := 172) rfl dX12_calls_172 hP ⟨rfl, rfl⟩
  · replace h := ifF hc1 h
    refine Y_bipush (pc := 86) (v := (14 : Int32)) dX12_calls_86 rfl ?_
    refine Y_aload_n (pc := 88) (j := 0) dX12_calls_88 rfl rfl ?_
    refine Z_geti (pc := 89) dX12_calls_89 w8_114 (lk_69 hP) fi_12_48 ?_
    refine Y_imul (pc := 92) dX12_calls_92 ?_
    refine Y_iload (pc := 93) (j := 3) dX12_calls_93 rfl ?_
    refine Y_iadd (pc := 95) dX12_calls_95 ?_
    obtain ⟨b1, eb1, h⟩ := bndE h
    refine VV.topI eb1 ?_
    refine Y_istore (pc := 96) (lv1 := [(5, .int b1), (0, .ref 69), (2, .int x2), (3, .int x3), (4, .int x4)]) dX12_calls_96 (by decide) rfl ?_
    refine Y_iload (pc := 98) (j := 4) dX12_calls_98 rfl ?_
    refine Y_iload_n (pc := 100) (j := 2) dX12_calls_100 rfl rfl ?_
    refine Y_icmp_ge (pc := 101) (tgt := 117) dX12_calls_101 (by decide) (fun hc2 => ?_) (fun hc2 => ?_)
    · replace h := ifT hc2 h
      refine Y_aload_n (pc := 117) (j := 1) dX12_calls_117 rfl rfl ?_
      refine Z_getr (pc := 118) dX12_calls_118 w8_110 (lk_69 hP) fr_12_44 (lr_69_44 hP) ?_
      refine Y_iload (pc := 121) (j := 0) dX12_calls_121 rfl ?_
      refine Y_bipush (pc := 123) (v := (110 : Int32)) dX12_calls_123 rfl ?_
      obtain ⟨hb1, h⟩ := okE h
      refine Y_cast (pc := 125) dX12_calls_125 (lk_105 hP) (ln_105 hP) hb1 (nar_ch (by decide)) ?_
      obtain ⟨M1, eM1, h⟩ := bndE h
      refine VV.mem eM1 ?_
      have hP1 := hP.wI eM1
      refine Y_aload_n (pc := 126) (j := 1) dX12_calls_126 rfl rfl ?_
      refine Z_getr (pc := 127) dX12_calls_127 w8_111 (lk_69 hP1) fr_12_45 (lr_69_45 hP1) ?_
      refine Y_iload (pc := 130) (j := 0) dX12_calls_130 rfl ?_
      refine Y_iconst (pc := 132) (v := (0 : Int32)) dX12_calls_132 rfl ?_
      obtain ⟨hb2, h⟩ := okE h
      refine Y_iast (pc := 133) dX12_calls_133 (lk_106 hP1) (ln_106 hP1) hb2 ?_
      obtain ⟨M2, eM2, h⟩ := bndE h
      refine VV.mem eM2 ?_
      have hP2 := hP1.wI eM2
      refine Y_aload_n (pc := 134) (j := 1) dX12_calls_134 rfl rfl ?_
      refine Z_getr (pc := 135) dX12_calls_135 w8_112 (lk_69 hP2) fr_12_46 (lr_69_46 hP2) ?_
      refine Y_iload (pc := 138) (j := 0) dX12_calls_138 rfl ?_
      refine Y_dconst0 (pc := 140) dX12_calls_140 ?_
      obtain ⟨hb3, h⟩ := okE h
      refine Y_dast (pc := 141) dX12_calls_141 (lk_107 hP2) (ln_107 hP2) hb3 ?_
      obtain ⟨M3, eM3, h⟩ := bndE h
      refine VV.mem eM3 ?_
      have hP3 := hP2.wD eM3
      refine Y_aload_n (pc := 142) (j := 1) dX12_calls_142 rfl rfl ?_
      refine Z_getr (pc := 143) dX12_calls_143 w8_113 (lk_69 hP3) fr_12_47 (lr_69_47 hP3) ?_
      refine Y_iload (pc := 146) (j := 0) dX12_calls_146 rfl ?_
      refine Y_aload_n (pc := 148) (j := 1) dX12_calls_148 rfl rfl ?_
      refine Z_geti (pc := 149) dX12_calls_149 w8_137 (lk_69 hP3) fi_12_71 ?_
      refine Y_if_eq (pc := 152) (tgt := 164) dX12_calls_152 (by decide) (fun hc3 => ?_) (fun hc3 => ?_)
      · replace h := ifT hc3 h
        refine Y_iconst (pc := 164) (v := (0 : Int32)) dX12_calls_164 rfl ?_
        refine VV.sub [1, 2, 3, 4] rfl ?_
        exact b_X12_calls_165 hk79 hP3 h
      · replace h := ifF hc3 h
        refine Y_aload_n (pc := 155) (j := 1) dX12_calls_155 rfl rfl ?_
        refine Y_bipush (pc := 156) (v := (110 : Int32)) dX12_calls_156 rfl ?_
        obtain ⟨y1, qy1, h⟩ := bindE h
        have cy1 := v_X12_valueOf hP3 qy1
        refine C_V1r (pc := 158) (k' := k_X12_valueOf) dX12_calls_158 w10_47 i_X12_valueOf (lk_69 hP3) ⟨Nat.le_of_ble_eq_true rfl, Nat.le_of_ble_eq_true rfl⟩ rfl (Nat.le_of_ble_eq_true rfl) (Nat.le_of_ble_eq_true rfl) (Nat.le_of_ble_eq_true rfl) (cy1) ?_
        have hPy1 := cy1.1.1
        refine Y_goto (pc := 161) (tgt := 165) dX12_calls_161 (by decide) ?_
        refine VV.sub [1, 2, 3, 4] rfl ?_
        exact b_X12_calls_165 hk79 hPy1 h
    · replace h := ifF hc2 h
      refine Y_aload_n (pc := 104) (j := 1) dX12_calls_104 rfl rfl ?_
      refine Y_iload_n (pc := 105) (j := 3) dX12_calls_105 rfl rfl ?_
      refine Y_iload (pc := 106) (j := 4) dX12_calls_106 rfl ?_
      refine Y_iadd (pc := 108) dX12_calls_108 ?_
      refine Y_iload (pc := 109) (j := 0) dX12_calls_109 rfl ?_
      obtain ⟨y2, qy2, h⟩ := bindE h
      have cy2 := v_X12_copies hP qy2
      refine C_V2o (pc := 111) (k' := k_X12_copies) dX12_calls_111 w10_55 i_X12_copies (lk_69 hP) ⟨Nat.le_of_ble_eq_true rfl, Nat.le_of_ble_eq_true rfl⟩ rfl (Nat.le_of_ble_eq_true rfl) (Nat.le_of_ble_eq_true rfl) (Nat.le_of_ble_eq_true rfl) (cy2) ?_
      have hPy2 := cy2.1.1
      refine Y_goto (pc := 114) (tgt := 166) dX12_calls_114 (by decide) ?_
      refine VV.sub [1, 2, 3, 4] rfl ?_
      exact b_X12_calls_166 hk79 hPy2 h
theorem b_X12_calls_79 {x2 : Int32} {x3 : Int32} (n : Nat) : ∀ (a : (Int32)) (M : Mem) (z : Unit × Mem), d_X12_calls_79 x2 x3 n a M = some z → Lay M → VV Lay k_X12_calls 79 [(0, .ref 69), (2, .int x2), (3, .int x3), (4, .int a)] [] M z.2 (Qv (none) z.2) xF :=
  lp_ind (G := fun (a : (Int32)) (M : Mem) (z : Unit × Mem) => Lay M → VV Lay k_X12_calls 79 [(0, .ref 69), (2, .int x2), (3, .int x3), (4, .int a)] [] M z.2 (Qv (none) z.2) xF) (fun k hk a M z h hP => b_X12_calls_79b  (fun a M z hP h => hk a M z h hP) hP h) n
theorem b_X12_calls {x1 : Int32} {x2 : Int32} {M z} (hP : Lay M) (h : d_X12_calls x1 x2 M = some z) : VV Lay k_X12_calls 0 [(0, .ref 69), (1, .int x1), (2, .int x2)] [] M z.2 (Qv (none) z.2) xF := by
  unfold d_X12_calls at h
  refine Y_aload_n (pc := 0) (j := 0) dX12_calls_0 rfl rfl ?_
  refine Y_iconst (pc := 1) (v := (0 : Int32)) dX12_calls_1 rfl ?_
  obtain ⟨y1, qy1, h⟩ := bindE h
  have cy1 := v_X12_top hP qy1
  refine C_V1r (pc := 2) (k' := k_X12_top) dX12_calls_2 w9_200 i_X12_top (lk_69 hP) ⟨Nat.le_of_ble_eq_true rfl, Nat.le_of_ble_eq_true rfl⟩ rfl (Nat.le_of_ble_eq_true rfl) (Nat.le_of_ble_eq_true rfl) (Nat.le_of_ble_eq_true rfl) (cy1) ?_
  have hPy1 := cy1.1.1
  refine Y_iload_n (pc := 5) (j := 2) dX12_calls_5 rfl rfl ?_
  refine Y_isub (pc := 6) dX12_calls_6 ?_
  refine Y_iconst (pc := 7) (v := (1 : Int32)) dX12_calls_7 rfl ?_
  refine Y_iadd (pc := 8) dX12_calls_8 ?_
  obtain ⟨b1, eb1, h⟩ := bndE h
  refine VV.topI eb1 ?_
  refine Y_istore_n (pc := 9) (lv1 := [(3, .int b1), (0, .ref 69), (1, .int x1), (2, .int x2)]) dX12_calls_9 rfl (by decide) rfl ?_
  refine Y_aload_n (pc := 10) (j := 1) dX12_calls_10 rfl rfl ?_
  refine Z_getr (pc := 11) dX12_calls_11 w8_117 (lk_69 hPy1) fr_12_51 (lr_69_51 hPy1) ?_
  refine Y_aload_n (pc := 14) (j := 1) dX12_calls_14 rfl rfl ?_
  refine Z_geti (pc := 15) dX12_calls_15 w8_114 (lk_69 hPy1) fi_12_48 ?_
  refine Y_dup2 (pc := 18) dX12_calls_18 rfl rfl ?_
  obtain ⟨hb1, h⟩ := okE h
  refine Y_iald (pc := 19) dX12_calls_19 (lk_111 hPy1) (ln_111 hPy1) hb1 ?_
  refine Y_iload_n (pc := 20) (j := 3) dX12_calls_20 rfl rfl ?_
  refine Y_isub (pc := 21) dX12_calls_21 ?_
  obtain ⟨hb2, h⟩ := okE h
  refine Y_iast (pc := 22) dX12_calls_22 (lk_111 hPy1) (ln_111 hPy1) hb2 ?_
  obtain ⟨M1, eM1, h⟩ := bndE h
  refine VV.mem eM1 ?_
  have hP1 := hPy1.wI eM1
  refine Y_aload_n (pc := 23) (j := 1) dX12_calls_23 rfl rfl ?_
  refine Z_getr (pc := 24) dX12_calls_24 w8_116 (lk_69 hP1) fr_12_50 (lr_69_50 hP1) ?_
  refine Y_aload_n (pc := 27) (j := 1) dX12_calls_27 rfl rfl ?_
  refine Z_geti (pc := 28) dX12_calls_28 w8_114 (lk_69 hP1) fi_12_48 ?_
  refine Y_dup2 (pc := 31) dX12_calls_31 rfl rfl ?_
  obtain ⟨hb3, h⟩ := okE h
  refine Y_iald (pc := 32) dX12_calls_32 (lk_110 hP1) (ln_110 hP1) hb3 ?_
  refine Y_iconst (pc := 33) (v := (1 : Int32)) dX12_calls_33 rfl ?_
  refine Y_iadd (pc := 34) dX12_calls_34 ?_
  obtain ⟨hb4, h⟩ := okE h
  refine Y_iast (pc := 35) dX12_calls_35 (lk_110 hP1) (ln_110 hP1) hb4 ?_
  obtain ⟨M2, eM2, h⟩ := bndE h
  refine VV.mem eM2 ?_
  have hP2 := hP1.wI eM2
  refine Y_aload_n (pc := 36) (j := 1) dX12_calls_36 rfl rfl ?_
  refine Y_dup (pc := 37) dX12_calls_37 rfl ?_
  refine Z_geti (pc := 38) dX12_calls_38 w8_114 (lk_69 hP2) fi_12_48 ?_
  refine Y_iconst (pc := 41) (v := (1 : Int32)) dX12_calls_41 rfl ?_
  refine Y_iadd (pc := 42) dX12_calls_42 ?_
  refine Z_puti (pc := 43) dX12_calls_43 w8_114 (lk_69 hP2) fi_12_48 (Or.inl rfl) rfl ?_
  obtain ⟨M3, eM3, h⟩ := bndE h
  refine VV.mem eM3 ?_
  have hP3 := hP2.wI eM3
  refine Y_aload_n (pc := 46) (j := 1) dX12_calls_46 rfl rfl ?_
  refine Z_getr (pc := 47) dX12_calls_47 w8_115 (lk_69 hP3) fr_12_49 (lr_69_49 hP3) ?_
  refine Y_aload_n (pc := 50) (j := 1) dX12_calls_50 rfl rfl ?_
  refine Z_geti (pc := 51) dX12_calls_51 w8_114 (lk_69 hP3) fi_12_48 ?_
  refine Y_iload_n (pc := 54) (j := 2) dX12_calls_54 rfl rfl ?_
  obtain ⟨hb5, h⟩ := okE h
  refine Y_iast (pc := 55) dX12_calls_55 (lk_109 hP3) (ln_109 hP3) hb5 ?_
  obtain ⟨M4, eM4, h⟩ := bndE h
  refine VV.mem eM4 ?_
  have hP4 := hP3.wI eM4
  refine Y_aload_n (pc := 56) (j := 1) dX12_calls_56 rfl rfl ?_
  refine Z_getr (pc := 57) dX12_calls_57 w8_116 (lk_69 hP4) fr_12_50 (lr_69_50 hP4) ?_
  refine Y_aload_n (pc := 60) (j := 1) dX12_calls_60 rfl rfl ?_
  refine Z_geti (pc := 61) dX12_calls_61 w8_114 (lk_69 hP4) fi_12_48 ?_
  refine Y_iconst (pc := 64) (v := (0 : Int32)) dX12_calls_64 rfl ?_
  obtain ⟨hb6, h⟩ := okE h
  refine Y_iast (pc := 65) dX12_calls_65 (lk_110 hP4) (ln_110 hP4) hb6 ?_
  obtain ⟨M5, eM5, h⟩ := bndE h
  refine VV.mem eM5 ?_
  have hP5 := hP4.wI eM5
  refine Y_aload_n (pc := 66) (j := 1) dX12_calls_66 rfl rfl ?_
  refine Z_getr (pc := 67) dX12_calls_67 w8_117 (lk_69 hP5) fr_12_51 (lr_69_51 hP5) ?_
  refine Y_aload_n (pc := 70) (j := 1) dX12_calls_70 rfl rfl ?_
  refine Z_geti (pc := 71) dX12_calls_71 w8_114 (lk_69 hP5) fi_12_48 ?_
  refine Y_iconst (pc := 74) (v := (0 : Int32)) dX12_calls_74 rfl ?_
  obtain ⟨hb7, h⟩ := okE h
  refine Y_iast (pc := 75) dX12_calls_75 (lk_111 hP5) (ln_111 hP5) hb7 ?_
  obtain ⟨M6, eM6, h⟩ := bndE h
  refine VV.mem eM6 ?_
  have hP6 := hP5.wI eM6
  refine Y_iconst (pc := 76) (v := (0 : Int32)) dX12_calls_76 rfl ?_
  refine Y_istore (pc := 77) (lv1 := [(4, .int (0 : Int32)), (3, .int b1), (0, .ref 69), (1, .int x1), (2, .int x2)]) dX12_calls_77 (by decide) rfl ?_
  refine VV.sub [2, 4, 1, 0] rfl ?_
  exact b_X12_calls_79  fuel _ _ _ h hP6
theorem v_X12_calls {x1 : Int32} {x2 : Int32} {M z} (hP : Lay M) (h : d_X12_calls x1 x2 M = some z) : CC Lay k_X12_calls [.ref 69, .int x1, .int x2] M z.2 (Qv (none) z.2) xF :=
  CC.ofVV (by decide) rfl (Nat.le_of_ble_eq_true rfl) (b_X12_calls hP h)
theorem b_X12_puts_152 {M z} (hP : Lay M) (h : d_X12_puts_152 M = some z) : VV Lay k_X12_puts 152 [(0, .ref 69)] [] M z.2 (Qv (none) z.2) xF := by
  unfold d_X12_puts_152 at h
  refine Y_aload_n (pc := 152) (j := 0) dX12_puts_152 rfl rfl ?_
  refine Z_getr (pc := 153) dX12_puts_153 w8_117 (lk_69 hP) fr_12_51 (lr_69_51 hP) ?_
  refine Y_aload_n (pc := 156) (j := 0) dX12_puts_156 rfl rfl ?_
  refine Z_geti (pc := 157) dX12_puts_157 w8_114 (lk_69 hP) fi_12_48 ?_
  refine Y_dup2 (pc := 160) dX12_puts_160 rfl rfl ?_
  obtain ⟨hb1, h⟩ := okE h
  refine Y_iald (pc := 161) dX12_puts_161 (lk_111 hP) (ln_111 hP) hb1 ?_
  refine Y_iconst (pc := 162) (v := (2 : Int32)) dX12_puts_162 rfl ?_
  refine Y_isub (pc := 163) dX12_puts_163 ?_
  obtain ⟨hb2, h⟩ := okE h
  refine Y_iast (pc := 164) dX12_puts_164 (lk_111 hP) (ln_111 hP) hb2 ?_
  obtain ⟨M1, eM1, h⟩ := bndE h
  refine VV.mem eM1 ?_
  have hP1 := hP.wI eM1
  refine Y_aload_n (pc := 165) (j := 0) dX12_puts_165 rfl rfl ?_
  refine Z_getr (pc := 166) dX12_puts_166 w8_116 (lk_69 hP1) fr_12_50 (lr_69_50 hP1) ?_
  refine Y_aload_n (pc := 169) (j := 0) dX12_puts_169 rfl rfl ?_
  refine Z_geti (pc := 170) dX12_puts_170 w8_114 (lk_69 hP1) fi_12_48 ?_
  refine Y_dup2 (pc := 173) dX12_puts_173 rfl rfl ?_
  obtain ⟨hb3, h⟩ := okE h
  refine Y_iald (pc := 174) dX12_puts_174 (lk_110 hP1) (ln_110 hP1) hb3 ?_
  refine Y_iconst (pc := 175) (v := (1 : Int32)) dX12_puts_175 rfl ?_
  refine Y_iadd (pc := 176) dX12_puts_176 ?_
  obtain ⟨hb4, h⟩ := okE h
  refine Y_iast (pc := 177) dX12_puts_177 (lk_110 hP1) (ln_110 hP1) hb4 ?_
  obtain ⟨M2, eM2, h⟩ := bndE h
  refine VV.mem eM2 ?_
  have hP2 := hP1.wI eM2
  cases h
  exact Y_vret (pc := 178) rfl dX12_puts_178 hP2 ⟨rfl, rfl⟩
theorem b_X12_puts_116b {k116 : (Int32) → Mem → Option (Unit × Mem)} {x2 : Int32} {x6 : Int32} {x7 : Int32} {M z} (hk116 : ∀ (a : (Int32)) (M : Mem) (z : Unit × Mem), Lay M → k116 a M = some z → VV Lay k_X12_puts 116 [(0, .ref 69), (2, .int x2), (6, .int x6), (7, .int a)] [] M z.2 (Qv (none) z.2) xF) (hP : Lay M) (h : d_X12_puts_116b k116 x2 x6 x7 M = some z) : VV Lay k_X12_puts 116 [(0, .ref 69), (2, .int x2), (6, .int x6), (7, .int x7)] [] M z.2 (Qv (none) z.2) xF := by
  unfold d_X12_puts_116b at h
  refine Y_iload (pc := 116) (j := 3) dX12_puts_116 rfl ?_
  refine Y_aload_n (pc := 118) (j := 0) dX12_puts_118 rfl rfl ?_
  refine Z_geti (pc := 119) dX12_puts_119 w8_149 (lk_69 hP) fi_12_83 ?_
  refine Y_icmp_ge (pc := 122) (tgt := 139) dX12_puts_122 (by decide) (fun hc1 => ?_) (fun hc1 => ?_)
  · replace h := ifT hc1 h
    refine Y_aload_n (pc := 139) (j := 0) dX12_puts_139 rfl rfl ?_
    refine Z_getr (pc := 140) dX12_puts_140 w8_152 (lk_69 hP) fr_12_86 (lr_69_86 hP) ?_
    refine Y_aload_n (pc := 143) (j := 0) dX12_puts_143 rfl rfl ?_
    refine Z_getr (pc := 144) dX12_puts_144 w8_113 (lk_69 hP) fr_12_47 (lr_69_47 hP) ?_
    refine Y_iload_n (pc := 147) (j := 1) dX12_puts_147 rfl rfl ?_
    obtain ⟨hb1, h⟩ := okE h
    refine Y_iald (pc := 148) dX12_puts_148 (lk_108 hP) (ln_108 hP) hb1 ?_
    refine Y_iload (pc := 149) (j := 2) dX12_puts_149 rfl ?_
    obtain ⟨hb2, h⟩ := okE h
    refine Y_iast (pc := 151) dX12_puts_151 (lk_125 hP) (ln_125 hP) hb2 ?_
    obtain ⟨M1, eM1, h⟩ := bndE h
    refine VV.mem eM1 ?_
    have hP1 := hP.wI eM1
    refine VV.sub [0] rfl ?_
    exact b_X12_puts_152  hP1 h
  · replace h := ifF hc1 h
    refine Y_aload_n (pc := 125) (j := 0) dX12_puts_125 rfl rfl ?_
    refine Z_getr (pc := 126) dX12_puts_126 w8_152 (lk_69 hP) fr_12_86 (lr_69_86 hP) ?_
    refine Y_iload (pc := 129) (j := 3) dX12_puts_129 rfl ?_
    refine Y_iconst (pc := 131) (v := (-1 : Int32)) dX12_puts_131 rfl ?_
    obtain ⟨hb3, h⟩ := okE h
    refine Y_iast (pc := 132) dX12_puts_132 (lk_125 hP) (ln_125 hP) hb3 ?_
    obtain ⟨M2, eM2, h⟩ := bndE h
    refine VV.mem eM2 ?_
    have hP2 := hP.wI eM2
    obtain ⟨b1, eb1, h⟩ := bndE h
    refine Y_iinc (pc := 133) (j := 3) (v := b1) (lv1 := [(7, .int b1), (0, .ref 69), (2, .int x2), (6, .int x6)]) dX12_puts_133 rfl eb1.symm (by decide) rfl ?_
    refine Y_goto (pc := 136) (tgt := 116) dX12_puts_136 (by decide) ?_
    refine VV.sub [1, 2, 3, 0] rfl ?_
    exact hk116 _ _ _ hP2 h
theorem b_X12_puts_116 {x2 : Int32} {x6 : Int32} (n : Nat) : ∀ (a : (Int32)) (M : Mem) (z : Unit × Mem), d_X12_puts_116 x2 x6 n a M = some z → Lay M → VV Lay k_X12_puts 116 [(0, .ref 69), (2, .int x2), (6, .int x6), (7, .int a)] [] M z.2 (Qv (none) z.2) xF :=
  lp_ind (G := fun (a : (Int32)) (M : Mem) (z : Unit × Mem) => Lay M → VV Lay k_X12_puts 116 [(0, .ref 69), (2, .int x2), (6, .int x6), (7, .int a)] [] M z.2 (Qv (none) z.2) xF) (fun k hk a M z h hP => b_X12_puts_116b  (fun a M z hP h => hk a M z h hP) hP h) n
theorem b_X12_puts {x1 : Int32} {M z} (hP : Lay M) (h : d_X12_puts x1 M = some z) : VV Lay k_X12_puts 0 [(0, .ref 69), (1, .int x1)] [] M z.2 (Qv (none) z.2) xF := by
  unfold d_X12_puts at h
  refine Y_aload_n (pc := 0) (j := 0) dX12_puts_0 rfl rfl ?_
  refine Y_iconst (pc := 1) (v := (1 : Int32)) dX12_puts_1 rfl ?_
  obtain ⟨y1, qy1, h⟩ := bindE h
  have cy1 := v_X12_top hP qy1
  refine C_V1r (pc := 2) (k' := k_X12_top) dX12_puts_2 w9_200 i_X12_top (lk_69 hP) ⟨Nat.le_of_ble_eq_true rfl, Nat.le_of_ble_eq_true rfl⟩ rfl (Nat.le_of_ble_eq_true rfl) (Nat.le_of_ble_eq_true rfl) (Nat.le_of_ble_eq_true rfl) (cy1) ?_
  have hPy1 := cy1.1.1
  refine Y_istore_n (pc := 5) (lv1 := [(2, .int y1.1), (0, .ref 69), (1, .int x1)]) dX12_puts_5 rfl (by decide) rfl ?_
  refine Y_aload_n (pc := 6) (j := 1) dX12_puts_6 rfl rfl ?_
  refine Z_getr (pc := 7) dX12_puts_7 w8_111 (lk_69 hPy1) fr_12_45 (lr_69_45 hPy1) ?_
  refine Y_iload_n (pc := 10) (j := 0) dX12_puts_10 rfl rfl ?_
  obtain ⟨hb1, h⟩ := okE h
  refine Y_iald (pc := 11) dX12_puts_11 (lk_106 hPy1) (ln_106 hPy1) hb1 ?_
  obtain ⟨b1, eb1, h⟩ := bndE h
  refine VV.topI eb1 ?_
  refine Y_istore_n (pc := 12) (lv1 := [(3, .int b1), (2, .int y1.1), (0, .ref 69), (1, .int x1)]) dX12_puts_12 rfl (by decide) rfl ?_
  refine Y_aload_n (pc := 13) (j := 2) dX12_puts_13 rfl rfl ?_
  refine Y_iconst (pc := 14) (v := (0 : Int32)) dX12_puts_14 rfl ?_
  obtain ⟨y2, qy2, h⟩ := bindE h
  have cy2 := v_X12_top hPy1 qy2
  refine C_V1r (pc := 15) (k' := k_X12_top) dX12_puts_15 w9_200 i_X12_top (lk_69 hPy1) ⟨Nat.le_of_ble_eq_true rfl, Nat.le_of_ble_eq_true rfl⟩ rfl (Nat.le_of_ble_eq_true rfl) (Nat.le_of_ble_eq_true rfl) (Nat.le_of_ble_eq_true rfl) (cy2) ?_
  have hPy2 := cy2.1.1
  refine Y_istore (pc := 18) (lv1 := [(4, .int y2.1), (3, .int b1), (2, .int y1.1), (0, .ref 69), (1, .int x1)]) dX12_puts_18 (by decide) rfl ?_
  refine Y_aload_n (pc := 20) (j := 3) dX12_puts_20 rfl rfl ?_
  refine Z_getr (pc := 21) dX12_puts_21 w8_119 (lk_69 hPy2) fr_12_53 (lr_69_53 hPy2) ?_
  refine Y_iload_n (pc := 24) (j := 1) dX12_puts_24 rfl rfl ?_
  obtain ⟨hb2, h⟩ := okE h
  refine Y_iald (pc := 25) dX12_puts_25 (lk_112 hPy2) (ln_112 hPy2) hb2 ?_
  obtain ⟨b2, eb2, h⟩ := bndE h
  refine VV.topI eb2 ?_
  refine Y_istore (pc := 26) (lv1 := [(5, .int b2), (4, .int y2.1), (3, .int b1), (2, .int y1.1), (0, .ref 69), (1, .int x1)]) dX12_puts_26 (by decide) rfl ?_
  refine Y_aload_n (pc := 28) (j := 4) dX12_puts_28 rfl rfl ?_
  refine Y_iload (pc := 29) (j := 0) dX12_puts_29 rfl ?_
  refine Y_iload_n (pc := 31) (j := 5) dX12_puts_31 rfl rfl ?_
  obtain ⟨y3, qy3, h⟩ := bindE h
  have cy3 := v_X12_shapeBehind hPy2 qy3
  refine C_V2r (pc := 32) (k' := k_X12_shapeBehind) dX12_puts_32 w10_75 i_X12_shapeBehind (lk_69 hPy2) ⟨Nat.le_of_ble_eq_true rfl, Nat.le_of_ble_eq_true rfl⟩ rfl (Nat.le_of_ble_eq_true rfl) (Nat.le_of_ble_eq_true rfl) (Nat.le_of_ble_eq_true rfl) (cy3) ?_
  have hPy3 := cy3.1.1
  refine Y_istore (pc := 35) (lv1 := [(6, .int y3.1), (5, .int b2), (4, .int y2.1), (3, .int b1), (2, .int y1.1), (0, .ref 69), (1, .int x1)]) dX12_puts_35 (by decide) rfl ?_
  refine Y_aload_n (pc := 37) (j := 5) dX12_puts_37 rfl rfl ?_
  refine Z_getr (pc := 38) dX12_puts_38 w8_119 (lk_69 hPy3) fr_12_53 (lr_69_53 hPy3) ?_
  refine Y_iload_n (pc := 41) (j := 3) dX12_puts_41 rfl rfl ?_
  refine Y_iload (pc := 42) (j := 0) dX12_puts_42 rfl ?_
  obtain ⟨hb3, h⟩ := okE h
  refine Y_iast (pc := 44) dX12_puts_44 (lk_112 hPy3) (ln_112 hPy3) hb3 ?_
  obtain ⟨M1, eM1, h⟩ := bndE h
  refine VV.mem eM1 ?_
  have hP1 := hPy3.wI eM1
  refine Y_aload_n (pc := 45) (j := 5) dX12_puts_45 rfl rfl ?_
  refine Z_getr (pc := 46) dX12_puts_46 w8_120 (lk_69 hP1) fr_12_54 (lr_69_54 hP1) ?_
  refine Y_bipush (pc := 49) (v := (6 : Int32)) dX12_puts_49 rfl ?_
  refine Y_iload_n (pc := 51) (j := 3) dX12_puts_51 rfl rfl ?_
  refine Y_imul (pc := 52) dX12_puts_52 ?_
  refine Y_iload_n (pc := 53) (j := 6) dX12_puts_53 rfl rfl ?_
  refine Y_iadd (pc := 54) dX12_puts_54 ?_
  refine Y_aload_n (pc := 55) (j := 5) dX12_puts_55 rfl rfl ?_
  refine Z_getr (pc := 56) dX12_puts_56 w8_110 (lk_69 hP1) fr_12_44 (lr_69_44 hP1) ?_
  refine Y_iload (pc := 59) (j := 2) dX12_puts_59 rfl ?_
  obtain ⟨hb4, h⟩ := okE h
  refine Y_cald (pc := 61) dX12_puts_61 (lk_105 hP1) (ln_105 hP1) hb4 ?_
  obtain ⟨hb5, h⟩ := okE h
  obtain ⟨hb6, h⟩ := okE h
  refine Y_cast (pc := 62) dX12_puts_62 (lk_113 hP1) (ln_113 hP1) hb5 (nar_ch hb6) ?_
  obtain ⟨M2, eM2, h⟩ := bndE h
  refine VV.mem eM2 ?_
  have hP2 := hP1.wI eM2
  refine Y_aload_n (pc := 63) (j := 5) dX12_puts_63 rfl rfl ?_
  refine Z_getr (pc := 64) dX12_puts_64 w8_121 (lk_69 hP2) fr_12_55 (lr_69_55 hP2) ?_
  refine Y_bipush (pc := 67) (v := (6 : Int32)) dX12_puts_67 rfl ?_
  refine Y_iload_n (pc := 69) (j := 3) dX12_puts_69 rfl rfl ?_
  refine Y_imul (pc := 70) dX12_puts_70 ?_
  refine Y_iload_n (pc := 71) (j := 6) dX12_puts_71 rfl rfl ?_
  refine Y_iadd (pc := 72) dX12_puts_72 ?_
  refine Y_aload_n (pc := 73) (j := 5) dX12_puts_73 rfl rfl ?_
  refine Z_getr (pc := 74) dX12_puts_74 w8_111 (lk_69 hP2) fr_12_45 (lr_69_45 hP2) ?_
  refine Y_iload (pc := 77) (j := 2) dX12_puts_77 rfl ?_
  obtain ⟨hb7, h⟩ := okE h
  refine Y_iald (pc := 79) dX12_puts_79 (lk_106 hP2) (ln_106 hP2) hb7 ?_
  obtain ⟨hb8, h⟩ := okE h
  refine Y_iast (pc := 80) dX12_puts_80 (lk_114 hP2) (ln_114 hP2) hb8 ?_
  obtain ⟨M3, eM3, h⟩ := bndE h
  refine VV.mem eM3 ?_
  have hP3 := hP2.wI eM3
  refine Y_aload_n (pc := 81) (j := 5) dX12_puts_81 rfl rfl ?_
  refine Z_getr (pc := 82) dX12_puts_82 w8_122 (lk_69 hP3) fr_12_56 (lr_69_56 hP3) ?_
  refine Y_bipush (pc := 85) (v := (6 : Int32)) dX12_puts_85 rfl ?_
  refine Y_iload_n (pc := 87) (j := 3) dX12_puts_87 rfl rfl ?_
  refine Y_imul (pc := 88) dX12_puts_88 ?_
  refine Y_iload_n (pc := 89) (j := 6) dX12_puts_89 rfl rfl ?_
  refine Y_iadd (pc := 90) dX12_puts_90 ?_
  refine Y_aload_n (pc := 91) (j := 5) dX12_puts_91 rfl rfl ?_
  refine Z_getr (pc := 92) dX12_puts_92 w8_112 (lk_69 hP3) fr_12_46 (lr_69_46 hP3) ?_
  refine Y_iload (pc := 95) (j := 2) dX12_puts_95 rfl ?_
  obtain ⟨hb9, h⟩ := okE h
  refine Y_dald (pc := 97) dX12_puts_97 (lk_107 hP3) (ln_107 hP3) hb9 ?_
  obtain ⟨hb10, h⟩ := okE h
  refine Y_dast (pc := 98) dX12_puts_98 (lk_115 hP3) (ln_115 hP3) hb10 ?_
  obtain ⟨M4, eM4, h⟩ := bndE h
  refine VV.mem eM4 ?_
  have hP4 := hP3.wD eM4
  refine Y_aload_n (pc := 99) (j := 5) dX12_puts_99 rfl rfl ?_
  refine Z_geti (pc := 100) dX12_puts_100 w8_137 (lk_69 hP4) fi_12_71 ?_
  refine Y_if_eq (pc := 103) (tgt := 152) dX12_puts_103 (by decide) (fun hc1 => ?_) (fun hc1 => ?_)
  · replace h := ifT hc1 h
    refine VV.sub [5] rfl ?_
    exact b_X12_puts_152  hP4 h
  · replace h := ifF hc1 h
    refine Y_iload (pc := 106) (j := 0) dX12_puts_106 rfl ?_
    refine Y_iload (pc := 108) (j := 1) dX12_puts_108 rfl ?_
    refine Y_icmp_eq (pc := 110) (tgt := 152) dX12_puts_110 (by decide) (fun hc2 => ?_) (fun hc2 => ?_)
    · replace h := ifT hc2 h
      refine VV.sub [5] rfl ?_
      exact b_X12_puts_152  hP4 h
    · replace h := ifF hc2 h
      refine Y_iconst (pc := 113) (v := (0 : Int32)) dX12_puts_113 rfl ?_
      refine Y_istore (pc := 114) (lv1 := [(7, .int (0 : Int32)), (6, .int y3.1), (5, .int b2), (4, .int y2.1), (3, .int b1), (2, .int y1.1), (0, .ref 69), (1, .int x1)]) dX12_puts_114 (by decide) rfl ?_
      refine VV.sub [6, 5, 1, 0] rfl ?_
      exact b_X12_puts_116  fuel _ _ _ h hP4
theorem v_X12_puts {x1 : Int32} {M z} (hP : Lay M) (h : d_X12_puts x1 M = some z) : CC Lay k_X12_puts [.ref 69, .int x1] M z.2 (Qv (none) z.2) xF :=
  CC.ofVV (by decide) rfl (Nat.le_of_ble_eq_true rfl) (b_X12_puts hP h)
theorem b_X12_returns {M z} (hP : Lay M) (h : d_X12_returns M = some z) : VV Lay k_X12_returns 0 [(0, .ref 69)] [] M z.2 (Qv (none) z.2) xF := by
  unfold d_X12_returns at h
  refine Y_aload_n (pc := 0) (j := 0) dX12_returns_0 rfl rfl ?_
  refine Y_iconst (pc := 1) (v := (0 : Int32)) dX12_returns_1 rfl ?_
  obtain ⟨y1, qy1, h⟩ := bindE h
  have cy1 := v_X12_top hP qy1
  refine C_V1r (pc := 2) (k' := k_X12_top) dX12_returns_2 w9_200 i_X12_top (lk_69 hP) ⟨Nat.le_of_ble_eq_true rfl, Nat.le_of_ble_eq_true rfl⟩ rfl (Nat.le_of_ble_eq_true rfl) (Nat.le_of_ble_eq_true rfl) (Nat.le_of_ble_eq_true rfl) (cy1) ?_
  have hPy1 := cy1.1.1
  refine Y_istore_n (pc := 5) (lv1 := [(1, .int y1.1), (0, .ref 69)]) dX12_returns_5 rfl (by decide) rfl ?_
  refine Y_aload_n (pc := 6) (j := 1) dX12_returns_6 rfl rfl ?_
  refine Z_geti (pc := 7) dX12_returns_7 w8_114 (lk_69 hPy1) fi_12_48 ?_
  refine Y_if_ne (pc := 10) (tgt := 60) dX12_returns_10 (by decide) (fun hc1 => ?_) (fun hc1 => ?_)
  · replace h := ifF hc1 h
    refine Y_aload_n (pc := 60) (j := 1) dX12_returns_60 rfl rfl ?_
    refine Y_dup (pc := 61) dX12_returns_61 rfl ?_
    refine Z_geti (pc := 62) dX12_returns_62 w8_114 (lk_69 hPy1) fi_12_48 ?_
    refine Y_iconst (pc := 65) (v := (1 : Int32)) dX12_returns_65 rfl ?_
    refine Y_isub (pc := 66) dX12_returns_66 ?_
    refine Z_puti (pc := 67) dX12_returns_67 w8_114 (lk_69 hPy1) fi_12_48 (Or.inl rfl) rfl ?_
    obtain ⟨M1, eM1, h⟩ := bndE h
    refine VV.mem eM1 ?_
    have hP1 := hPy1.wI eM1
    refine Y_aload_n (pc := 70) (j := 1) dX12_returns_70 rfl rfl ?_
    refine Z_getr (pc := 71) dX12_returns_71 w8_117 (lk_69 hP1) fr_12_51 (lr_69_51 hP1) ?_
    refine Y_aload_n (pc := 74) (j := 1) dX12_returns_74 rfl rfl ?_
    refine Z_geti (pc := 75) dX12_returns_75 w8_114 (lk_69 hP1) fi_12_48 ?_
    refine Y_dup2 (pc := 78) dX12_returns_78 rfl rfl ?_
    obtain ⟨hb1, h⟩ := okE h
    refine Y_iald (pc := 79) dX12_returns_79 (lk_111 hP1) (ln_111 hP1) hb1 ?_
    refine Y_iconst (pc := 80) (v := (1 : Int32)) dX12_returns_80 rfl ?_
    refine Y_iadd (pc := 81) dX12_returns_81 ?_
    obtain ⟨hb2, h⟩ := okE h
    refine Y_iast (pc := 82) dX12_returns_82 (lk_111 hP1) (ln_111 hP1) hb2 ?_
    obtain ⟨M2, eM2, h⟩ := bndE h
    refine VV.mem eM2 ?_
    have hP2 := hP1.wI eM2
    refine Y_aload_n (pc := 83) (j := 1) dX12_returns_83 rfl rfl ?_
    refine Y_iload_n (pc := 84) (j := 0) dX12_returns_84 rfl rfl ?_
    refine Y_aload_n (pc := 85) (j := 1) dX12_returns_85 rfl rfl ?_
    refine Y_iconst (pc := 86) (v := (0 : Int32)) dX12_returns_86 rfl ?_
    obtain ⟨y2, qy2, h⟩ := bindE h
    have cy2 := v_X12_top hP2 qy2
    refine C_V1r (pc := 87) (k' := k_X12_top) dX12_returns_87 w9_200 i_X12_top (lk_69 hP2) ⟨Nat.le_of_ble_eq_true rfl, Nat.le_of_ble_eq_true rfl⟩ rfl (Nat.le_of_ble_eq_true rfl) (Nat.le_of_ble_eq_true rfl) (Nat.le_of_ble_eq_true rfl) (cy2) ?_
    have hPy2 := cy2.1.1
    obtain ⟨y3, qy3, h⟩ := bindE h
    have cy3 := v_X12_copies hPy2 qy3
    refine C_V2o (pc := 90) (k' := k_X12_copies) dX12_returns_90 w10_55 i_X12_copies (lk_69 hPy2) ⟨Nat.le_of_ble_eq_true rfl, Nat.le_of_ble_eq_true rfl⟩ rfl (Nat.le_of_ble_eq_true rfl) (Nat.le_of_ble_eq_true rfl) (Nat.le_of_ble_eq_true rfl) (cy3) ?_
    have hPy3 := cy3.1.1
    cases h
    exact Y_vret (pc := 93) rfl dX12_returns_93 hPy3 ⟨rfl, rfl⟩
  · replace h := ifT hc1 h
    refine Y_aload_n (pc := 13) (j := 1) dX12_returns_13 rfl rfl ?_
    refine Y_iconst (pc := 14) (v := (0 : Int32)) dX12_returns_14 rfl ?_
    refine Z_putz (pc := 15) dX12_returns_15 w8_133 (lk_69 hPy1) fi_12_67 (Or.inl rfl) rfl (by decide) ?_
    obtain ⟨M3, eM3, h⟩ := bndE h
    refine VV.mem eM3 ?_
    have hP3 := hPy1.wI eM3
    refine Y_aload_n (pc := 18) (j := 1) dX12_returns_18 rfl rfl ?_
    refine Y_bipush (pc := 19) (v := (118 : Int32)) dX12_returns_19 rfl ?_
    refine Z_putc (pc := 21) dX12_returns_21 w8_128 (lk_69 hP3) fi_12_62 (Or.inl rfl) rfl (by decide) ?_
    obtain ⟨M4, eM4, h⟩ := bndE h
    refine VV.mem eM4 ?_
    have hP4 := hP3.wI eM4
    refine Y_aload_n (pc := 24) (j := 1) dX12_returns_24 rfl rfl ?_
    refine Y_aload_n (pc := 25) (j := 1) dX12_returns_25 rfl rfl ?_
    refine Z_getr (pc := 26) dX12_returns_26 w8_110 (lk_69 hP4) fr_12_44 (lr_69_44 hP4) ?_
    refine Y_iload_n (pc := 29) (j := 0) dX12_returns_29 rfl rfl ?_
    obtain ⟨hb3, h⟩ := okE h
    refine Y_cald (pc := 30) dX12_returns_30 (lk_105 hP4) (ln_105 hP4) hb3 ?_
    obtain ⟨hb4, h⟩ := okE h
    refine Z_putc (pc := 31) dX12_returns_31 w8_129 (lk_69 hP4) fi_12_63 (Or.inl rfl) rfl hb4 ?_
    obtain ⟨M5, eM5, h⟩ := bndE h
    refine VV.mem eM5 ?_
    have hP5 := hP4.wI eM5
    refine Y_aload_n (pc := 34) (j := 1) dX12_returns_34 rfl rfl ?_
    refine Y_aload_n (pc := 35) (j := 1) dX12_returns_35 rfl rfl ?_
    refine Z_getr (pc := 36) dX12_returns_36 w8_110 (lk_69 hP5) fr_12_44 (lr_69_44 hP5) ?_
    refine Y_iload_n (pc := 39) (j := 0) dX12_returns_39 rfl rfl ?_
    obtain ⟨hb5, h⟩ := okE h
    refine Y_cald (pc := 40) dX12_returns_40 (lk_105 hP5) (ln_105 hP5) hb5 ?_
    refine Y_aload_n (pc := 41) (j := 1) dX12_returns_41 rfl rfl ?_
    refine Z_getr (pc := 42) dX12_returns_42 w8_111 (lk_69 hP5) fr_12_45 (lr_69_45 hP5) ?_
    refine Y_iload_n (pc := 45) (j := 0) dX12_returns_45 rfl rfl ?_
    obtain ⟨hb6, h⟩ := okE h
    refine Y_iald (pc := 46) dX12_returns_46 (lk_106 hP5) (ln_106 hP5) hb6 ?_
    refine Y_aload_n (pc := 47) (j := 1) dX12_returns_47 rfl rfl ?_
    refine Z_getr (pc := 48) dX12_returns_48 w8_112 (lk_69 hP5) fr_12_46 (lr_69_46 hP5) ?_
    refine Y_iload_n (pc := 51) (j := 0) dX12_returns_51 rfl rfl ?_
    obtain ⟨hb7, h⟩ := okE h
    refine Y_dald (pc := 52) dX12_returns_52 (lk_107 hP5) (ln_107 hP5) hb7 ?_
    obtain ⟨y4, qy4, h⟩ := bindE h
    have cy4 := v_X12_told hP5 qy4
    refine C_S3r (pc := 53) (k' := k_X12_told) dX12_returns_53 w10_87 i_X12_told (Nat.le_of_ble_eq_true rfl) (Nat.le_of_ble_eq_true rfl) (Nat.le_of_ble_eq_true rfl) (cy4) ?_
    have hPy4 := cy4.1.1
    refine Z_putl (pc := 56) dX12_returns_56 w8_130 (lk_69 hPy4) fl_12_64 (Or.inl rfl) rfl ?_
    obtain ⟨M6, eM6, h⟩ := bndE h
    refine VV.mem eM6 ?_
    have hP6 := hPy4.wL eM6
    cases h
    exact Y_vret (pc := 59) rfl dX12_returns_59 hP6 ⟨rfl, rfl⟩
theorem v_X12_returns {M z} (hP : Lay M) (h : d_X12_returns M = some z) : CC Lay k_X12_returns [.ref 69] M z.2 (Qv (none) z.2) xF :=
  CC.ofVV (by decide) rfl (Nat.le_of_ble_eq_true rfl) (b_X12_returns hP h)
theorem b_X12_tells_70 {M z} (hP : Lay M) (h : d_X12_tells_70 M = some z) : VV Lay k_X12_tells 70 [(0, .ref 69)] [] M z.2 (Qv (none) z.2) xF := by
  unfold d_X12_tells_70 at h
  refine Y_aload_n (pc := 70) (j := 0) dX12_tells_70 rfl rfl ?_
  refine Z_getr (pc := 71) dX12_tells_71 w8_117 (lk_69 hP) fr_12_51 (lr_69_51 hP) ?_
  refine Y_aload_n (pc := 74) (j := 0) dX12_tells_74 rfl rfl ?_
  refine Z_geti (pc := 75) dX12_tells_75 w8_114 (lk_69 hP) fi_12_48 ?_
  refine Y_dup2 (pc := 78) dX12_tells_78 rfl rfl ?_
  obtain ⟨hb1, h⟩ := okE h
  refine Y_iald (pc := 79) dX12_tells_79 (lk_111 hP) (ln_111 hP) hb1 ?_
  refine Y_iconst (pc := 80) (v := (1 : Int32)) dX12_tells_80 rfl ?_
  refine Y_isub (pc := 81) dX12_tells_81 ?_
  obtain ⟨hb2, h⟩ := okE h
  refine Y_iast (pc := 82) dX12_tells_82 (lk_111 hP) (ln_111 hP) hb2 ?_
  obtain ⟨M1, eM1, h⟩ := bndE h
  refine VV.mem eM1 ?_
  have hP1 := hP.wI eM1
  refine Y_aload_n (pc := 83) (j := 0) dX12_tells_83 rfl rfl ?_
  refine Z_getr (pc := 84) dX12_tells_84 w8_116 (lk_69 hP1) fr_12_50 (lr_69_50 hP1) ?_
  refine Y_aload_n (pc := 87) (j := 0) dX12_tells_87 rfl rfl ?_
  refine Z_geti (pc := 88) dX12_tells_88 w8_114 (lk_69 hP1) fi_12_48 ?_
  refine Y_dup2 (pc := 91) dX12_tells_91 rfl rfl ?_
  obtain ⟨hb3, h⟩ := okE h
  refine Y_iald (pc := 92) dX12_tells_92 (lk_110 hP1) (ln_110 hP1) hb3 ?_
  refine Y_iconst (pc := 93) (v := (1 : Int32)) dX12_tells_93 rfl ?_
  refine Y_iadd (pc := 94) dX12_tells_94 ?_
  obtain ⟨hb4, h⟩ := okE h
  refine Y_iast (pc := 95) dX12_tells_95 (lk_110 hP1) (ln_110 hP1) hb4 ?_
  obtain ⟨M2, eM2, h⟩ := bndE h
  refine VV.mem eM2 ?_
  have hP2 := hP1.wI eM2
  cases h
  exact Y_vret (pc := 96) rfl dX12_tells_96 hP2 ⟨rfl, rfl⟩
theorem b_X12_tells {M z} (hP : Lay M) (h : d_X12_tells M = some z) : VV Lay k_X12_tells 0 [(0, .ref 69)] [] M z.2 (Qv (none) z.2) xF := by
  unfold d_X12_tells at h
  refine Y_aload_n (pc := 0) (j := 0) dX12_tells_0 rfl rfl ?_
  refine Y_iconst (pc := 1) (v := (0 : Int32)) dX12_tells_1 rfl ?_
  obtain ⟨y1, qy1, h⟩ := bindE h
  have cy1 := v_X12_top hP qy1
  refine C_V1r (pc := 2) (k' := k_X12_top) dX12_tells_2 w9_200 i_X12_top (lk_69 hP) ⟨Nat.le_of_ble_eq_true rfl, Nat.le_of_ble_eq_true rfl⟩ rfl (Nat.le_of_ble_eq_true rfl) (Nat.le_of_ble_eq_true rfl) (Nat.le_of_ble_eq_true rfl) (cy1) ?_
  have hPy1 := cy1.1.1
  refine Y_istore_n (pc := 5) (lv1 := [(1, .int y1.1), (0, .ref 69)]) dX12_tells_5 rfl (by decide) rfl ?_
  refine Y_aload_n (pc := 6) (j := 1) dX12_tells_6 rfl rfl ?_
  refine Z_geti (pc := 7) dX12_tells_7 w8_125 (lk_69 hPy1) fi_12_59 ?_
  refine Y_bipush (pc := 10) (v := (20 : Int32)) dX12_tells_10 rfl ?_
  refine Y_icmp_ge (pc := 12) (tgt := 70) dX12_tells_12 (by decide) (fun hc1 => ?_) (fun hc1 => ?_)
  · replace h := ifT hc1 h
    refine VV.sub [1] rfl ?_
    exact b_X12_tells_70  hPy1 h
  · replace h := ifF hc1 h
    refine Y_aload_n (pc := 15) (j := 1) dX12_tells_15 rfl rfl ?_
    refine Z_getr (pc := 16) dX12_tells_16 w8_126 (lk_69 hPy1) fr_12_60 (lr_69_60 hPy1) ?_
    refine Y_aload_n (pc := 19) (j := 1) dX12_tells_19 rfl rfl ?_
    refine Z_geti (pc := 20) dX12_tells_20 w8_125 (lk_69 hPy1) fi_12_59 ?_
    refine Y_aload_n (pc := 23) (j := 1) dX12_tells_23 rfl rfl ?_
    refine Z_getr (pc := 24) dX12_tells_24 w8_110 (lk_69 hPy1) fr_12_44 (lr_69_44 hPy1) ?_
    refine Y_iload_n (pc := 27) (j := 0) dX12_tells_27 rfl rfl ?_
    obtain ⟨hb1, h⟩ := okE h
    refine Y_cald (pc := 28) dX12_tells_28 (lk_105 hPy1) (ln_105 hPy1) hb1 ?_
    obtain ⟨hb2, h⟩ := okE h
    obtain ⟨hb3, h⟩ := okE h
    refine Y_cast (pc := 29) dX12_tells_29 (lk_116 hPy1) (ln_116 hPy1) hb2 (nar_ch hb3) ?_
    obtain ⟨M1, eM1, h⟩ := bndE h
    refine VV.mem eM1 ?_
    have hP1 := hPy1.wI eM1
    refine Y_aload_n (pc := 30) (j := 1) dX12_tells_30 rfl rfl ?_
    refine Z_getr (pc := 31) dX12_tells_31 w8_127 (lk_69 hP1) fr_12_61 (lr_69_61 hP1) ?_
    refine Y_aload_n (pc := 34) (j := 1) dX12_tells_34 rfl rfl ?_
    refine Z_geti (pc := 35) dX12_tells_35 w8_125 (lk_69 hP1) fi_12_59 ?_
    refine Y_aload_n (pc := 38) (j := 1) dX12_tells_38 rfl rfl ?_
    refine Z_getr (pc := 39) dX12_tells_39 w8_110 (lk_69 hP1) fr_12_44 (lr_69_44 hP1) ?_
    refine Y_iload_n (pc := 42) (j := 0) dX12_tells_42 rfl rfl ?_
    obtain ⟨hb4, h⟩ := okE h
    refine Y_cald (pc := 43) dX12_tells_43 (lk_105 hP1) (ln_105 hP1) hb4 ?_
    refine Y_aload_n (pc := 44) (j := 1) dX12_tells_44 rfl rfl ?_
    refine Z_getr (pc := 45) dX12_tells_45 w8_111 (lk_69 hP1) fr_12_45 (lr_69_45 hP1) ?_
    refine Y_iload_n (pc := 48) (j := 0) dX12_tells_48 rfl rfl ?_
    obtain ⟨hb5, h⟩ := okE h
    refine Y_iald (pc := 49) dX12_tells_49 (lk_106 hP1) (ln_106 hP1) hb5 ?_
    refine Y_aload_n (pc := 50) (j := 1) dX12_tells_50 rfl rfl ?_
    refine Z_getr (pc := 51) dX12_tells_51 w8_112 (lk_69 hP1) fr_12_46 (lr_69_46 hP1) ?_
    refine Y_iload_n (pc := 54) (j := 0) dX12_tells_54 rfl rfl ?_
    obtain ⟨hb6, h⟩ := okE h
    refine Y_dald (pc := 55) dX12_tells_55 (lk_107 hP1) (ln_107 hP1) hb6 ?_
    obtain ⟨y2, qy2, h⟩ := bindE h
    have cy2 := v_X12_told hP1 qy2
    refine C_S3r (pc := 56) (k' := k_X12_told) dX12_tells_56 w10_87 i_X12_told (Nat.le_of_ble_eq_true rfl) (Nat.le_of_ble_eq_true rfl) (Nat.le_of_ble_eq_true rfl) (cy2) ?_
    have hPy2 := cy2.1.1
    obtain ⟨hb7, h⟩ := okE h
    refine Y_last (pc := 59) dX12_tells_59 (lk_117 hPy2) (ln_117 hPy2) hb7 ?_
    obtain ⟨M2, eM2, h⟩ := bndE h
    refine VV.mem eM2 ?_
    have hP2 := hPy2.wL eM2
    refine Y_aload_n (pc := 60) (j := 1) dX12_tells_60 rfl rfl ?_
    refine Y_dup (pc := 61) dX12_tells_61 rfl ?_
    refine Z_geti (pc := 62) dX12_tells_62 w8_125 (lk_69 hP2) fi_12_59 ?_
    refine Y_iconst (pc := 65) (v := (1 : Int32)) dX12_tells_65 rfl ?_
    refine Y_iadd (pc := 66) dX12_tells_66 ?_
    refine Z_puti (pc := 67) dX12_tells_67 w8_125 (lk_69 hP2) fi_12_59 (Or.inl rfl) rfl ?_
    obtain ⟨M3, eM3, h⟩ := bndE h
    refine VV.mem eM3 ?_
    have hP3 := hP2.wI eM3
    refine VV.sub [1] rfl ?_
    exact b_X12_tells_70  hP3 h
theorem v_X12_tells {M z} (hP : Lay M) (h : d_X12_tells M = some z) : CC Lay k_X12_tells [.ref 69] M z.2 (Qv (none) z.2) xF :=
  CC.ofVV (by decide) rfl (Nat.le_of_ble_eq_true rfl) (b_X12_tells hP h)
theorem b_X12_made_64 {x1 : Int32} {x2 : Int32} {s0 : Int32} {M z} (hP : Lay M) (h : d_X12_made_64 x1 x2 s0 M = some z) : VV Lay k_X12_made 64 [(0, .ref 69), (1, .int x1), (2, .int x2)] [.int s0] M z.2 (Qv (some (.int z.1)) z.2) xF := by
  unfold d_X12_made_64 at h
  refine Y_istore_n (pc := 64) (lv1 := [(3, .int s0), (0, .ref 69), (1, .int x1), (2, .int x2)]) dX12_made_64 rfl (by decide) rfl ?_
  refine Y_aload_n (pc := 65) (j := 1) dX12_made_65 rfl rfl ?_
  refine Z_getr (pc := 66) dX12_made_66 w8_153 (lk_69 hP) fr_12_87 (lr_69_87 hP) ?_
  refine Y_iload_n (pc := 69) (j := 3) dX12_made_69 rfl rfl ?_
  refine Y_iload_n (pc := 70) (j := 2) dX12_made_70 rfl rfl ?_
  refine Y_if_ne (pc := 71) (tgt := 78) dX12_made_71 (by decide) (fun hc1 => ?_) (fun hc1 => ?_)
  · replace h := ifF hc1 h
    refine Y_iload_n (pc := 78) (j := 0) dX12_made_78 rfl rfl ?_
    refine Y_if_eq (pc := 79) (tgt := 86) dX12_made_79 (by decide) (fun hc2 => ?_) (fun hc2 => ?_)
    · replace h := ifT hc2 h
      refine Y_iconst (pc := 86) (v := (2 : Int32)) dX12_made_86 rfl ?_
      obtain ⟨hb1, h⟩ := okE h
      refine Y_iast (pc := 87) dX12_made_87 (lk_126 hP) (ln_126 hP) hb1 ?_
      obtain ⟨M1, eM1, h⟩ := bndE h
      refine VV.mem eM1 ?_
      have hP1 := hP.wI eM1
      refine Y_iload_n (pc := 88) (j := 3) dX12_made_88 rfl rfl ?_
      cases h
      exact Y_iret (pc := 89) rfl rfl dX12_made_89 hP1 ⟨rfl, rfl⟩
    · replace h := ifF hc2 h
      refine Y_iconst (pc := 82) (v := (1 : Int32)) dX12_made_82 rfl ?_
      refine Y_goto (pc := 83) (tgt := 87) dX12_made_83 (by decide) ?_
      obtain ⟨hb2, h⟩ := okE h
      refine Y_iast (pc := 87) dX12_made_87 (lk_126 hP) (ln_126 hP) hb2 ?_
      obtain ⟨M2, eM2, h⟩ := bndE h
      refine VV.mem eM2 ?_
      have hP2 := hP.wI eM2
      refine Y_iload_n (pc := 88) (j := 3) dX12_made_88 rfl rfl ?_
      cases h
      exact Y_iret (pc := 89) rfl rfl dX12_made_89 hP2 ⟨rfl, rfl⟩
  · replace h := ifT hc1 h
    refine Y_iconst (pc := 74) (v := (0 : Int32)) dX12_made_74 rfl ?_
    refine Y_goto (pc := 75) (tgt := 87) dX12_made_75 (by decide) ?_
    obtain ⟨hb3, h⟩ := okE h
    refine Y_iast (pc := 87) dX12_made_87 (lk_126 hP) (ln_126 hP) hb3 ?_
    obtain ⟨M3, eM3, h⟩ := bndE h
    refine VV.mem eM3 ?_
    have hP3 := hP.wI eM3
    refine Y_iload_n (pc := 88) (j := 3) dX12_made_88 rfl rfl ?_
    cases h
    exact Y_iret (pc := 89) rfl rfl dX12_made_89 hP3 ⟨rfl, rfl⟩
theorem b_X12_made_63 {x1 : Int32} {x2 : Int32} {M z} (hP : Lay M) (h : d_X12_made_63 x1 x2 M = some z) : VV Lay k_X12_made 63 [(0, .ref 69), (1, .int x1), (2, .int x2)] [] M z.2 (Qv (some (.int z.1)) z.2) xF := by
  unfold d_X12_made_63 at h
  refine Y_iconst (pc := 63) (v := (0 : Int32)) dX12_made_63 rfl ?_
  refine VV.sub [0, 1, 2] rfl ?_
  exact b_X12_made_64  hP h
theorem b_X12_made_59 {x1 : Int32} {x2 : Int32} {M z} (hP : Lay M) (h : d_X12_made_59 x1 x2 M = some z) : VV Lay k_X12_made 59 [(0, .ref 69), (1, .int x1), (2, .int x2)] [] M z.2 (Qv (some (.int z.1)) z.2) xF := by
  unfold d_X12_made_59 at h
  refine Y_iconst (pc := 59) (v := (1 : Int32)) dX12_made_59 rfl ?_
  refine Y_goto (pc := 60) (tgt := 64) dX12_made_60 (by decide) ?_
  refine VV.sub [0, 1, 2] rfl ?_
  exact b_X12_made_64  hP h
theorem b_X12_made_41 {x1 : Int32} {x2 : Int32} {M z} (hP : Lay M) (h : d_X12_made_41 x1 x2 M = some z) : VV Lay k_X12_made 41 [(0, .ref 69), (1, .int x1), (2, .int x2)] [] M z.2 (Qv (some (.int z.1)) z.2) xF := by
  unfold d_X12_made_41 at h
  refine Y_aload_n (pc := 41) (j := 0) dX12_made_41 rfl rfl ?_
  refine Z_geti (pc := 42) dX12_made_42 w8_154 (lk_69 hP) fi_12_88 ?_
  refine Y_bipush (pc := 45) (v := (102 : Int32)) dX12_made_45 rfl ?_
  refine Y_icmp_ne (pc := 47) (tgt := 63) dX12_made_47 (by decide) (fun hc1 => ?_) (fun hc1 => ?_)
  · replace h := ifF hc1 h
    refine VV.sub [0, 1, 2] rfl ?_
    exact b_X12_made_63  hP h
  · replace h := ifT hc1 h
    refine Y_aload_n (pc := 50) (j := 0) dX12_made_50 rfl rfl ?_
    refine Z_getd (pc := 51) dX12_made_51 w8_156 (lk_69 hP) fd_12_90 ?_
    refine Y_dconst0 (pc := 54) dX12_made_54 ?_
    refine Y_dcmp (pc := 55) dX12_made_55 ?_
    refine Y_if_ne (pc := 56) (tgt := 63) dX12_made_56 (by decide) (fun hc2 => ?_) (fun hc2 => ?_)
    · replace h := ifF hc2 h
      refine VV.sub [0, 1, 2] rfl ?_
      exact b_X12_made_63  hP h
    · replace h := ifT hc2 h
      refine VV.sub [0, 1, 2] rfl ?_
      exact b_X12_made_59  hP h
theorem b_X12_made {x1 : Int32} {M z} (hP : Lay M) (h : d_X12_made x1 M = some z) : VV Lay k_X12_made 0 [(0, .ref 69), (1, .int x1)] [] M z.2 (Qv (some (.int z.1)) z.2) xF := by
  unfold d_X12_made at h
  refine Y_aload_n (pc := 0) (j := 0) dX12_made_0 rfl rfl ?_
  refine Z_geti (pc := 1) dX12_made_1 w8_137 (lk_69 hP) fi_12_71 ?_
  refine Y_if_ne (pc := 4) (tgt := 9) dX12_made_4 (by decide) (fun hc1 => ?_) (fun hc1 => ?_)
  · replace h := ifF hc1 h
    refine Y_aload_n (pc := 9) (j := 0) dX12_made_9 rfl rfl ?_
    refine Y_aload_n (pc := 10) (j := 0) dX12_made_10 rfl rfl ?_
    refine Z_geti (pc := 11) dX12_made_11 w8_154 (lk_69 hP) fi_12_88 ?_
    obtain ⟨y1, qy1, h⟩ := bindE h
    have cy1 := v_X12_valueOf hP qy1
    refine C_V1r (pc := 14) (k' := k_X12_valueOf) dX12_made_14 w10_47 i_X12_valueOf (lk_69 hP) ⟨Nat.le_of_ble_eq_true rfl, Nat.le_of_ble_eq_true rfl⟩ rfl (Nat.le_of_ble_eq_true rfl) (Nat.le_of_ble_eq_true rfl) (Nat.le_of_ble_eq_true rfl) (cy1) ?_
    have hPy1 := cy1.1.1
    refine Y_istore_n (pc := 17) (lv1 := [(2, .int y1.1), (0, .ref 69), (1, .int x1)]) dX12_made_17 rfl (by decide) rfl ?_
    refine Y_aload_n (pc := 18) (j := 1) dX12_made_18 rfl rfl ?_
    refine Z_getr (pc := 19) dX12_made_19 w8_151 (lk_69 hPy1) fr_12_85 (lr_69_85 hPy1) ?_
    refine Y_iload_n (pc := 22) (j := 0) dX12_made_22 rfl rfl ?_
    refine Y_iload_n (pc := 23) (j := 2) dX12_made_23 rfl rfl ?_
    obtain ⟨hb1, h⟩ := okE h
    obtain ⟨hb2, h⟩ := okE h
    refine Y_zast (pc := 24) dX12_made_24 (lk_124 hPy1) (ln_124 hPy1) hb1 (nar_bo hb2) ?_
    obtain ⟨M1, eM1, h⟩ := bndE h
    refine VV.mem eM1 ?_
    have hP1 := hPy1.wI eM1
    refine Y_aload_n (pc := 25) (j := 1) dX12_made_25 rfl rfl ?_
    refine Z_geti (pc := 26) dX12_made_26 w8_154 (lk_69 hP1) fi_12_88 ?_
    refine Y_bipush (pc := 29) (v := (105 : Int32)) dX12_made_29 rfl ?_
    refine Y_icmp_ne (pc := 31) (tgt := 41) dX12_made_31 (by decide) (fun hc2 => ?_) (fun hc2 => ?_)
    · replace h := ifF hc2 h
      refine VV.sub [1, 2, 0] rfl ?_
      exact b_X12_made_41  hP1 h
    · replace h := ifT hc2 h
      refine Y_aload_n (pc := 34) (j := 1) dX12_made_34 rfl rfl ?_
      refine Z_geti (pc := 35) dX12_made_35 w8_155 (lk_69 hP1) fi_12_89 ?_
      refine Y_if_eq (pc := 38) (tgt := 59) dX12_made_38 (by decide) (fun hc3 => ?_) (fun hc3 => ?_)
      · replace h := ifT hc3 h
        refine VV.sub [1, 2, 0] rfl ?_
        exact b_X12_made_59  hP1 h
      · replace h := ifF hc3 h
        refine VV.sub [1, 2, 0] rfl ?_
        exact b_X12_made_41  hP1 h
  · replace h := ifT hc1 h
    refine Y_iconst (pc := 7) (v := (0 : Int32)) dX12_made_7 rfl ?_
    cases h
    exact Y_iret (pc := 8) rfl rfl dX12_made_8 hP ⟨rfl, rfl⟩
theorem v_X12_made {x1 : Int32} {M z} (hP : Lay M) (h : d_X12_made x1 M = some z) : CC Lay k_X12_made [.ref 69, .int x1] M z.2 (Qv (some (.int z.1)) z.2) xF :=
  CC.ofVV (by decide) rfl (Nat.le_of_ble_eq_true rfl) (b_X12_made hP h)
theorem b_X12_reckonsOn_194 {x2 : Int32} {M z} (hP : Lay M) (h : d_X12_reckonsOn_194 x2 M = some z) : VV Lay k_X12_reckonsOn 194 [(0, .ref 69), (2, .int x2)] [] M z.2 (Qv (none) z.2) xF := by
  unfold d_X12_reckonsOn_194 at h
  refine Y_aload_n (pc := 194) (j := 0) dX12_reckonsOn_194 rfl rfl ?_
  refine Y_iload_n (pc := 195) (j := 1) dX12_reckonsOn_195 rfl rfl ?_
  obtain ⟨y1, qy1, h⟩ := bindE h
  have cy1 := v_X12_pushes hP qy1
  refine C_V1o (pc := 196) (k' := k_X12_pushes) dX12_reckonsOn_196 w10_51 i_X12_pushes (lk_69 hP) ⟨Nat.le_of_ble_eq_true rfl, Nat.le_of_ble_eq_true rfl⟩ rfl (Nat.le_of_ble_eq_true rfl) (Nat.le_of_ble_eq_true rfl) (Nat.le_of_ble_eq_true rfl) (cy1) ?_
  have hPy1 := cy1.1.1
  refine Y_aload_n (pc := 199) (j := 0) dX12_reckonsOn_199 rfl rfl ?_
  refine Z_getr (pc := 200) dX12_reckonsOn_200 w8_116 (lk_69 hPy1) fr_12_50 (lr_69_50 hPy1) ?_
  refine Y_aload_n (pc := 203) (j := 0) dX12_reckonsOn_203 rfl rfl ?_
  refine Z_geti (pc := 204) dX12_reckonsOn_204 w8_114 (lk_69 hPy1) fi_12_48 ?_
  refine Y_dup2 (pc := 207) dX12_reckonsOn_207 rfl rfl ?_
  obtain ⟨hb1, h⟩ := okE h
  refine Y_iald (pc := 208) dX12_reckonsOn_208 (lk_110 hPy1) (ln_110 hPy1) hb1 ?_
  refine Y_iconst (pc := 209) (v := (1 : Int32)) dX12_reckonsOn_209 rfl ?_
  refine Y_iadd (pc := 210) dX12_reckonsOn_210 ?_
  obtain ⟨hb2, h⟩ := okE h
  refine Y_iast (pc := 211) dX12_reckonsOn_211 (lk_110 hPy1) (ln_110 hPy1) hb2 ?_
  obtain ⟨M1, eM1, h⟩ := bndE h
  refine VV.mem eM1 ?_
  have hP1 := hPy1.wI eM1
  cases h
  exact Y_vret (pc := 212) rfl dX12_reckonsOn_212 hP1 ⟨rfl, rfl⟩
theorem b_X12_reckonsOn_171 {x3 : Int32} {s1 : Int32} {s2 : Int32} {M z} (hP : Lay M) (h : d_X12_reckonsOn_171 x3 s1 s2 M = some z) : VV Lay k_X12_reckonsOn 171 [(0, .ref 69), (3, .int x3)] [.int s2, .int s1, .ref 69] M z.2 (Qv (none) z.2) xF := by
  unfold d_X12_reckonsOn_171 at h
  refine Y_dconst0 (pc := 171) dX12_reckonsOn_171 ?_
  obtain ⟨y1, qy1, h⟩ := bindE h
  have cy1 := v_X12_gives hP qy1
  refine C_V3o (pc := 172) (k' := k_X12_gives) dX12_reckonsOn_172 w10_17 i_X12_gives (lk_69 hP) ⟨Nat.le_of_ble_eq_true rfl, Nat.le_of_ble_eq_true rfl⟩ rfl (Nat.le_of_ble_eq_true rfl) (Nat.le_of_ble_eq_true rfl) (Nat.le_of_ble_eq_true rfl) (cy1) ?_
  have hPy1 := cy1.1.1
  refine Y_aload_n (pc := 175) (j := 0) dX12_reckonsOn_175 rfl rfl ?_
  refine Z_getr (pc := 176) dX12_reckonsOn_176 w8_117 (lk_69 hPy1) fr_12_51 (lr_69_51 hPy1) ?_
  refine Y_aload_n (pc := 179) (j := 0) dX12_reckonsOn_179 rfl rfl ?_
  refine Z_geti (pc := 180) dX12_reckonsOn_180 w8_114 (lk_69 hPy1) fi_12_48 ?_
  refine Y_dup2 (pc := 183) dX12_reckonsOn_183 rfl rfl ?_
  obtain ⟨hb1, h⟩ := okE h
  refine Y_iald (pc := 184) dX12_reckonsOn_184 (lk_111 hPy1) (ln_111 hPy1) hb1 ?_
  refine Y_iconst (pc := 185) (v := (1 : Int32)) dX12_reckonsOn_185 rfl ?_
  refine Y_isub (pc := 186) dX12_reckonsOn_186 ?_
  obtain ⟨hb2, h⟩ := okE h
  refine Y_iast (pc := 187) dX12_reckonsOn_187 (lk_111 hPy1) (ln_111 hPy1) hb2 ?_
  obtain ⟨M1, eM1, h⟩ := bndE h
  refine VV.mem eM1 ?_
  have hP1 := hPy1.wI eM1
  refine Y_aload_n (pc := 188) (j := 0) dX12_reckonsOn_188 rfl rfl ?_
  refine Y_iload_n (pc := 189) (j := 1) dX12_reckonsOn_189 rfl rfl ?_
  obtain ⟨y2, qy2, h⟩ := bindE h
  have cy2 := v_X12_made hP1 qy2
  refine C_V1r (pc := 190) (k' := k_X12_made) dX12_reckonsOn_190 w10_43 i_X12_made (lk_69 hP1) ⟨Nat.le_of_ble_eq_true rfl, Nat.le_of_ble_eq_true rfl⟩ rfl (Nat.le_of_ble_eq_true rfl) (Nat.le_of_ble_eq_true rfl) (Nat.le_of_ble_eq_true rfl) (cy2) ?_
  have hPy2 := cy2.1.1
  refine Y_istore_n (pc := 193) (lv1 := [(2, .int y2.1), (0, .ref 69), (3, .int x3)]) dX12_reckonsOn_193 rfl (by decide) rfl ?_
  refine VV.sub [1, 0] rfl ?_
  exact b_X12_reckonsOn_194  hPy2 h
theorem b_X12_reckonsOn_57 {x1 : Int32} {s0 : Int32} {M z} (hP : Lay M) (h : d_X12_reckonsOn_57 x1 s0 M = some z) : VV Lay k_X12_reckonsOn 57 [(0, .ref 69), (1, .int x1)] [.int s0] M z.2 (Qv (none) z.2) xF := by
  unfold d_X12_reckonsOn_57 at h
  refine Y_istore_n (pc := 57) (lv1 := [(3, .int s0), (0, .ref 69), (1, .int x1)]) dX12_reckonsOn_57 rfl (by decide) rfl ?_
  refine Y_aload_n (pc := 58) (j := 1) dX12_reckonsOn_58 rfl rfl ?_
  refine Y_iload_n (pc := 59) (j := 2) dX12_reckonsOn_59 rfl rfl ?_
  refine Y_aload_n (pc := 60) (j := 1) dX12_reckonsOn_60 rfl rfl ?_
  refine Y_iconst (pc := 61) (v := (1 : Int32)) dX12_reckonsOn_61 rfl ?_
  obtain ⟨y1, qy1, h⟩ := bindE h
  have cy1 := v_X12_top hP qy1
  refine C_V1r (pc := 62) (k' := k_X12_top) dX12_reckonsOn_62 w9_200 i_X12_top (lk_69 hP) ⟨Nat.le_of_ble_eq_true rfl, Nat.le_of_ble_eq_true rfl⟩ rfl (Nat.le_of_ble_eq_true rfl) (Nat.le_of_ble_eq_true rfl) (Nat.le_of_ble_eq_true rfl) (cy1) ?_
  have hPy1 := cy1.1.1
  refine Y_aload_n (pc := 65) (j := 1) dX12_reckonsOn_65 rfl rfl ?_
  refine Y_iconst (pc := 66) (v := (0 : Int32)) dX12_reckonsOn_66 rfl ?_
  obtain ⟨y2, qy2, h⟩ := bindE h
  have cy2 := v_X12_top hPy1 qy2
  refine C_V1r (pc := 67) (k' := k_X12_top) dX12_reckonsOn_67 w9_200 i_X12_top (lk_69 hPy1) ⟨Nat.le_of_ble_eq_true rfl, Nat.le_of_ble_eq_true rfl⟩ rfl (Nat.le_of_ble_eq_true rfl) (Nat.le_of_ble_eq_true rfl) (Nat.le_of_ble_eq_true rfl) (cy2) ?_
  have hPy2 := cy2.1.1
  obtain ⟨y3, qy3, h⟩ := bindE h
  have cy3 := v_X12_reckons hPy2 qy3
  refine C_V3o (pc := 70) (k' := k_X12_reckons) dX12_reckonsOn_70 w10_9 i_X12_reckons (lk_69 hPy2) ⟨Nat.le_of_ble_eq_true rfl, Nat.le_of_ble_eq_true rfl⟩ rfl (Nat.le_of_ble_eq_true rfl) (Nat.le_of_ble_eq_true rfl) (Nat.le_of_ble_eq_true rfl) (cy3) ?_
  have hPy3 := cy3.1.1
  refine Y_aload_n (pc := 73) (j := 1) dX12_reckonsOn_73 rfl rfl ?_
  refine Z_getr (pc := 74) dX12_reckonsOn_74 w8_117 (lk_69 hPy3) fr_12_51 (lr_69_51 hPy3) ?_
  refine Y_aload_n (pc := 77) (j := 1) dX12_reckonsOn_77 rfl rfl ?_
  refine Z_geti (pc := 78) dX12_reckonsOn_78 w8_114 (lk_69 hPy3) fi_12_48 ?_
  refine Y_dup2 (pc := 81) dX12_reckonsOn_81 rfl rfl ?_
  obtain ⟨hb1, h⟩ := okE h
  refine Y_iald (pc := 82) dX12_reckonsOn_82 (lk_111 hPy3) (ln_111 hPy3) hb1 ?_
  refine Y_iconst (pc := 83) (v := (2 : Int32)) dX12_reckonsOn_83 rfl ?_
  refine Y_isub (pc := 84) dX12_reckonsOn_84 ?_
  obtain ⟨hb2, h⟩ := okE h
  refine Y_iast (pc := 85) dX12_reckonsOn_85 (lk_111 hPy3) (ln_111 hPy3) hb2 ?_
  obtain ⟨M1, eM1, h⟩ := bndE h
  refine VV.mem eM1 ?_
  have hP1 := hPy3.wI eM1
  refine Y_aload_n (pc := 86) (j := 1) dX12_reckonsOn_86 rfl rfl ?_
  refine Y_iload_n (pc := 87) (j := 0) dX12_reckonsOn_87 rfl rfl ?_
  obtain ⟨y4, qy4, h⟩ := bindE h
  have cy4 := v_X12_made hP1 qy4
  refine C_V1r (pc := 88) (k' := k_X12_made) dX12_reckonsOn_88 w10_43 i_X12_made (lk_69 hP1) ⟨Nat.le_of_ble_eq_true rfl, Nat.le_of_ble_eq_true rfl⟩ rfl (Nat.le_of_ble_eq_true rfl) (Nat.le_of_ble_eq_true rfl) (Nat.le_of_ble_eq_true rfl) (cy4) ?_
  have hPy4 := cy4.1.1
  refine Y_istore_n (pc := 91) (lv1 := [(2, .int y4.1), (3, .int s0), (0, .ref 69), (1, .int x1)]) dX12_reckonsOn_91 rfl (by decide) rfl ?_
  refine Y_goto (pc := 92) (tgt := 194) dX12_reckonsOn_92 (by decide) ?_
  refine VV.sub [2, 0] rfl ?_
  exact b_X12_reckonsOn_194  hPy4 h
theorem b_X12_reckonsOn_56 {x1 : Int32} {M z} (hP : Lay M) (h : d_X12_reckonsOn_56 x1 M = some z) : VV Lay k_X12_reckonsOn 56 [(0, .ref 69), (1, .int x1)] [] M z.2 (Qv (none) z.2) xF := by
  unfold d_X12_reckonsOn_56 at h
  refine Y_iconst (pc := 56) (v := (0 : Int32)) dX12_reckonsOn_56 rfl ?_
  refine VV.sub [0, 1] rfl ?_
  exact b_X12_reckonsOn_57  hP h
end VCR

