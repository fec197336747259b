/-! ===== what the methods reckon (printed by a program) ===== -/
section VCR
noncomputable def d_X12_guards_304 (M : Mem) : Option (Unit × Mem) :=
  (d_X12_asksShape (0 : Int32) M).bind fun y1 =>
  some ((), y1.2)
theorem b_X12_guards_304 {M z} (hP : Lay M) (h : d_X12_guards_304 M = some z) : VV Lay k_X12_guards 304 [(0, .ref 69)] [] M z.2 (Qv (none) z.2) xF := by
  unfold d_X12_guards_304 at h
  refine Y_aload_n (j := 0) dX12_guards_304 rfl rfl ?_
  refine Y_iconst (v := (0 : Int32)) dX12_guards_305 rfl ?_
  obtain ⟨y1, qy1, h⟩ := bindE h
  have cy1 := v_X12_asksShape hP qy1
  refine C_V1o dX12_guards_306 w10_135 i_X12_asksShape (lk_69 hP) ⟨Nat.le_of_ble_eq_true rfl, Nat.le_of_ble_eq_true rfl⟩ rfl (Nat.le_of_ble_eq_true rfl) (Nat.le_of_ble_eq_true rfl) (Nat.le_of_ble_eq_true rfl) (cy1) ?_
  have hPy1 := cy1.1.1
  refine Y_goto (tgt := 323) dX12_guards_309 (by decide) ?_
  cases h
  exact Y_vret rfl dX12_guards_323 hPy1 ⟨rfl, rfl⟩
noncomputable def d_X12_guards_263 (x2 : Int32) (s1 : Int32) (s2 : Int32) (s3 : Int32) (M : Mem) : Option (Unit × Mem) :=
  (d_X12_asks s1 s2 s3 M).bind fun y1 =>
  (d_X12_top (0 : Int32) y1.2).bind fun y2 =>
  (d_X12_isNull y2.1 y2.2).bind fun y3 =>
  if y3.1 = 0 then (
    okk (vp_in x2 600) <|
    bnd (sI y3.2 126 x2.toNatClampNeg (2 : Int32)) fun M1 =>
    some ((), M1))
  else (
    okk (vp_in x2 600) <|
    bnd (sI y3.2 126 x2.toNatClampNeg (1 : Int32)) fun M2 =>
    some ((), M2))
theorem b_X12_guards_263 {x2 : Int32} {s1 : Int32} {s2 : Int32} {s3 : Int32} {M z} (hP : Lay M) (h : d_X12_guards_263 x2 s1 s2 s3 M = some z) : VV Lay k_X12_guards 263 [(0, .ref 69), (2, .int x2)] [.int s3, .int s2, .int s1, .ref 69] M z.2 (Qv (none) z.2) xF := by
  unfold d_X12_guards_263 at h
  obtain ⟨y1, qy1, h⟩ := bindE h
  have cy1 := v_X12_asks hP qy1
  refine C_V3o dX12_guards_263 w10_127 i_X12_asks (lk_69 hP) ⟨Nat.le_of_ble_eq_true rfl, Nat.le_of_ble_eq_true rfl⟩ rfl (Nat.le_of_ble_eq_true rfl) (Nat.le_of_ble_eq_true rfl) (Nat.le_of_ble_eq_true rfl) (cy1) ?_
  have hPy1 := cy1.1.1
  refine Y_aload_n (j := 0) dX12_guards_266 rfl rfl ?_
  refine Z_getr dX12_guards_267 w8_153 (lk_69 hPy1) fr_12_87 (lr_69_87 hPy1) ?_
  refine Y_iload_n (j := 1) dX12_guards_270 rfl rfl ?_
  refine Y_aload_n (j := 0) dX12_guards_271 rfl rfl ?_
  refine Y_aload_n (j := 0) dX12_guards_272 rfl rfl ?_
  refine Y_iconst (v := (0 : Int32)) dX12_guards_273 rfl ?_
  obtain ⟨y2, qy2, h⟩ := bindE h
  have cy2 := v_X12_top hPy1 qy2
  refine C_V1r dX12_guards_274 w9_200 i_X12_top (lk_69 hPy1) ⟨Nat.le_of_ble_eq_true rfl, Nat.le_of_ble_eq_true rfl⟩ rfl (Nat.le_of_ble_eq_true rfl) (Nat.le_of_ble_eq_true rfl) (Nat.le_of_ble_eq_true rfl) (cy2) ?_
  have hPy2 := cy2.1.1
  obtain ⟨y3, qy3, h⟩ := bindE h
  have cy3 := v_X12_isNull hPy2 qy3
  refine C_V1r dX12_guards_277 w10_5 i_X12_isNull (lk_69 hPy2) ⟨Nat.le_of_ble_eq_true rfl, Nat.le_of_ble_eq_true rfl⟩ rfl (Nat.le_of_ble_eq_true rfl) (Nat.le_of_ble_eq_true rfl) (Nat.le_of_ble_eq_true rfl) (cy3) ?_
  have hPy3 := cy3.1.1
  refine Y_if_eq (tgt := 287) dX12_guards_280 (by decide) (fun hc1 => ?_) (fun hc1 => ?_)
  · replace h := ifT hc1 h
    refine Y_iconst (v := (2 : Int32)) dX12_guards_287 rfl ?_
    obtain ⟨hb1, h⟩ := okE h
    refine Y_iast dX12_guards_288 (lk_126 hPy3) (ln_126 hPy3) hb1 ?_
    obtain ⟨M1, eM1, h⟩ := bndE h
    refine VV.mem eM1 ?_
    have hP1 := hPy3.wI eM1
    refine Y_goto (tgt := 323) dX12_guards_289 (by decide) ?_
    cases h
    exact Y_vret rfl dX12_guards_323 hP1 ⟨rfl, rfl⟩
  · replace h := ifF hc1 h
    refine Y_iconst (v := (1 : Int32)) dX12_guards_283 rfl ?_
    refine Y_goto (tgt := 288) dX12_guards_284 (by decide) ?_
    obtain ⟨hb2, h⟩ := okE h
    refine Y_iast dX12_guards_288 (lk_126 hPy3) (ln_126 hPy3) hb2 ?_
    obtain ⟨M2, eM2, h⟩ := bndE h
    refine VV.mem eM2 ?_
    have hP2 := hPy3.wI eM2
    refine Y_goto (tgt := 323) dX12_guards_289 (by decide) ?_
    cases h
    exact Y_vret rfl dX12_guards_323 hP2 ⟨rfl, rfl⟩
noncomputable def d_X12_guards_164 (x1 : Int32) (M : Mem) : Option (Unit × Mem) :=
  (d_X12_top (1 : Int32) M).bind fun y1 =>
  (d_X12_top (0 : Int32) y1.2).bind fun y2 =>
  (d_X12_reckons x1 y1.1 y2.1 y2.2).bind fun y3 =>
  if (mI y3.2 69 88) = (105 : Int32) then (
    (d_X12_asks (111 : Int32) (0 : Int32) (1 : Int32) y3.2).bind fun y5 =>
    some ((), y5.2))
  else (
    (d_X12_asks (111 : Int32) (0 : Int32) (0 : Int32) y3.2).bind fun y4 =>
    some ((), y4.2))
theorem b_X12_guards_164 {x1 : Int32} {M z} (hP : Lay M) (h : d_X12_guards_164 x1 M = some z) : VV Lay k_X12_guards 164 [(0, .ref 69), (1, .int x1)] [] M z.2 (Qv (none) z.2) xF := by
  unfold d_X12_guards_164 at h
  refine Y_aload_n (j := 0) dX12_guards_164 rfl rfl ?_
  refine Y_iload_n (j := 1) dX12_guards_165 rfl rfl ?_
  refine Y_aload_n (j := 0) dX12_guards_166 rfl rfl ?_
  refine Y_iconst (v := (1 : Int32)) dX12_guards_167 rfl ?_
  obtain ⟨y1, qy1, h⟩ := bindE h
  have cy1 := v_X12_top hP qy1
  refine C_V1r dX12_guards_168 w9_200 i_X12_top (lk_69 hP) ⟨Nat.le_of_ble_eq_true rfl, Nat.le_of_ble_eq_true rfl⟩ rfl (Nat.le_of_ble_eq_true rfl) (Nat.le_of_ble_eq_true rfl) (Nat.le_of_ble_eq_true rfl) (cy1) ?_
  have hPy1 := cy1.1.1
  refine Y_aload_n (j := 0) dX12_guards_171 rfl rfl ?_
  refine Y_iconst (v := (0 : Int32)) dX12_guards_172 rfl ?_
  obtain ⟨y2, qy2, h⟩ := bindE h
  have cy2 := v_X12_top hPy1 qy2
  refine C_V1r dX12_guards_173 w9_200 i_X12_top (lk_69 hPy1) ⟨Nat.le_of_ble_eq_true rfl, Nat.le_of_ble_eq_true rfl⟩ rfl (Nat.le_of_ble_eq_true rfl) (Nat.le_of_ble_eq_true rfl) (Nat.le_of_ble_eq_true rfl) (cy2) ?_
  have hPy2 := cy2.1.1
  obtain ⟨y3, qy3, h⟩ := bindE h
  have cy3 := v_X12_reckons hPy2 qy3
  refine C_V3o dX12_guards_176 w10_9 i_X12_reckons (lk_69 hPy2) ⟨Nat.le_of_ble_eq_true rfl, Nat.le_of_ble_eq_true rfl⟩ rfl (Nat.le_of_ble_eq_true rfl) (Nat.le_of_ble_eq_true rfl) (Nat.le_of_ble_eq_true rfl) (cy3) ?_
  have hPy3 := cy3.1.1
  refine Y_aload_n (j := 0) dX12_guards_179 rfl rfl ?_
  refine Y_bipush (v := (111 : Int32)) dX12_guards_180 rfl ?_
  refine Y_iconst (v := (0 : Int32)) dX12_guards_182 rfl ?_
  refine Y_aload_n (j := 0) dX12_guards_183 rfl rfl ?_
  refine Z_geti dX12_guards_184 w8_154 (lk_69 hPy3) fi_12_88 ?_
  refine Y_bipush (v := (105 : Int32)) dX12_guards_187 rfl ?_
  refine Y_icmp_ne (tgt := 196) dX12_guards_189 (by decide) (fun hc1 => ?_) (fun hc1 => ?_)
  · replace h := ifF hc1 h
    refine Y_iconst (v := (0 : Int32)) dX12_guards_196 rfl ?_
    obtain ⟨y4, qy4, h⟩ := bindE h
    have cy4 := v_X12_asks hPy3 qy4
    refine C_V3o dX12_guards_197 w10_127 i_X12_asks (lk_69 hPy3) ⟨Nat.le_of_ble_eq_true rfl, Nat.le_of_ble_eq_true rfl⟩ rfl (Nat.le_of_ble_eq_true rfl) (Nat.le_of_ble_eq_true rfl) (Nat.le_of_ble_eq_true rfl) (cy4) ?_
    have hPy4 := cy4.1.1
    refine Y_goto (tgt := 323) dX12_guards_200 (by decide) ?_
    cases h
    exact Y_vret rfl dX12_guards_323 hPy4 ⟨rfl, rfl⟩
  · replace h := ifT hc1 h
    refine Y_iconst (v := (1 : Int32)) dX12_guards_192 rfl ?_
    refine Y_goto (tgt := 197) dX12_guards_193 (by decide) ?_
    obtain ⟨y5, qy5, h⟩ := bindE h
    have cy5 := v_X12_asks hPy3 qy5
    refine C_V3o dX12_guards_197 w10_127 i_X12_asks (lk_69 hPy3) ⟨Nat.le_of_ble_eq_true rfl, Nat.le_of_ble_eq_true rfl⟩ rfl (Nat.le_of_ble_eq_true rfl) (Nat.le_of_ble_eq_true rfl) (Nat.le_of_ble_eq_true rfl) (cy5) ?_
    have hPy5 := cy5.1.1
    refine Y_goto (tgt := 323) dX12_guards_200 (by decide) ?_
    cases h
    exact Y_vret rfl dX12_guards_323 hPy5 ⟨rfl, rfl⟩
noncomputable def d_X12_guards_135 (x1 : Int32) (x4 : Int32) (M : Mem) : Option (Unit × Mem) :=
  if x4 = 0 then (
    some ((), M))
  else (
    if x1 = (43 : Int32) then (
      d_X12_guards_164 x1 M)
    else (
      if x1 = (45 : Int32) then (
        d_X12_guards_164 x1 M)
      else (
        if x1 = (42 : Int32) then (
          d_X12_guards_164 x1 M)
        else (
          if x1 = (47 : Int32) then (
            d_X12_guards_164 x1 M)
          else (
            some ((), M))))))
theorem b_X12_guards_135 {x1 : Int32} {x4 : Int32} {M z} (hP : Lay M) (h : d_X12_guards_135 x1 x4 M = some z) : VV Lay k_X12_guards 135 [(0, .ref 69), (1, .int x1), (4, .int x4)] [] M z.2 (Qv (none) z.2) xF := by
  unfold d_X12_guards_135 at h
  refine Y_iload (j := 2) dX12_guards_135 rfl ?_
  refine Y_if_eq (tgt := 200) dX12_guards_137 (by decide) (fun hc1 => ?_) (fun hc1 => ?_)
  · replace h := ifT hc1 h
    refine Y_goto (tgt := 323) dX12_guards_200 (by decide) ?_
    cases h
    exact Y_vret rfl dX12_guards_323 hP ⟨rfl, rfl⟩
  · replace h := ifF hc1 h
    refine Y_iload_n (j := 1) dX12_guards_140 rfl rfl ?_
    refine Y_bipush (v := (43 : Int32)) dX12_guards_141 rfl ?_
    refine Y_icmp_eq (tgt := 164) dX12_guards_143 (by decide) (fun hc2 => ?_) (fun hc2 => ?_)
    · replace h := ifT hc2 h
      refine VV.sub [0, 1] rfl ?_
      exact b_X12_guards_164  hP h
    · replace h := ifF hc2 h
      refine Y_iload_n (j := 1) dX12_guards_146 rfl rfl ?_
      refine Y_bipush (v := (45 : Int32)) dX12_guards_147 rfl ?_
      refine Y_icmp_eq (tgt := 164) dX12_guards_149 (by decide) (fun hc3 => ?_) (fun hc3 => ?_)
      · replace h := ifT hc3 h
        refine VV.sub [0, 1] rfl ?_
        exact b_X12_guards_164  hP h
      · replace h := ifF hc3 h
        refine Y_iload_n (j := 1) dX12_guards_152 rfl rfl ?_
        refine Y_bipush (v := (42 : Int32)) dX12_guards_153 rfl ?_
        refine Y_icmp_eq (tgt := 164) dX12_guards_155 (by decide) (fun hc4 => ?_) (fun hc4 => ?_)
        · replace h := ifT hc4 h
          refine VV.sub [0, 1] rfl ?_
          exact b_X12_guards_164  hP h
        · replace h := ifF hc4 h
          refine Y_iload_n (j := 1) dX12_guards_158 rfl rfl ?_
          refine Y_bipush (v := (47 : Int32)) dX12_guards_159 rfl ?_
          refine Y_icmp_ne (tgt := 200) dX12_guards_161 (by decide) (fun hc5 => ?_) (fun hc5 => ?_)
          · replace h := ifF hc5 h
            refine Y_goto (tgt := 323) dX12_guards_200 (by decide) ?_
            cases h
            exact Y_vret rfl dX12_guards_323 hP ⟨rfl, rfl⟩
          · replace h := ifT hc5 h
            refine VV.sub [0, 1] rfl ?_
            exact b_X12_guards_164  hP h
noncomputable def d_X12_guards_112 (x1 : Int32) (x3 : Int32) (x4 : Int32) (M : Mem) : Option (Unit × Mem) :=
  (d_X12_isNullKnown x3 M).bind fun y1 =>
  if y1.1 = 0 then (
    (d_X12_asks (122 : Int32) (0 : Int32) (0 : Int32) y1.2).bind fun y2 =>
    okk (vp_in x3 600) <|
    bnd (sI y2.2 126 x3.toNatClampNeg (2 : Int32)) fun M1 =>
    d_X12_guards_135 x1 x4 M1)
  else (
    d_X12_guards_135 x1 x4 y1.2)
theorem b_X12_guards_112 {x1 : Int32} {x3 : Int32} {x4 : Int32} {M z} (hP : Lay M) (h : d_X12_guards_112 x1 x3 x4 M = some z) : VV Lay k_X12_guards 112 [(0, .ref 69), (1, .int x1), (3, .int x3), (4, .int x4)] [] M z.2 (Qv (none) z.2) xF := by
  unfold d_X12_guards_112 at h
  refine Y_aload_n (j := 0) dX12_guards_112 rfl rfl ?_
  refine Y_iload_n (j := 2) dX12_guards_113 rfl rfl ?_
  obtain ⟨y1, qy1, h⟩ := bindE h
  have cy1 := v_X12_isNullKnown hP qy1
  refine C_V1r dX12_guards_114 w10_131 i_X12_isNullKnown (lk_69 hP) ⟨Nat.le_of_ble_eq_true rfl, Nat.le_of_ble_eq_true rfl⟩ rfl (Nat.le_of_ble_eq_true rfl) (Nat.le_of_ble_eq_true rfl) (Nat.le_of_ble_eq_true rfl) (cy1) ?_
  have hPy1 := cy1.1.1
  refine Y_if_ne (tgt := 135) dX12_guards_117 (by decide) (fun hc1 => ?_) (fun hc1 => ?_)
  · replace h := ifF hc1 h
    refine VV.sub [0, 1, 3] rfl ?_
    exact b_X12_guards_135  hPy1 h
  · replace h := ifT hc1 h
    refine Y_aload_n (j := 0) dX12_guards_120 rfl rfl ?_
    refine Y_bipush (v := (122 : Int32)) dX12_guards_121 rfl ?_
    refine Y_iconst (v := (0 : Int32)) dX12_guards_123 rfl ?_
    refine Y_iconst (v := (0 : Int32)) dX12_guards_124 rfl ?_
    obtain ⟨y2, qy2, h⟩ := bindE h
    have cy2 := v_X12_asks hPy1 qy2
    refine C_V3o dX12_guards_125 w10_127 i_X12_asks (lk_69 hPy1) ⟨Nat.le_of_ble_eq_true rfl, Nat.le_of_ble_eq_true rfl⟩ rfl (Nat.le_of_ble_eq_true rfl) (Nat.le_of_ble_eq_true rfl) (Nat.le_of_ble_eq_true rfl) (cy2) ?_
    have hPy2 := cy2.1.1
    refine Y_aload_n (j := 0) dX12_guards_128 rfl rfl ?_
    refine Z_getr dX12_guards_129 w8_153 (lk_69 hPy2) fr_12_87 (lr_69_87 hPy2) ?_
    refine Y_iload_n (j := 2) dX12_guards_132 rfl rfl ?_
    refine Y_iconst (v := (2 : Int32)) dX12_guards_133 rfl ?_
    obtain ⟨hb1, h⟩ := okE h
    refine Y_iast dX12_guards_134 (lk_126 hPy2) (ln_126 hPy2) hb1 ?_
    obtain ⟨M1, eM1, h⟩ := bndE h
    refine VV.mem eM1 ?_
    have hP1 := hPy2.wI eM1
    refine VV.sub [0, 1, 3] rfl ?_
    exact b_X12_guards_135  hP1 h
noncomputable def d_X12_guards_93 (x1 : Int32) (x3 : Int32) (s0 : Int32) (M : Mem) : Option (Unit × Mem) :=
  if s0 = 0 then (
    d_X12_guards_135 x1 s0 M)
  else (
    if x1 = (47 : Int32) then (
      d_X12_guards_112 x1 x3 s0 M)
    else (
      if x1 = (37 : Int32) then (
        d_X12_guards_112 x1 x3 s0 M)
      else (
        d_X12_guards_135 x1 s0 M)))
theorem b_X12_guards_93 {x1 : Int32} {x3 : Int32} {s0 : Int32} {M z} (hP : Lay M) (h : d_X12_guards_93 x1 x3 s0 M = some z) : VV Lay k_X12_guards 93 [(0, .ref 69), (1, .int x1), (3, .int x3)] [.int s0] M z.2 (Qv (none) z.2) xF := by
  unfold d_X12_guards_93 at h
  refine Y_istore (lv1 := [(4, .int s0), (0, .ref 69), (1, .int x1), (3, .int x3)]) dX12_guards_93 (by decide) rfl ?_
  refine Y_iload (j := 0) dX12_guards_95 rfl ?_
  refine Y_if_eq (tgt := 135) dX12_guards_97 (by decide) (fun hc1 => ?_) (fun hc1 => ?_)
  · replace h := ifT hc1 h
    refine VV.sub [1, 2, 0] rfl ?_
    exact b_X12_guards_135  hP h
  · replace h := ifF hc1 h
    refine Y_iload_n (j := 2) dX12_guards_100 rfl rfl ?_
    refine Y_bipush (v := (47 : Int32)) dX12_guards_101 rfl ?_
    refine Y_icmp_eq (tgt := 112) dX12_guards_103 (by decide) (fun hc2 => ?_) (fun hc2 => ?_)
    · replace h := ifT hc2 h
      refine VV.sub [1, 2, 3, 0] rfl ?_
      exact b_X12_guards_112  hP h
    · replace h := ifF hc2 h
      refine Y_iload_n (j := 2) dX12_guards_106 rfl rfl ?_
      refine Y_bipush (v := (37 : Int32)) dX12_guards_107 rfl ?_
      refine Y_icmp_ne (tgt := 135) dX12_guards_109 (by decide) (fun hc3 => ?_) (fun hc3 => ?_)
      · replace h := ifF hc3 h
        refine VV.sub [1, 2, 0] rfl ?_
        exact b_X12_guards_135  hP h
      · replace h := ifT hc3 h
        refine VV.sub [1, 2, 3, 0] rfl ?_
        exact b_X12_guards_112  hP h
noncomputable def d_X12_guards_92 (x1 : Int32) (x3 : Int32) (M : Mem) : Option (Unit × Mem) :=
  d_X12_guards_93 x1 x3 (0 : Int32) M
theorem b_X12_guards_92 {x1 : Int32} {x3 : Int32} {M z} (hP : Lay M) (h : d_X12_guards_92 x1 x3 M = some z) : VV Lay k_X12_guards 92 [(0, .ref 69), (1, .int x1), (3, .int x3)] [] M z.2 (Qv (none) z.2) xF := by
  unfold d_X12_guards_92 at h
  refine Y_iconst (v := (0 : Int32)) dX12_guards_92 rfl ?_
  refine VV.sub [0, 1, 2] rfl ?_
  exact b_X12_guards_93  hP h
noncomputable def d_X12_guards_48 (x1 : Int32) (x3 : Int32) (M : Mem) : Option (Unit × Mem) :=
  (d_X12_asksKind (1 : Int32) M).bind fun y1 =>
  (d_X12_asksKind (0 : Int32) y1.2).bind fun y2 =>
  (d_X12_top (1 : Int32) y2.2).bind fun y3 =>
  okk (vp_in y3.1 168) <|
  if (mI y3.2 105 y3.1.toNatClampNeg) = (105 : Int32) then (
    (d_X12_top (0 : Int32) y3.2).bind fun y4 =>
    okk (vp_in y4.1 168) <|
    if (mI y4.2 105 y4.1.toNatClampNeg) = (105 : Int32) then (
      d_X12_guards_93 x1 x3 (1 : Int32) y4.2)
    else (
      d_X12_guards_92 x1 x3 y4.2))
  else (
    d_X12_guards_92 x1 x3 y3.2)
theorem b_X12_guards_48 {x1 : Int32} {x3 : Int32} {M z} (hP : Lay M) (h : d_X12_guards_48 x1 x3 M = some z) : VV Lay k_X12_guards 48 [(0, .ref 69), (1, .int x1), (3, .int x3)] [] M z.2 (Qv (none) z.2) xF := by
  unfold d_X12_guards_48 at h
  refine Y_aload_n (j := 0) dX12_guards_48 rfl rfl ?_
  refine Y_iconst (v := (1 : Int32)) dX12_guards_49 rfl ?_
  obtain ⟨y1, qy1, h⟩ := bindE h
  have cy1 := v_X12_asksKind hP qy1
  refine C_V1o dX12_guards_50 w10_119 i_X12_asksKind (lk_69 hP) ⟨Nat.le_of_ble_eq_true rfl, Nat.le_of_ble_eq_true rfl⟩ rfl (Nat.le_of_ble_eq_true rfl) (Nat.le_of_ble_eq_true rfl) (Nat.le_of_ble_eq_true rfl) (cy1) ?_
  have hPy1 := cy1.1.1
  refine Y_aload_n (j := 0) dX12_guards_53 rfl rfl ?_
  refine Y_iconst (v := (0 : Int32)) dX12_guards_54 rfl ?_
  obtain ⟨y2, qy2, h⟩ := bindE h
  have cy2 := v_X12_asksKind hPy1 qy2
  refine C_V1o dX12_guards_55 w10_119 i_X12_asksKind (lk_69 hPy1) ⟨Nat.le_of_ble_eq_true rfl, Nat.le_of_ble_eq_true rfl⟩ rfl (Nat.le_of_ble_eq_true rfl) (Nat.le_of_ble_eq_true rfl) (Nat.le_of_ble_eq_true rfl) (cy2) ?_
  have hPy2 := cy2.1.1
  refine Y_aload_n (j := 0) dX12_guards_58 rfl rfl ?_
  refine Z_getr dX12_guards_59 w8_110 (lk_69 hPy2) fr_12_44 (lr_69_44 hPy2) ?_
  refine Y_aload_n (j := 0) dX12_guards_62 rfl rfl ?_
  refine Y_iconst (v := (1 : Int32)) dX12_guards_63 rfl ?_
  obtain ⟨y3, qy3, h⟩ := bindE h
  have cy3 := v_X12_top hPy2 qy3
  refine C_V1r dX12_guards_64 w9_200 i_X12_top (lk_69 hPy2) ⟨Nat.le_of_ble_eq_true rfl, Nat.le_of_ble_eq_true rfl⟩ rfl (Nat.le_of_ble_eq_true rfl) (Nat.le_of_ble_eq_true rfl) (Nat.le_of_ble_eq_true rfl) (cy3) ?_
  have hPy3 := cy3.1.1
  obtain ⟨hb1, h⟩ := okE h
  refine Y_cald dX12_guards_67 (lk_105 hPy3) (ln_105 hPy3) hb1 ?_
  refine Y_bipush (v := (105 : Int32)) dX12_guards_68 rfl ?_
  refine Y_icmp_ne (tgt := 92) dX12_guards_70 (by decide) (fun hc1 => ?_) (fun hc1 => ?_)
  · replace h := ifF hc1 h
    refine VV.sub [0, 1, 2] rfl ?_
    exact b_X12_guards_92  hPy3 h
  · replace h := ifT hc1 h
    refine Y_aload_n (j := 0) dX12_guards_73 rfl rfl ?_
    refine Z_getr dX12_guards_74 w8_110 (lk_69 hPy3) fr_12_44 (lr_69_44 hPy3) ?_
    refine Y_aload_n (j := 0) dX12_guards_77 rfl rfl ?_
    refine Y_iconst (v := (0 : Int32)) dX12_guards_78 rfl ?_
    obtain ⟨y4, qy4, h⟩ := bindE h
    have cy4 := v_X12_top hPy3 qy4
    refine C_V1r dX12_guards_79 w9_200 i_X12_top (lk_69 hPy3) ⟨Nat.le_of_ble_eq_true rfl, Nat.le_of_ble_eq_true rfl⟩ rfl (Nat.le_of_ble_eq_true rfl) (Nat.le_of_ble_eq_true rfl) (Nat.le_of_ble_eq_true rfl) (cy4) ?_
    have hPy4 := cy4.1.1
    obtain ⟨hb2, h⟩ := okE h
    refine Y_cald dX12_guards_82 (lk_105 hPy4) (ln_105 hPy4) hb2 ?_
    refine Y_bipush (v := (105 : Int32)) dX12_guards_83 rfl ?_
    refine Y_icmp_ne (tgt := 92) dX12_guards_85 (by decide) (fun hc2 => ?_) (fun hc2 => ?_)
    · replace h := ifF hc2 h
      refine VV.sub [0, 1, 2] rfl ?_
      exact b_X12_guards_92  hPy4 h
    · replace h := ifT hc2 h
      refine Y_iconst (v := (1 : Int32)) dX12_guards_88 rfl ?_
      refine Y_goto (tgt := 93) dX12_guards_89 (by decide) ?_
      refine VV.sub [0, 1, 2] rfl ?_
      exact b_X12_guards_93  hPy4 h
noncomputable def d_X12_guards (x1 : Int32) (M : Mem) : Option (Unit × Mem) :=
  (d_X12_isPair x1 M).bind fun y1 =>
  if y1.1 = 0 then (
    if x1 = (119 : Int32) then (
      (d_X12_asksKind (0 : Int32) y1.2).bind fun y7 =>
      some ((), y7.2))
    else (
      if x1 = (122 : Int32) then (
        (d_X12_top (0 : Int32) y1.2).bind fun y3 =>
        okk (vp_in y3.1 168) <|
        bnd ((mI y3.2 108 y3.1.toNatClampNeg)) fun b1 =>
        (d_X12_isNullKnown b1 y3.2).bind fun y4 =>
        if y4.1 = 0 then (
          (d_X12_top (0 : Int32) y4.2).bind fun y5 =>
          (d_X12_isNull y5.1 y5.2).bind fun y6 =>
          if y6.1 = 0 then (
            d_X12_guards_263 b1 (116 : Int32) (0 : Int32) (0 : Int32) y6.2)
          else (
            d_X12_guards_263 b1 (116 : Int32) (0 : Int32) (1 : Int32) y6.2))
        else (
          some ((), y4.2)))
      else (
        if x1 = (103 : Int32) then (
          d_X12_guards_304 y1.2)
        else (
          if x1 = (109 : Int32) then (
            d_X12_guards_304 y1.2)
          else (
            if x1 = (112 : Int32) then (
              (d_X12_asksShape (1 : Int32) y1.2).bind fun y2 =>
              some ((), y2.2))
            else (
              some ((), y1.2)))))))
  else (
    (d_X12_top (1 : Int32) y1.2).bind fun y8 =>
    okk (vp_in y8.1 168) <|
    bnd ((mI y8.2 108 y8.1.toNatClampNeg)) fun b2 =>
    (d_X12_top (0 : Int32) y8.2).bind fun y9 =>
    okk (vp_in y9.1 168) <|
    bnd ((mI y9.2 108 y9.1.toNatClampNeg)) fun b3 =>
    okk (vp_in b2 600) <|
    if (mI y9.2 124 b2.toNatClampNeg) = 0 then (
      d_X12_guards_48 x1 b3 y9.2)
    else (
      okk (vp_in b3 600) <|
      if (mI y9.2 124 b3.toNatClampNeg) = 0 then (
        d_X12_guards_48 x1 b3 y9.2)
      else (
        some ((), y9.2))))
theorem b_X12_guards {x1 : Int32} {M z} (hP : Lay M) (h : d_X12_guards x1 M = some z) : VV Lay k_X12_guards 0 [(0, .ref 69), (1, .int x1)] [] M z.2 (Qv (none) z.2) xF := by
  unfold d_X12_guards at h
  refine Y_iload_n (j := 1) dX12_guards_0 rfl rfl ?_
  obtain ⟨y1, qy1, h⟩ := bindE h
  have cy1 := v_X12_isPair hP qy1
  refine C_S1r dX12_guards_1 w9_129 i_X12_isPair (Nat.le_of_ble_eq_true rfl) (Nat.le_of_ble_eq_true rfl) (Nat.le_of_ble_eq_true rfl) (cy1) ?_
  have hPy1 := cy1.1.1
  refine Y_if_eq (tgt := 203) dX12_guards_4 (by decide) (fun hc1 => ?_) (fun hc1 => ?_)
  · replace h := ifT hc1 h
    refine Y_iload_n (j := 1) dX12_guards_203 rfl rfl ?_
    refine Y_bipush (v := (119 : Int32)) dX12_guards_204 rfl ?_
    refine Y_icmp_ne (tgt := 217) dX12_guards_206 (by decide) (fun hc2 => ?_) (fun hc2 => ?_)
    · replace h := ifF hc2 h
      refine Y_iload_n (j := 1) dX12_guards_217 rfl rfl ?_
      refine Y_bipush (v := (122 : Int32)) dX12_guards_218 rfl ?_
      refine Y_icmp_ne (tgt := 292) dX12_guards_220 (by decide) (fun hc3 => ?_) (fun hc3 => ?_)
      · replace h := ifF hc3 h
        refine Y_iload_n (j := 1) dX12_guards_292 rfl rfl ?_
        refine Y_bipush (v := (103 : Int32)) dX12_guards_293 rfl ?_
        refine Y_icmp_eq (tgt := 304) dX12_guards_295 (by decide) (fun hc4 => ?_) (fun hc4 => ?_)
        · replace h := ifT hc4 h
          refine VV.sub [0] rfl ?_
          exact b_X12_guards_304  hPy1 h
        · replace h := ifF hc4 h
          refine Y_iload_n (j := 1) dX12_guards_298 rfl rfl ?_
          refine Y_bipush (v := (109 : Int32)) dX12_guards_299 rfl ?_
          refine Y_icmp_ne (tgt := 312) dX12_guards_301 (by decide) (fun hc5 => ?_) (fun hc5 => ?_)
          · replace h := ifF hc5 h
            refine Y_iload_n (j := 1) dX12_guards_312 rfl rfl ?_
            refine Y_bipush (v := (112 : Int32)) dX12_guards_313 rfl ?_
            refine Y_icmp_ne (tgt := 323) dX12_guards_315 (by decide) (fun hc6 => ?_) (fun hc6 => ?_)
            · replace h := ifF hc6 h
              cases h
              exact Y_vret rfl dX12_guards_323 hPy1 ⟨rfl, rfl⟩
            · replace h := ifT hc6 h
              refine Y_aload_n (j := 0) dX12_guards_318 rfl rfl ?_
              refine Y_iconst (v := (1 : Int32)) dX12_guards_319 rfl ?_
              obtain ⟨y2, qy2, h⟩ := bindE h
              have cy2 := v_X12_asksShape hPy1 qy2
              refine C_V1o dX12_guards_320 w10_135 i_X12_asksShape (lk_69 hPy1) ⟨Nat.le_of_ble_eq_true rfl, Nat.le_of_ble_eq_true rfl⟩ rfl (Nat.le_of_ble_eq_true rfl) (Nat.le_of_ble_eq_true rfl) (Nat.le_of_ble_eq_true rfl) (cy2) ?_
              have hPy2 := cy2.1.1
              cases h
              exact Y_vret rfl dX12_guards_323 hPy2 ⟨rfl, rfl⟩
          · replace h := ifT hc5 h
            refine VV.sub [0] rfl ?_
            exact b_X12_guards_304  hPy1 h
      · replace h := ifT hc3 h
        refine Y_aload_n (j := 0) dX12_guards_223 rfl rfl ?_
        refine Z_getr dX12_guards_224 w8_113 (lk_69 hPy1) fr_12_47 (lr_69_47 hPy1) ?_
        refine Y_aload_n (j := 0) dX12_guards_227 rfl rfl ?_
        refine Y_iconst (v := (0 : Int32)) dX12_guards_228 rfl ?_
        obtain ⟨y3, qy3, h⟩ := bindE h
        have cy3 := v_X12_top hPy1 qy3
        refine C_V1r dX12_guards_229 w9_200 i_X12_top (lk_69 hPy1) ⟨Nat.le_of_ble_eq_true rfl, Nat.le_of_ble_eq_true rfl⟩ rfl (Nat.le_of_ble_eq_true rfl) (Nat.le_of_ble_eq_true rfl) (Nat.le_of_ble_eq_true rfl) (cy3) ?_
        have hPy3 := cy3.1.1
        obtain ⟨hb1, h⟩ := okE h
        refine Y_iald dX12_guards_232 (lk_108 hPy3) (ln_108 hPy3) hb1 ?_
        obtain ⟨b1, eb1, h⟩ := bndE h
        refine VV.topI eb1 ?_
        refine Y_istore_n (lv1 := [(2, .int b1), (0, .ref 69), (1, .int x1)]) dX12_guards_233 rfl (by decide) rfl ?_
        refine Y_aload_n (j := 1) dX12_guards_234 rfl rfl ?_
        refine Y_iload_n (j := 0) dX12_guards_235 rfl rfl ?_
        obtain ⟨y4, qy4, h⟩ := bindE h
        have cy4 := v_X12_isNullKnown hPy3 qy4
        refine C_V1r dX12_guards_236 w10_131 i_X12_isNullKnown (lk_69 hPy3) ⟨Nat.le_of_ble_eq_true rfl, Nat.le_of_ble_eq_true rfl⟩ rfl (Nat.le_of_ble_eq_true rfl) (Nat.le_of_ble_eq_true rfl) (Nat.le_of_ble_eq_true rfl) (cy4) ?_
        have hPy4 := cy4.1.1
        refine Y_if_ne (tgt := 289) dX12_guards_239 (by decide) (fun hc7 => ?_) (fun hc7 => ?_)
        · replace h := ifF hc7 h
          refine Y_goto (tgt := 323) dX12_guards_289 (by decide) ?_
          cases h
          exact Y_vret rfl dX12_guards_323 hPy4 ⟨rfl, rfl⟩
        · replace h := ifT hc7 h
          refine Y_aload_n (j := 1) dX12_guards_242 rfl rfl ?_
          refine Y_bipush (v := (116 : Int32)) dX12_guards_243 rfl ?_
          refine Y_iconst (v := (0 : Int32)) dX12_guards_245 rfl ?_
          refine Y_aload_n (j := 1) dX12_guards_246 rfl rfl ?_
          refine Y_aload_n (j := 1) dX12_guards_247 rfl rfl ?_
          refine Y_iconst (v := (0 : Int32)) dX12_guards_248 rfl ?_
          obtain ⟨y5, qy5, h⟩ := bindE h
          have cy5 := v_X12_top hPy4 qy5
          refine C_V1r dX12_guards_249 w9_200 i_X12_top (lk_69 hPy4) ⟨Nat.le_of_ble_eq_true rfl, Nat.le_of_ble_eq_true rfl⟩ rfl (Nat.le_of_ble_eq_true rfl) (Nat.le_of_ble_eq_true rfl) (Nat.le_of_ble_eq_true rfl) (cy5) ?_
          have hPy5 := cy5.1.1
          obtain ⟨y6, qy6, h⟩ := bindE h
          have cy6 := v_X12_isNull hPy5 qy6
          refine C_V1r dX12_guards_252 w10_5 i_X12_isNull (lk_69 hPy5) ⟨Nat.le_of_ble_eq_true rfl, Nat.le_of_ble_eq_true rfl⟩ rfl (Nat.le_of_ble_eq_true rfl) (Nat.le_of_ble_eq_true rfl) (Nat.le_of_ble_eq_true rfl) (cy6) ?_
          have hPy6 := cy6.1.1
          refine Y_if_eq (tgt := 262) dX12_guards_255 (by decide) (fun hc8 => ?_) (fun hc8 => ?_)
          · replace h := ifT hc8 h
            refine Y_iconst (v := (0 : Int32)) dX12_guards_262 rfl ?_
            refine VV.sub [1, 0] rfl ?_
            exact b_X12_guards_263  hPy6 h
          · replace h := ifF hc8 h
            refine Y_iconst (v := (1 : Int32)) dX12_guards_258 rfl ?_
            refine Y_goto (tgt := 263) dX12_guards_259 (by decide) ?_
            refine VV.sub [1, 0] rfl ?_
            exact b_X12_guards_263  hPy6 h
    · replace h := ifT hc2 h
      refine Y_aload_n (j := 0) dX12_guards_209 rfl rfl ?_
      refine Y_iconst (v := (0 : Int32)) dX12_guards_210 rfl ?_
      obtain ⟨y7, qy7, h⟩ := bindE h
      have cy7 := v_X12_asksKind hPy1 qy7
      refine C_V1o dX12_guards_211 w10_119 i_X12_asksKind (lk_69 hPy1) ⟨Nat.le_of_ble_eq_true rfl, Nat.le_of_ble_eq_true rfl⟩ rfl (Nat.le_of_ble_eq_true rfl) (Nat.le_of_ble_eq_true rfl) (Nat.le_of_ble_eq_true rfl) (cy7) ?_
      have hPy7 := cy7.1.1
      refine Y_goto (tgt := 323) dX12_guards_214 (by decide) ?_
      cases h
      exact Y_vret rfl dX12_guards_323 hPy7 ⟨rfl, rfl⟩
  · replace h := ifF hc1 h
    refine Y_aload_n (j := 0) dX12_guards_7 rfl rfl ?_
    refine Z_getr dX12_guards_8 w8_113 (lk_69 hPy1) fr_12_47 (lr_69_47 hPy1) ?_
    refine Y_aload_n (j := 0) dX12_guards_11 rfl rfl ?_
    refine Y_iconst (v := (1 : Int32)) dX12_guards_12 rfl ?_
    obtain ⟨y8, qy8, h⟩ := bindE h
    have cy8 := v_X12_top hPy1 qy8
    refine C_V1r dX12_guards_13 w9_200 i_X12_top (lk_69 hPy1) ⟨Nat.le_of_ble_eq_true rfl, Nat.le_of_ble_eq_true rfl⟩ rfl (Nat.le_of_ble_eq_true rfl) (Nat.le_of_ble_eq_true rfl) (Nat.le_of_ble_eq_true rfl) (cy8) ?_
    have hPy8 := cy8.1.1
    obtain ⟨hb2, h⟩ := okE h
    refine Y_iald dX12_guards_16 (lk_108 hPy8) (ln_108 hPy8) hb2 ?_
    obtain ⟨b2, eb2, h⟩ := bndE h
    refine VV.topI eb2 ?_
    refine Y_istore_n (lv1 := [(2, .int b2), (0, .ref 69), (1, .int x1)]) dX12_guards_17 rfl (by decide) rfl ?_
    refine Y_aload_n (j := 1) dX12_guards_18 rfl rfl ?_
    refine Z_getr dX12_guards_19 w8_113 (lk_69 hPy8) fr_12_47 (lr_69_47 hPy8) ?_
    refine Y_aload_n (j := 1) dX12_guards_22 rfl rfl ?_
    refine Y_iconst (v := (0 : Int32)) dX12_guards_23 rfl ?_
    obtain ⟨y9, qy9, h⟩ := bindE h
    have cy9 := v_X12_top hPy8 qy9
    refine C_V1r dX12_guards_24 w9_200 i_X12_top (lk_69 hPy8) ⟨Nat.le_of_ble_eq_true rfl, Nat.le_of_ble_eq_true rfl⟩ rfl (Nat.le_of_ble_eq_true rfl) (Nat.le_of_ble_eq_true rfl) (Nat.le_of_ble_eq_true rfl) (cy9) ?_
    have hPy9 := cy9.1.1
    obtain ⟨hb3, h⟩ := okE h
    refine Y_iald dX12_guards_27 (lk_108 hPy9) (ln_108 hPy9) hb3 ?_
    obtain ⟨b3, eb3, h⟩ := bndE h
    refine VV.topI eb3 ?_
    refine Y_istore_n (lv1 := [(3, .int b3), (2, .int b2), (0, .ref 69), (1, .int x1)]) dX12_guards_28 rfl (by decide) rfl ?_
    refine Y_aload_n (j := 2) dX12_guards_29 rfl rfl ?_
    refine Z_getr dX12_guards_30 w8_151 (lk_69 hPy9) fr_12_85 (lr_69_85 hPy9) ?_
    refine Y_iload_n (j := 1) dX12_guards_33 rfl rfl ?_
    obtain ⟨hb4, h⟩ := okE h
    refine Y_zald dX12_guards_34 (lk_124 hPy9) (ln_124 hPy9) hb4 ?_
    refine Y_if_eq (tgt := 48) dX12_guards_35 (by decide) (fun hc9 => ?_) (fun hc9 => ?_)
    · replace h := ifT hc9 h
      refine VV.sub [2, 3, 0] rfl ?_
      exact b_X12_guards_48  hPy9 h
    · replace h := ifF hc9 h
      refine Y_aload_n (j := 2) dX12_guards_38 rfl rfl ?_
      refine Z_getr dX12_guards_39 w8_151 (lk_69 hPy9) fr_12_85 (lr_69_85 hPy9) ?_
      refine Y_iload_n (j := 0) dX12_guards_42 rfl rfl ?_
      obtain ⟨hb5, h⟩ := okE h
      refine Y_zald dX12_guards_43 (lk_124 hPy9) (ln_124 hPy9) hb5 ?_
      refine Y_if_eq (tgt := 48) dX12_guards_44 (by decide) (fun hc10 => ?_) (fun hc10 => ?_)
      · replace h := ifT hc10 h
        refine VV.sub [2, 3, 0] rfl ?_
        exact b_X12_guards_48  hPy9 h
      · replace h := ifF hc10 h
        cases h
        exact Y_vret rfl dX12_guards_47 hPy9 ⟨rfl, rfl⟩
theorem v_X12_guards {x1 : Int32} {M z} (hP : Lay M) (h : d_X12_guards x1 M = some z) : CC Lay k_X12_guards [.ref 69, .int x1] M z.2 (Qv (none) z.2) xF :=
  CC.ofVV (by decide) rfl (Nat.le_of_ble_eq_true rfl) (b_X12_guards hP h)
noncomputable def d_X12_holds_187 (x1 : Int32) (s0 : Int32) (M : Mem) : Option (Int32 × Mem) :=
  okk (vp_in x1 2400) <|
  if s0 = (mI M 100 x1.toNatClampNeg) then (
    some ((1 : Int32), M))
  else (
    some ((0 : Int32), M))
theorem b_X12_holds_187 {x1 : Int32} {s0 : Int32} {M z} (hP : Lay M) (h : d_X12_holds_187 x1 s0 M = some z) : VV Lay k_X12_holds 187 [(0, .ref 69), (1, .int x1)] [.int s0] M z.2 (Qv (some (.int z.1)) z.2) xF := by
  unfold d_X12_holds_187 at h
  refine Y_aload_n (j := 0) dX12_holds_187 rfl rfl ?_
  refine Z_getr dX12_holds_188 w8_105 (lk_69 hP) fr_12_39 (lr_69_39 hP) ?_
  refine Y_iload_n (j := 1) dX12_holds_191 rfl rfl ?_
  obtain ⟨hb1, h⟩ := okE h
  refine Y_iald dX12_holds_192 (lk_100 hP) (ln_100 hP) hb1 ?_
  refine Y_icmp_ne (tgt := 200) dX12_holds_193 (by decide) (fun hc1 => ?_) (fun hc1 => ?_)
  · replace h := ifF hc1 h
    refine Y_iconst (v := (0 : Int32)) dX12_holds_200 rfl ?_
    cases h
    exact Y_iret rfl (nar_bo (by decide)) dX12_holds_201 hP ⟨rfl, rfl⟩
  · replace h := ifT hc1 h
    refine Y_iconst (v := (1 : Int32)) dX12_holds_196 rfl ?_
    refine Y_goto (tgt := 201) dX12_holds_197 (by decide) ?_
    cases h
    exact Y_iret rfl (nar_bo (by decide)) dX12_holds_201 hP ⟨rfl, rfl⟩
noncomputable def d_X12_holds_85 (x1 : Int32) (s0 : Int32) (M : Mem) : Option (Int32 × Mem) :=
  okk (vp_in x1 2400) <|
  if s0 = (mI M 100 x1.toNatClampNeg) then (
    some ((1 : Int32), M))
  else (
    some ((0 : Int32), M))
theorem b_X12_holds_85 {x1 : Int32} {s0 : Int32} {M z} (hP : Lay M) (h : d_X12_holds_85 x1 s0 M = some z) : VV Lay k_X12_holds 85 [(0, .ref 69), (1, .int x1)] [.int s0] M z.2 (Qv (some (.int z.1)) z.2) xF := by
  unfold d_X12_holds_85 at h
  refine Y_aload_n (j := 0) dX12_holds_85 rfl rfl ?_
  refine Z_getr dX12_holds_86 w8_105 (lk_69 hP) fr_12_39 (lr_69_39 hP) ?_
  refine Y_iload_n (j := 1) dX12_holds_89 rfl rfl ?_
  obtain ⟨hb1, h⟩ := okE h
  refine Y_iald dX12_holds_90 (lk_100 hP) (ln_100 hP) hb1 ?_
  refine Y_icmp_ne (tgt := 98) dX12_holds_91 (by decide) (fun hc1 => ?_) (fun hc1 => ?_)
  · replace h := ifF hc1 h
    refine Y_iconst (v := (0 : Int32)) dX12_holds_98 rfl ?_
    cases h
    exact Y_iret rfl (nar_bo (by decide)) dX12_holds_99 hP ⟨rfl, rfl⟩
  · replace h := ifT hc1 h
    refine Y_iconst (v := (1 : Int32)) dX12_holds_94 rfl ?_
    refine Y_goto (tgt := 99) dX12_holds_95 (by decide) ?_
    cases h
    exact Y_iret rfl (nar_bo (by decide)) dX12_holds_99 hP ⟨rfl, rfl⟩
noncomputable def d_X12_holds (x1 : Int32) (M : Mem) : Option (Int32 × Mem) :=
  okk (vp_in x1 2400) <|
  (d_X12_top (mI M 99 x1.toNatClampNeg) M).bind fun y1 =>
  okk (vp_in x1 2400) <|
  bnd ((mI y1.2 97 x1.toNatClampNeg)) fun b1 =>
  if b1 = (107 : Int32) then (
    okk (vp_in y1.1 168) <|
    okk (vp_in x1 2400) <|
    if (mI y1.2 105 y1.1.toNatClampNeg) = (mI y1.2 100 x1.toNatClampNeg) then (
      some ((1 : Int32), y1.2))
    else (
      some ((0 : Int32), y1.2)))
  else (
    if b1 = (122 : Int32) then (
      okk (vp_in y1.1 168) <|
      if (mI y1.2 106 y1.1.toNatClampNeg) = 0 then (
        some ((0 : Int32), y1.2))
      else (
        some ((1 : Int32), y1.2)))
    else (
      if b1 = (116 : Int32) then (
        (d_X12_isNull y1.1 y1.2).bind fun y5 =>
        if y5.1 = 0 then (
          d_X12_holds_85 x1 (0 : Int32) y5.2)
        else (
          d_X12_holds_85 x1 (1 : Int32) y5.2))
      else (
        if b1 = (115 : Int32) then (
          okk (vp_in y1.1 168) <|
          okk (vp_in (mI y1.2 106 y1.1.toNatClampNeg) 60) <|
          okk (vp_in x1 2400) <|
          if (mI y1.2 112 (mI y1.2 106 y1.1.toNatClampNeg).toNatClampNeg) = (mI y1.2 100 x1.toNatClampNeg) then (
            some ((1 : Int32), y1.2))
          else (
            some ((0 : Int32), y1.2)))
        else (
          okk (vp_in (mI y1.2 69 48) 12) <|
          okk (vp_in (mI y1.2 69 48) 12) <|
          okk (vp_in (((40 : Int32) * (mI y1.2 109 (mI y1.2 69 48).toNatClampNeg)) + (mI y1.2 110 (mI y1.2 69 48).toNatClampNeg)) 320) <|
          (d_X12_top (1 : Int32) y1.2).bind fun y2 =>
          (d_X12_top (0 : Int32) y2.2).bind fun y3 =>
          (d_X12_reckons (mI y1.2 72 (((40 : Int32) * (mI y1.2 109 (mI y1.2 69 48).toNatClampNeg)) + (mI y1.2 110 (mI y1.2 69 48).toNatClampNeg)).toNatClampNeg) y2.1 y3.1 y3.2).bind fun y4 =>
          if (mI y4.2 69 88) = (105 : Int32) then (
            d_X12_holds_187 x1 (1 : Int32) y4.2)
          else (
            d_X12_holds_187 x1 (0 : Int32) y4.2)))))
theorem b_X12_holds {x1 : Int32} {M z} (hP : Lay M) (h : d_X12_holds x1 M = some z) : VV Lay k_X12_holds 0 [(0, .ref 69), (1, .int x1)] [] M z.2 (Qv (some (.int z.1)) z.2) xF := by
  unfold d_X12_holds at h
  refine Y_aload_n (j := 0) dX12_holds_0 rfl rfl ?_
  refine Y_aload_n (j := 0) dX12_holds_1 rfl rfl ?_
  refine Z_getr dX12_holds_2 w8_104 (lk_69 hP) fr_12_38 (lr_69_38 hP) ?_
  refine Y_iload_n (j := 1) dX12_holds_5 rfl rfl ?_
  obtain ⟨hb1, h⟩ := okE h
  refine Y_iald dX12_holds_6 (lk_99 hP) (ln_99 hP) hb1 ?_
  obtain ⟨y1, qy1, h⟩ := bindE h
  have cy1 := v_X12_top hP qy1
  refine C_V1r dX12_holds_7 w9_200 i_X12_top (lk_69 hP) ⟨Nat.le_of_ble_eq_true rfl, Nat.le_of_ble_eq_true rfl⟩ rfl (Nat.le_of_ble_eq_true rfl) (Nat.le_of_ble_eq_true rfl) (Nat.le_of_ble_eq_true rfl) (cy1) ?_
  have hPy1 := cy1.1.1
  refine Y_istore_n (lv1 := [(2, .int y1.1), (0, .ref 69), (1, .int x1)]) dX12_holds_10 rfl (by decide) rfl ?_
  refine Y_aload_n (j := 1) dX12_holds_11 rfl rfl ?_
  refine Z_getr dX12_holds_12 w8_102 (lk_69 hPy1) fr_12_36 (lr_69_36 hPy1) ?_
  refine Y_iload_n (j := 2) dX12_holds_15 rfl rfl ?_
  obtain ⟨hb2, h⟩ := okE h
  refine Y_cald dX12_holds_16 (lk_97 hPy1) (ln_97 hPy1) hb2 ?_
  obtain ⟨b1, eb1, h⟩ := bndE h
  refine VV.topI eb1 ?_
  refine Y_istore_n (lv1 := [(3, .int b1), (2, .int y1.1), (0, .ref 69), (1, .int x1)]) dX12_holds_17 rfl (by decide) rfl ?_
  refine Y_iload_n (j := 0) dX12_holds_18 rfl rfl ?_
  refine Y_bipush (v := (107 : Int32)) dX12_holds_19 rfl ?_
  refine Y_icmp_ne (tgt := 45) dX12_holds_21 (by decide) (fun hc1 => ?_) (fun hc1 => ?_)
  · replace h := ifF hc1 h
    refine Y_iload_n (j := 0) dX12_holds_45 rfl rfl ?_
    refine Y_bipush (v := (122 : Int32)) dX12_holds_46 rfl ?_
    refine Y_icmp_ne (tgt := 66) dX12_holds_48 (by decide) (fun hc2 => ?_) (fun hc2 => ?_)
    · replace h := ifF hc2 h
      refine Y_iload_n (j := 0) dX12_holds_66 rfl rfl ?_
      refine Y_bipush (v := (116 : Int32)) dX12_holds_67 rfl ?_
      refine Y_icmp_ne (tgt := 100) dX12_holds_69 (by decide) (fun hc3 => ?_) (fun hc3 => ?_)
      · replace h := ifF hc3 h
        refine Y_iload_n (j := 0) dX12_holds_100 rfl rfl ?_
        refine Y_bipush (v := (115 : Int32)) dX12_holds_101 rfl ?_
        refine Y_icmp_ne (tgt := 132) dX12_holds_103 (by decide) (fun hc4 => ?_) (fun hc4 => ?_)
        · replace h := ifF hc4 h
          refine Y_aload_n (j := 2) dX12_holds_132 rfl rfl ?_
          refine Y_aload_n (j := 2) dX12_holds_133 rfl rfl ?_
          refine Z_getr dX12_holds_134 w8_70 (lk_69 hPy1) fr_12_4 (lr_69_4 hPy1) ?_
          refine Y_bipush (v := (40 : Int32)) dX12_holds_137 rfl ?_
          refine Y_aload_n (j := 2) dX12_holds_139 rfl rfl ?_
          refine Z_getr dX12_holds_140 w8_115 (lk_69 hPy1) fr_12_49 (lr_69_49 hPy1) ?_
          refine Y_aload_n (j := 2) dX12_holds_143 rfl rfl ?_
          refine Z_geti dX12_holds_144 w8_114 (lk_69 hPy1) fi_12_48 ?_
          obtain ⟨hb3, h⟩ := okE h
          refine Y_iald dX12_holds_147 (lk_109 hPy1) (ln_109 hPy1) hb3 ?_
          refine Y_imul dX12_holds_148 ?_
          refine Y_aload_n (j := 2) dX12_holds_149 rfl rfl ?_
          refine Z_getr dX12_holds_150 w8_116 (lk_69 hPy1) fr_12_50 (lr_69_50 hPy1) ?_
          refine Y_aload_n (j := 2) dX12_holds_153 rfl rfl ?_
          refine Z_geti dX12_holds_154 w8_114 (lk_69 hPy1) fi_12_48 ?_
          obtain ⟨hb4, h⟩ := okE h
          refine Y_iald dX12_holds_157 (lk_110 hPy1) (ln_110 hPy1) hb4 ?_
          refine Y_iadd dX12_holds_158 ?_
          obtain ⟨hb5, h⟩ := okE h
          refine Y_cald dX12_holds_159 (lk_72 hPy1) (ln_72 hPy1) hb5 ?_
          refine Y_aload_n (j := 2) dX12_holds_160 rfl rfl ?_
          refine Y_iconst (v := (1 : Int32)) dX12_holds_161 rfl ?_
          obtain ⟨y2, qy2, h⟩ := bindE h
          have cy2 := v_X12_top hPy1 qy2
          refine C_V1r dX12_holds_162 w9_200 i_X12_top (lk_69 hPy1) ⟨Nat.le_of_ble_eq_true rfl, Nat.le_of_ble_eq_true rfl⟩ rfl (Nat.le_of_ble_eq_true rfl) (Nat.le_of_ble_eq_true rfl) (Nat.le_of_ble_eq_true rfl) (cy2) ?_
          have hPy2 := cy2.1.1
          refine Y_aload_n (j := 2) dX12_holds_165 rfl rfl ?_
          refine Y_iconst (v := (0 : Int32)) dX12_holds_166 rfl ?_
          obtain ⟨y3, qy3, h⟩ := bindE h
          have cy3 := v_X12_top hPy2 qy3
          refine C_V1r dX12_holds_167 w9_200 i_X12_top (lk_69 hPy2) ⟨Nat.le_of_ble_eq_true rfl, Nat.le_of_ble_eq_true rfl⟩ rfl (Nat.le_of_ble_eq_true rfl) (Nat.le_of_ble_eq_true rfl) (Nat.le_of_ble_eq_true rfl) (cy3) ?_
          have hPy3 := cy3.1.1
          obtain ⟨y4, qy4, h⟩ := bindE h
          have cy4 := v_X12_reckons hPy3 qy4
          refine C_V3o dX12_holds_170 w10_9 i_X12_reckons (lk_69 hPy3) ⟨Nat.le_of_ble_eq_true rfl, Nat.le_of_ble_eq_true rfl⟩ rfl (Nat.le_of_ble_eq_true rfl) (Nat.le_of_ble_eq_true rfl) (Nat.le_of_ble_eq_true rfl) (cy4) ?_
          have hPy4 := cy4.1.1
          refine Y_aload_n (j := 2) dX12_holds_173 rfl rfl ?_
          refine Z_geti dX12_holds_174 w8_154 (lk_69 hPy4) fi_12_88 ?_
          refine Y_bipush (v := (105 : Int32)) dX12_holds_177 rfl ?_
          refine Y_icmp_ne (tgt := 186) dX12_holds_179 (by decide) (fun hc5 => ?_) (fun hc5 => ?_)
          · replace h := ifF hc5 h
            refine Y_iconst (v := (0 : Int32)) dX12_holds_186 rfl ?_
            refine VV.sub [2, 3] rfl ?_
            exact b_X12_holds_187  hPy4 h
          · replace h := ifT hc5 h
            refine Y_iconst (v := (1 : Int32)) dX12_holds_182 rfl ?_
            refine Y_goto (tgt := 187) dX12_holds_183 (by decide) ?_
            refine VV.sub [2, 3] rfl ?_
            exact b_X12_holds_187  hPy4 h
        · replace h := ifT hc4 h
          refine Y_aload_n (j := 2) dX12_holds_106 rfl rfl ?_
          refine Z_getr dX12_holds_107 w8_119 (lk_69 hPy1) fr_12_53 (lr_69_53 hPy1) ?_
          refine Y_aload_n (j := 2) dX12_holds_110 rfl rfl ?_
          refine Z_getr dX12_holds_111 w8_111 (lk_69 hPy1) fr_12_45 (lr_69_45 hPy1) ?_
          refine Y_iload_n (j := 1) dX12_holds_114 rfl rfl ?_
          obtain ⟨hb6, h⟩ := okE h
          refine Y_iald dX12_holds_115 (lk_106 hPy1) (ln_106 hPy1) hb6 ?_
          obtain ⟨hb7, h⟩ := okE h
          refine Y_iald dX12_holds_116 (lk_112 hPy1) (ln_112 hPy1) hb7 ?_
          refine Y_aload_n (j := 2) dX12_holds_117 rfl rfl ?_
          refine Z_getr dX12_holds_118 w8_105 (lk_69 hPy1) fr_12_39 (lr_69_39 hPy1) ?_
          refine Y_iload_n (j := 3) dX12_holds_121 rfl rfl ?_
          obtain ⟨hb8, h⟩ := okE h
          refine Y_iald dX12_holds_122 (lk_100 hPy1) (ln_100 hPy1) hb8 ?_
          refine Y_icmp_ne (tgt := 130) dX12_holds_123 (by decide) (fun hc6 => ?_) (fun hc6 => ?_)
          · replace h := ifF hc6 h
            refine Y_iconst (v := (0 : Int32)) dX12_holds_130 rfl ?_
            cases h
            exact Y_iret rfl (nar_bo (by decide)) dX12_holds_131 hPy1 ⟨rfl, rfl⟩
          · replace h := ifT hc6 h
            refine Y_iconst (v := (1 : Int32)) dX12_holds_126 rfl ?_
            refine Y_goto (tgt := 131) dX12_holds_127 (by decide) ?_
            cases h
            exact Y_iret rfl (nar_bo (by decide)) dX12_holds_131 hPy1 ⟨rfl, rfl⟩
      · replace h := ifT hc3 h
        refine Y_aload_n (j := 2) dX12_holds_72 rfl rfl ?_
        refine Y_iload_n (j := 1) dX12_holds_73 rfl rfl ?_
        obtain ⟨y5, qy5, h⟩ := bindE h
        have cy5 := v_X12_isNull hPy1 qy5
        refine C_V1r dX12_holds_74 w10_5 i_X12_isNull (lk_69 hPy1) ⟨Nat.le_of_ble_eq_true rfl, Nat.le_of_ble_eq_true rfl⟩ rfl (Nat.le_of_ble_eq_true rfl) (Nat.le_of_ble_eq_true rfl) (Nat.le_of_ble_eq_true rfl) (cy5) ?_
        have hPy5 := cy5.1.1
        refine Y_if_eq (tgt := 84) dX12_holds_77 (by decide) (fun hc7 => ?_) (fun hc7 => ?_)
        · replace h := ifT hc7 h
          refine Y_iconst (v := (0 : Int32)) dX12_holds_84 rfl ?_
          refine VV.sub [2, 3] rfl ?_
          exact b_X12_holds_85  hPy5 h
        · replace h := ifF hc7 h
          refine Y_iconst (v := (1 : Int32)) dX12_holds_80 rfl ?_
          refine Y_goto (tgt := 85) dX12_holds_81 (by decide) ?_
          refine VV.sub [2, 3] rfl ?_
          exact b_X12_holds_85  hPy5 h
    · replace h := ifT hc2 h
      refine Y_aload_n (j := 2) dX12_holds_51 rfl rfl ?_
      refine Z_getr dX12_holds_52 w8_111 (lk_69 hPy1) fr_12_45 (lr_69_45 hPy1) ?_
      refine Y_iload_n (j := 1) dX12_holds_55 rfl rfl ?_
      obtain ⟨hb9, h⟩ := okE h
      refine Y_iald dX12_holds_56 (lk_106 hPy1) (ln_106 hPy1) hb9 ?_
      refine Y_if_eq (tgt := 64) dX12_holds_57 (by decide) (fun hc8 => ?_) (fun hc8 => ?_)
      · replace h := ifT hc8 h
        refine Y_iconst (v := (0 : Int32)) dX12_holds_64 rfl ?_
        cases h
        exact Y_iret rfl (nar_bo (by decide)) dX12_holds_65 hPy1 ⟨rfl, rfl⟩
      · replace h := ifF hc8 h
        refine Y_iconst (v := (1 : Int32)) dX12_holds_60 rfl ?_
        refine Y_goto (tgt := 65) dX12_holds_61 (by decide) ?_
        cases h
        exact Y_iret rfl (nar_bo (by decide)) dX12_holds_65 hPy1 ⟨rfl, rfl⟩
  · replace h := ifT hc1 h
    refine Y_aload_n (j := 2) dX12_holds_24 rfl rfl ?_
    refine Z_getr dX12_holds_25 w8_110 (lk_69 hPy1) fr_12_44 (lr_69_44 hPy1) ?_
    refine Y_iload_n (j := 1) dX12_holds_28 rfl rfl ?_
    obtain ⟨hb10, h⟩ := okE h
    refine Y_cald dX12_holds_29 (lk_105 hPy1) (ln_105 hPy1) hb10 ?_
    refine Y_aload_n (j := 2) dX12_holds_30 rfl rfl ?_
    refine Z_getr dX12_holds_31 w8_105 (lk_69 hPy1) fr_12_39 (lr_69_39 hPy1) ?_
    refine Y_iload_n (j := 3) dX12_holds_34 rfl rfl ?_
    obtain ⟨hb11, h⟩ := okE h
    refine Y_iald dX12_holds_35 (lk_100 hPy1) (ln_100 hPy1) hb11 ?_
    refine Y_icmp_ne (tgt := 43) dX12_holds_36 (by decide) (fun hc9 => ?_) (fun hc9 => ?_)
    · replace h := ifF hc9 h
      refine Y_iconst (v := (0 : Int32)) dX12_holds_43 rfl ?_
      cases h
      exact Y_iret rfl (nar_bo (by decide)) dX12_holds_44 hPy1 ⟨rfl, rfl⟩
    · replace h := ifT hc9 h
      refine Y_iconst (v := (1 : Int32)) dX12_holds_39 rfl ?_
      refine Y_goto (tgt := 44) dX12_holds_40 (by decide) ?_
      cases h
      exact Y_iret rfl (nar_bo (by decide)) dX12_holds_44 hPy1 ⟨rfl, rfl⟩
theorem v_X12_holds {x1 : Int32} {M z} (hP : Lay M) (h : d_X12_holds x1 M = some z) : CC Lay k_X12_holds [.ref 69, .int x1] M z.2 (Qv (some (.int z.1)) z.2) xF :=
  CC.ofVV (by decide) rfl (Nat.le_of_ble_eq_true rfl) (b_X12_holds hP h)
noncomputable def d_X12_records_57b (k45 : (Int32) → Mem → Option (Unit × Mem)) (k57 : (Int32) → Mem → Option (Unit × Mem)) (x5 : Int32) (x6 : Int32) (M : Mem) : Option (Unit × Mem) :=
  okk (vp_in x5 12) <|
  if ((6 : Int32) + (mI M 111 x5.toNatClampNeg)) ≤ x6 then (
    bnd ((x5 + (1 : Int32))) fun b1 =>
    k45 (b1) M)
  else (
    (d_X12_newValue M).bind fun y1 =>
    okk (vp_in (((14 : Int32) * x5) + x6) 168) <|
    bnd (sI y1.2 108 (((14 : Int32) * x5) + x6).toNatClampNeg y1.1) fun M1 =>
    bnd ((x6 + (1 : Int32))) fun b2 =>
    k57 (b2) M1)
theorem b_X12_records_57b {k45 : (Int32) → Mem → Option (Unit × Mem)} {k57 : (Int32) → Mem → Option (Unit × Mem)} {x5 : Int32} {x6 : Int32} {M z} (hk45 : ∀ (a : (Int32)) (M : Mem) (z : Unit × Mem), Lay M → k45 a M = some z → VV Lay k_X12_records 45 [(0, .ref 69), (5, .int a)] [] M z.2 (Qv (none) z.2) xF) (hk57 : ∀ (a : (Int32)) (M : Mem) (z : Unit × Mem), Lay M → k57 a M = some z → VV Lay k_X12_records 57 [(0, .ref 69), (5, .int x5), (6, .int a)] [] M z.2 (Qv (none) z.2) xF) (hP : Lay M) (h : d_X12_records_57b k45 k57 x5 x6 M = some z) : VV Lay k_X12_records 57 [(0, .ref 69), (5, .int x5), (6, .int x6)] [] M z.2 (Qv (none) z.2) xF := by
  unfold d_X12_records_57b at h
  refine Y_iload (j := 2) dX12_records_57 rfl ?_
  refine Y_bipush (v := (6 : Int32)) dX12_records_59 rfl ?_
  refine Y_aload_n (j := 0) dX12_records_61 rfl rfl ?_
  refine Z_getr dX12_records_62 w8_117 (lk_69 hP) fr_12_51 (lr_69_51 hP) ?_
  refine Y_iload (j := 1) dX12_records_65 rfl ?_
  obtain ⟨hb1, h⟩ := okE h
  refine Y_iald dX12_records_67 (lk_111 hP) (ln_111 hP) hb1 ?_
  refine Y_iadd dX12_records_68 ?_
  refine Y_icmp_ge (tgt := 95) dX12_records_69 (by decide) (fun hc1 => ?_) (fun hc1 => ?_)
  · replace h := ifT hc1 h
    obtain ⟨b1, eb1, h⟩ := bndE h
    refine Y_iinc (j := 1) (v := b1) (lv1 := [(5, .int b1), (0, .ref 69), (6, .int x6)]) dX12_records_95 rfl eb1.symm (by decide) rfl ?_
    refine Y_goto (tgt := 45) dX12_records_98 (by decide) ?_
    refine VV.sub [1, 0] rfl ?_
    exact hk45 _ _ _ hP h
  · replace h := ifF hc1 h
    refine Y_aload_n (j := 0) dX12_records_72 rfl rfl ?_
    refine Z_getr dX12_records_73 w8_113 (lk_69 hP) fr_12_47 (lr_69_47 hP) ?_
    refine Y_bipush (v := (14 : Int32)) dX12_records_76 rfl ?_
    refine Y_iload (j := 1) dX12_records_78 rfl ?_
    refine Y_imul dX12_records_80 ?_
    refine Y_iload (j := 2) dX12_records_81 rfl ?_
    refine Y_iadd dX12_records_83 ?_
    refine Y_aload_n (j := 0) dX12_records_84 rfl rfl ?_
    obtain ⟨y1, qy1, h⟩ := bindE h
    have cy1 := v_X12_newValue hP qy1
    refine C_V0r dX12_records_85 w10_35 i_X12_newValue (lk_69 hP) ⟨Nat.le_of_ble_eq_true rfl, Nat.le_of_ble_eq_true rfl⟩ rfl (Nat.le_of_ble_eq_true rfl) (Nat.le_of_ble_eq_true rfl) (Nat.le_of_ble_eq_true rfl) (cy1) ?_
    have hPy1 := cy1.1.1
    obtain ⟨hb2, h⟩ := okE h
    refine Y_iast dX12_records_88 (lk_108 hPy1) (ln_108 hPy1) hb2 ?_
    obtain ⟨M1, eM1, h⟩ := bndE h
    refine VV.mem eM1 ?_
    have hP1 := hPy1.wI eM1
    obtain ⟨b2, eb2, h⟩ := bndE h
    refine Y_iinc (j := 2) (v := b2) (lv1 := [(6, .int b2), (0, .ref 69), (5, .int x5)]) dX12_records_89 rfl eb2.symm (by decide) rfl ?_
    refine Y_goto (tgt := 57) dX12_records_92 (by decide) ?_
    refine VV.sub [1, 2, 0] rfl ?_
    exact hk57 _ _ _ hP1 h
noncomputable def d_X12_records_57 (k45 : (Int32) → Mem → Option (Unit × Mem)) (x5 : Int32) : Nat → (Int32) → Mem → Option (Unit × Mem) := lp fun k a M => d_X12_records_57b k45 k x5 a M
theorem b_X12_records_57 {k45 : (Int32) → Mem → Option (Unit × Mem)} {x5 : Int32} (hk45 : ∀ (a : (Int32)) (M : Mem) (z : Unit × Mem), Lay M → k45 a M = some z → VV Lay k_X12_records 45 [(0, .ref 69), (5, .int a)] [] M z.2 (Qv (none) z.2) xF) (n : Nat) : ∀ (a : (Int32)) (M : Mem) (z : Unit × Mem), d_X12_records_57 k45 x5 n a M = some z → Lay M → VV Lay k_X12_records 57 [(0, .ref 69), (5, .int x5), (6, .int a)] [] M z.2 (Qv (none) z.2) xF :=
  lp_ind (fun k hk a M z h hP => b_X12_records_57b  hk45 (fun a M z hP h => hk a M z h hP) hP h) n
noncomputable def d_X12_records_45b (k45 : (Int32) → Mem → Option (Unit × Mem)) (x5 : Int32) (M : Mem) : Option (Unit × Mem) :=
  if (mI M 69 48) < x5 then (
    some ((), M))
  else (
    d_X12_records_57 k45 x5 fuel ((0 : Int32)) M)
theorem b_X12_records_45b {k45 : (Int32) → Mem → Option (Unit × Mem)} {x5 : Int32} {M z} (hk45 : ∀ (a : (Int32)) (M : Mem) (z : Unit × Mem), Lay M → k45 a M = some z → VV Lay k_X12_records 45 [(0, .ref 69), (5, .int a)] [] M z.2 (Qv (none) z.2) xF) (hP : Lay M) (h : d_X12_records_45b k45 x5 M = some z) : VV Lay k_X12_records 45 [(0, .ref 69), (5, .int x5)] [] M z.2 (Qv (none) z.2) xF := by
  unfold d_X12_records_45b at h
  refine Y_iload (j := 1) dX12_records_45 rfl ?_
  refine Y_aload_n (j := 0) dX12_records_47 rfl rfl ?_
  refine Z_geti dX12_records_48 w8_114 (lk_69 hP) fi_12_48 ?_
  refine Y_icmp_gt (tgt := 101) dX12_records_51 (by decide) (fun hc1 => ?_) (fun hc1 => ?_)
  · replace h := ifT hc1 h
    cases h
    exact Y_vret rfl dX12_records_101 hP ⟨rfl, rfl⟩
  · replace h := ifF hc1 h
    refine Y_iconst (v := (0 : Int32)) dX12_records_54 rfl ?_
    refine Y_istore (lv1 := [(6, .int (0 : Int32)), (0, .ref 69), (5, .int x5)]) dX12_records_55 (by decide) rfl ?_
    refine VV.sub [1, 2, 0] rfl ?_
    exact b_X12_records_57 hk45 fuel _ _ _ h hP
noncomputable def d_X12_records_45 : Nat → (Int32) → Mem → Option (Unit × Mem) := lp fun k a M => d_X12_records_45b k a M
theorem b_X12_records_45 (n : Nat) : ∀ (a : (Int32)) (M : Mem) (z : Unit × Mem), d_X12_records_45 n a M = some z → Lay M → VV Lay k_X12_records 45 [(0, .ref 69), (5, .int a)] [] M z.2 (Qv (none) z.2) xF :=
  lp_ind (fun k hk a M z h hP => b_X12_records_45b  (fun a M z hP h => hk a M z h hP) hP h) n
noncomputable def d_X12_records (x1 : Int32) (x2 : Int32) (x3 : Int32) (x4 : Int32) (M : Mem) : Option (Unit × Mem) :=
  bnd (sI M 69 71 (1 : Int32)) fun M1 =>
  bnd (sI M1 69 72 x1) fun M2 =>
  bnd (sI M2 69 73 x2) fun M3 =>
  bnd (sI M3 69 74 x3) fun M4 =>
  bnd (sI M4 69 75 x4) fun M5 =>
  bnd (sI M5 69 76 (0 : Int32)) fun M6 =>
  bnd (sI M6 69 78 (0 : Int32)) fun M7 =>
  bnd (sI M7 69 83 (0 : Int32)) fun M8 =>
  d_X12_records_45 fuel (x4) M8
theorem b_X12_records {x1 : Int32} {x2 : Int32} {x3 : Int32} {x4 : Int32} {M z} (hP : Lay M) (h : d_X12_records x1 x2 x3 x4 M = some z) : VV Lay k_X12_records 0 [(0, .ref 69), (1, .int x1), (2, .int x2), (3, .int x3), (4, .int x4)] [] M z.2 (Qv (none) z.2) xF := by
  unfold d_X12_records at h
  refine Y_aload_n (j := 0) dX12_records_0 rfl rfl ?_
  refine Y_iconst (v := (1 : Int32)) dX12_records_1 rfl ?_
  refine Z_putz dX12_records_2 w8_137 (lk_69 hP) fi_12_71 (Or.inl rfl) rfl (by decide) ?_
  obtain ⟨M1, eM1, h⟩ := bndE h
  refine VV.mem eM1 ?_
  have hP1 := hP.wI eM1
  refine Y_aload_n (j := 0) dX12_records_5 rfl rfl ?_
  refine Y_iload_n (j := 1) dX12_records_6 rfl rfl ?_
  refine Z_puti dX12_records_7 w8_138 (lk_69 hP1) fi_12_72 (Or.inl rfl) rfl ?_
  obtain ⟨M2, eM2, h⟩ := bndE h
  refine VV.mem eM2 ?_
  have hP2 := hP1.wI eM2
  refine Y_aload_n (j := 0) dX12_records_10 rfl rfl ?_
  refine Y_iload_n (j := 2) dX12_records_11 rfl rfl ?_
  refine Z_puti dX12_records_12 w8_139 (lk_69 hP2) fi_12_73 (Or.inl rfl) rfl ?_
  obtain ⟨M3, eM3, h⟩ := bndE h
  refine VV.mem eM3 ?_
  have hP3 := hP2.wI eM3
  refine Y_aload_n (j := 0) dX12_records_15 rfl rfl ?_
  refine Y_iload_n (j := 3) dX12_records_16 rfl rfl ?_
  refine Z_puti dX12_records_17 w8_140 (lk_69 hP3) fi_12_74 (Or.inl rfl) rfl ?_
  obtain ⟨M4, eM4, h⟩ := bndE h
  refine VV.mem eM4 ?_
  have hP4 := hP3.wI eM4
  refine Y_aload_n (j := 0) dX12_records_20 rfl rfl ?_
  refine Y_iload (j := 4) dX12_records_21 rfl ?_
  refine Z_puti dX12_records_23 w8_141 (lk_69 hP4) fi_12_75 (Or.inl rfl) rfl ?_
  obtain ⟨M5, eM5, h⟩ := bndE h
  refine VV.mem eM5 ?_
  have hP5 := hP4.wI eM5
  refine Y_aload_n (j := 0) dX12_records_26 rfl rfl ?_
  refine Y_iconst (v := (0 : Int32)) dX12_records_27 rfl ?_
  refine Z_puti dX12_records_28 w8_142 (lk_69 hP5) fi_12_76 (Or.inl rfl) rfl ?_
  obtain ⟨M6, eM6, h⟩ := bndE h
  refine VV.mem eM6 ?_
  have hP6 := hP5.wI eM6
  refine Y_aload_n (j := 0) dX12_records_31 rfl rfl ?_
  refine Y_iconst (v := (0 : Int32)) dX12_records_32 rfl ?_
  refine Z_puti dX12_records_33 w8_144 (lk_69 hP6) fi_12_78 (Or.inl rfl) rfl ?_
  obtain ⟨M7, eM7, h⟩ := bndE h
  refine VV.mem eM7 ?_
  have hP7 := hP6.wI eM7
  refine Y_aload_n (j := 0) dX12_records_36 rfl rfl ?_
  refine Y_iconst (v := (0 : Int32)) dX12_records_37 rfl ?_
  refine Z_puti dX12_records_38 w8_149 (lk_69 hP7) fi_12_83 (Or.inl rfl) rfl ?_
  obtain ⟨M8, eM8, h⟩ := bndE h
  refine VV.mem eM8 ?_
  have hP8 := hP7.wI eM8
  refine Y_iload (j := 4) dX12_records_41 rfl ?_
  refine Y_istore (lv1 := [(5, .int x4), (0, .ref 69), (1, .int x1), (2, .int x2), (3, .int x3), (4, .int x4)]) dX12_records_43 (by decide) rfl ?_
  refine VV.sub [1, 0] rfl ?_
  exact b_X12_records_45  fuel _ _ _ h hP8
theorem v_X12_records {x1 : Int32} {x2 : Int32} {x3 : Int32} {x4 : Int32} {M z} (hP : Lay M) (h : d_X12_records x1 x2 x3 x4 M = some z) : CC Lay k_X12_records [.ref 69, .int x1, .int x2, .int x3, .int x4] M z.2 (Qv (none) z.2) xF :=
  CC.ofVV (by decide) rfl (Nat.le_of_ble_eq_true rfl) (b_X12_records hP h)
noncomputable def d_X12_breaksOff (M : Mem) : Option (Unit × Mem) :=
  if (mI M 69 71) = 0 then (
    some ((), M))
  else (
    bnd (sI M 69 71 (0 : Int32)) fun M1 =>
    if (mI M1 69 73) = (-1 : Int32) then (
      okk (vp_in (mI M1 69 74) 320) <|
      bnd (sI M1 87 (mI M1 69 74).toNatClampNeg (0 : Int32)) fun M4 =>
      okk (vp_in (mI M4 69 74) 320) <|
      okk (vp_in (mI M4 69 74) 320) <|
      bnd (sI M4 88 (mI M4 69 74).toNatClampNeg ((mI M4 88 (mI M4 69 74).toNatClampNeg) + (1 : Int32))) fun M5 =>
      some ((), M5))
    else (
      okk (vp_in (mI M1 69 73) 2400) <|
      bnd (sI M1 102 (mI M1 69 73).toNatClampNeg (0 : Int32)) fun M2 =>
      okk (vp_in (mI M2 69 73) 2400) <|
      okk (vp_in (mI M2 69 73) 2400) <|
      bnd (sI M2 103 (mI M2 69 73).toNatClampNeg ((mI M2 103 (mI M2 69 73).toNatClampNeg) + (1 : Int32))) fun M3 =>
      some ((), M3)))
theorem b_X12_breaksOff {M z} (hP : Lay M) (h : d_X12_breaksOff M = some z) : VV Lay k_X12_breaksOff 0 [(0, .ref 69)] [] M z.2 (Qv (none) z.2) xF := by
  unfold d_X12_breaksOff at h
  refine Y_aload_n (j := 0) dX12_breaksOff_0 rfl rfl ?_
  refine Z_geti dX12_breaksOff_1 w8_137 (lk_69 hP) fi_12_71 ?_
  refine Y_if_ne (tgt := 8) dX12_breaksOff_4 (by decide) (fun hc1 => ?_) (fun hc1 => ?_)
  · replace h := ifF hc1 h
    refine Y_aload_n (j := 0) dX12_breaksOff_8 rfl rfl ?_
    refine Y_iconst (v := (0 : Int32)) dX12_breaksOff_9 rfl ?_
    refine Z_putz dX12_breaksOff_10 w8_137 (lk_69 hP) fi_12_71 (Or.inl rfl) rfl (by decide) ?_
    obtain ⟨M1, eM1, h⟩ := bndE h
    refine VV.mem eM1 ?_
    have hP1 := hP.wI eM1
    refine Y_aload_n (j := 0) dX12_breaksOff_13 rfl rfl ?_
    refine Z_geti dX12_breaksOff_14 w8_139 (lk_69 hP1) fi_12_73 ?_
    refine Y_iconst (v := (-1 : Int32)) dX12_breaksOff_17 rfl ?_
    refine Y_icmp_ne (tgt := 47) dX12_breaksOff_18 (by decide) (fun hc2 => ?_) (fun hc2 => ?_)
    · replace h := ifF hc2 h
      refine Y_aload_n (j := 0) dX12_breaksOff_47 rfl rfl ?_
      refine Z_getr dX12_breaksOff_48 w8_107 (lk_69 hP1) fr_12_41 (lr_69_41 hP1) ?_
      refine Y_aload_n (j := 0) dX12_breaksOff_51 rfl rfl ?_
      refine Z_geti dX12_breaksOff_52 w8_139 (lk_69 hP1) fi_12_73 ?_
      refine Y_iconst (v := (0 : Int32)) dX12_breaksOff_55 rfl ?_
      obtain ⟨hb1, h⟩ := okE h
      refine Y_iast dX12_breaksOff_56 (lk_102 hP1) (ln_102 hP1) hb1 ?_
      obtain ⟨M2, eM2, h⟩ := bndE h
      refine VV.mem eM2 ?_
      have hP2 := hP1.wI eM2
      refine Y_aload_n (j := 0) dX12_breaksOff_57 rfl rfl ?_
      refine Z_getr dX12_breaksOff_58 w8_108 (lk_69 hP2) fr_12_42 (lr_69_42 hP2) ?_
      refine Y_aload_n (j := 0) dX12_breaksOff_61 rfl rfl ?_
      refine Z_geti dX12_breaksOff_62 w8_139 (lk_69 hP2) fi_12_73 ?_
      refine Y_dup2 dX12_breaksOff_65 rfl rfl ?_
      obtain ⟨hb2, h⟩ := okE h
      refine Y_iald dX12_breaksOff_66 (lk_103 hP2) (ln_103 hP2) hb2 ?_
      refine Y_iconst (v := (1 : Int32)) dX12_breaksOff_67 rfl ?_
      refine Y_iadd dX12_breaksOff_68 ?_
      obtain ⟨hb3, h⟩ := okE h
      refine Y_iast dX12_breaksOff_69 (lk_103 hP2) (ln_103 hP2) hb3 ?_
      obtain ⟨M3, eM3, h⟩ := bndE h
      refine VV.mem eM3 ?_
      have hP3 := hP2.wI eM3
      cases h
      exact Y_vret rfl dX12_breaksOff_70 hP3 ⟨rfl, rfl⟩
    · replace h := ifT hc2 h
      refine Y_aload_n (j := 0) dX12_breaksOff_21 rfl rfl ?_
      refine Z_getr dX12_breaksOff_22 w8_87 (lk_69 hP1) fr_12_21 (lr_69_21 hP1) ?_
      refine Y_aload_n (j := 0) dX12_breaksOff_25 rfl rfl ?_
      refine Z_geti dX12_breaksOff_26 w8_140 (lk_69 hP1) fi_12_74 ?_
      refine Y_iconst (v := (0 : Int32)) dX12_breaksOff_29 rfl ?_
      obtain ⟨hb4, h⟩ := okE h
      refine Y_iast dX12_breaksOff_30 (lk_87 hP1) (ln_87 hP1) hb4 ?_
      obtain ⟨M4, eM4, h⟩ := bndE h
      refine VV.mem eM4 ?_
      have hP4 := hP1.wI eM4
      refine Y_aload_n (j := 0) dX12_breaksOff_31 rfl rfl ?_
      refine Z_getr dX12_breaksOff_32 w8_88 (lk_69 hP4) fr_12_22 (lr_69_22 hP4) ?_
      refine Y_aload_n (j := 0) dX12_breaksOff_35 rfl rfl ?_
      refine Z_geti dX12_breaksOff_36 w8_140 (lk_69 hP4) fi_12_74 ?_
      refine Y_dup2 dX12_breaksOff_39 rfl rfl ?_
      obtain ⟨hb5, h⟩ := okE h
      refine Y_iald dX12_breaksOff_40 (lk_88 hP4) (ln_88 hP4) hb5 ?_
      refine Y_iconst (v := (1 : Int32)) dX12_breaksOff_41 rfl ?_
      refine Y_iadd dX12_breaksOff_42 ?_
      obtain ⟨hb6, h⟩ := okE h
      refine Y_iast dX12_breaksOff_43 (lk_88 hP4) (ln_88 hP4) hb6 ?_
      obtain ⟨M5, eM5, h⟩ := bndE h
      refine VV.mem eM5 ?_
      have hP5 := hP4.wI eM5
      refine Y_goto (tgt := 70) dX12_breaksOff_44 (by decide) ?_
      cases h
      exact Y_vret rfl dX12_breaksOff_70 hP5 ⟨rfl, rfl⟩
  · replace h := ifT hc1 h
    cases h
    exact Y_vret rfl dX12_breaksOff_7 hP ⟨rfl, rfl⟩
theorem v_X12_breaksOff {M z} (hP : Lay M) (h : d_X12_breaksOff M = some z) : CC Lay k_X12_breaksOff [.ref 69] M z.2 (Qv (none) z.2) xF :=
  CC.ofVV (by decide) rfl (Nat.le_of_ble_eq_true rfl) (b_X12_breaksOff hP h)
noncomputable def d_X12_ends_290 (x2 : Int32) (M : Mem) : Option (Unit × Mem) :=
  okk (vp_in x2 20) <|
  (d_X12_enters (mI M 93 x2.toNatClampNeg) M).bind fun y1 =>
  some ((), y1.2)
theorem b_X12_ends_290 {x2 : Int32} {M z} (hP : Lay M) (h : d_X12_ends_290 x2 M = some z) : VV Lay k_X12_ends 290 [(0, .ref 69), (2, .int x2)] [] M z.2 (Qv (none) z.2) xF := by
  unfold d_X12_ends_290 at h
  refine Y_aload_n (j := 0) dX12_ends_290 rfl rfl ?_
  refine Y_aload_n (j := 0) dX12_ends_291 rfl rfl ?_
  refine Z_getr dX12_ends_292 w8_97 (lk_69 hP) fr_12_31 (lr_69_31 hP) ?_
  refine Y_iload_n (j := 1) dX12_ends_295 rfl rfl ?_
  obtain ⟨hb1, h⟩ := okE h
  refine Y_iald dX12_ends_296 (lk_93 hP) (ln_93 hP) hb1 ?_
  obtain ⟨y1, qy1, h⟩ := bindE h
  have cy1 := v_X12_enters hP qy1
  refine C_V1o dX12_ends_297 w10_103 i_X12_enters (lk_69 hP) ⟨Nat.le_of_ble_eq_true rfl, Nat.le_of_ble_eq_true rfl⟩ rfl (Nat.le_of_ble_eq_true rfl) (Nat.le_of_ble_eq_true rfl) (Nat.le_of_ble_eq_true rfl) (cy1) ?_
  have hPy1 := cy1.1.1
  cases h
  exact Y_vret rfl dX12_ends_300 hPy1 ⟨rfl, rfl⟩
noncomputable def d_X12_ends_190b (k190 : (Int32) → Mem → Option (Unit × Mem)) (x2 : Int32) (x3 : Int32) (M : Mem) : Option (Unit × Mem) :=
  if (mI M 69 78) ≤ x3 then (
    if (mI M 69 73) = (-1 : Int32) then (
      d_X12_ends_290 x2 M)
    else (
      okk (vp_in (mI M 69 73) 2400) <|
      bnd (sI M 104 (mI M 69 73).toNatClampNeg x2) fun M1 =>
      d_X12_ends_290 x2 M1))
  else (
    bnd ((((120 : Int32) * x2) + x3)) fun b1 =>
    okk (vp_in x3 120) <|
    okk (vp_in b1 2400) <|
    okk (isCh (mI M 119 x3.toNatClampNeg)) <|
    bnd (sI M 97 b1.toNatClampNeg (mI M 119 x3.toNatClampNeg)) fun M2 =>
    okk (vp_in x3 120) <|
    okk (vp_in b1 2400) <|
    bnd (sI M2 98 b1.toNatClampNeg (mI M2 120 x3.toNatClampNeg)) fun M3 =>
    okk (vp_in x3 120) <|
    okk (vp_in b1 2400) <|
    bnd (sI M3 99 b1.toNatClampNeg (mI M3 121 x3.toNatClampNeg)) fun M4 =>
    okk (vp_in x3 120) <|
    okk (vp_in b1 2400) <|
    bnd (sI M4 100 b1.toNatClampNeg (mI M4 122 x3.toNatClampNeg)) fun M5 =>
    okk (vp_in b1 2400) <|
    bnd (sI M5 104 b1.toNatClampNeg (-1 : Int32)) fun M6 =>
    bnd ((x3 + (1 : Int32))) fun b2 =>
    k190 (b2) M6)
theorem b_X12_ends_190b {k190 : (Int32) → Mem → Option (Unit × Mem)} {x2 : Int32} {x3 : Int32} {M z} (hk190 : ∀ (a : (Int32)) (M : Mem) (z : Unit × Mem), Lay M → k190 a M = some z → VV Lay k_X12_ends 190 [(0, .ref 69), (2, .int x2), (3, .int a)] [] M z.2 (Qv (none) z.2) xF) (hP : Lay M) (h : d_X12_ends_190b k190 x2 x3 M = some z) : VV Lay k_X12_ends 190 [(0, .ref 69), (2, .int x2), (3, .int x3)] [] M z.2 (Qv (none) z.2) xF := by
  unfold d_X12_ends_190b at h
  refine Y_iload_n (j := 2) dX12_ends_190 rfl rfl ?_
  refine Y_aload_n (j := 0) dX12_ends_191 rfl rfl ?_
  refine Z_geti dX12_ends_192 w8_144 (lk_69 hP) fi_12_78 ?_
  refine Y_icmp_ge (tgt := 272) dX12_ends_195 (by decide) (fun hc1 => ?_) (fun hc1 => ?_)
  · replace h := ifT hc1 h
    refine Y_aload_n (j := 0) dX12_ends_272 rfl rfl ?_
    refine Z_geti dX12_ends_273 w8_139 (lk_69 hP) fi_12_73 ?_
    refine Y_iconst (v := (-1 : Int32)) dX12_ends_276 rfl ?_
    refine Y_icmp_eq (tgt := 290) dX12_ends_277 (by decide) (fun hc2 => ?_) (fun hc2 => ?_)
    · replace h := ifT hc2 h
      refine VV.sub [0, 1] rfl ?_
      exact b_X12_ends_290  hP h
    · replace h := ifF hc2 h
      refine Y_aload_n (j := 0) dX12_ends_280 rfl rfl ?_
      refine Z_getr dX12_ends_281 w8_109 (lk_69 hP) fr_12_43 (lr_69_43 hP) ?_
      refine Y_aload_n (j := 0) dX12_ends_284 rfl rfl ?_
      refine Z_geti dX12_ends_285 w8_139 (lk_69 hP) fi_12_73 ?_
      refine Y_iload_n (j := 1) dX12_ends_288 rfl rfl ?_
      obtain ⟨hb1, h⟩ := okE h
      refine Y_iast dX12_ends_289 (lk_104 hP) (ln_104 hP) hb1 ?_
      obtain ⟨M1, eM1, h⟩ := bndE h
      refine VV.mem eM1 ?_
      have hP1 := hP.wI eM1
      refine VV.sub [0, 1] rfl ?_
      exact b_X12_ends_290  hP1 h
  · replace h := ifF hc1 h
    refine Y_bipush (v := (120 : Int32)) dX12_ends_198 rfl ?_
    refine Y_iload_n (j := 1) dX12_ends_200 rfl rfl ?_
    refine Y_imul dX12_ends_201 ?_
    refine Y_iload_n (j := 2) dX12_ends_202 rfl rfl ?_
    refine Y_iadd dX12_ends_203 ?_
    obtain ⟨b1, eb1, h⟩ := bndE h
    refine VV.topI eb1 ?_
    refine Y_istore (lv1 := [(4, .int b1), (0, .ref 69), (2, .int x2), (3, .int x3)]) dX12_ends_204 (by decide) rfl ?_
    refine Y_aload_n (j := 1) dX12_ends_206 rfl rfl ?_
    refine Z_getr dX12_ends_207 w8_102 (lk_69 hP) fr_12_36 (lr_69_36 hP) ?_
    refine Y_iload (j := 0) dX12_ends_210 rfl ?_
    refine Y_aload_n (j := 1) dX12_ends_212 rfl rfl ?_
    refine Z_getr dX12_ends_213 w8_145 (lk_69 hP) fr_12_79 (lr_69_79 hP) ?_
    refine Y_iload_n (j := 3) dX12_ends_216 rfl rfl ?_
    obtain ⟨hb2, h⟩ := okE h
    refine Y_cald dX12_ends_217 (lk_119 hP) (ln_119 hP) hb2 ?_
    obtain ⟨hb3, h⟩ := okE h
    obtain ⟨hb4, h⟩ := okE h
    refine Y_cast dX12_ends_218 (lk_97 hP) (ln_97 hP) hb3 (nar_ch hb4) ?_
    obtain ⟨M2, eM2, h⟩ := bndE h
    refine VV.mem eM2 ?_
    have hP2 := hP.wI eM2
    refine Y_aload_n (j := 1) dX12_ends_219 rfl rfl ?_
    refine Z_getr dX12_ends_220 w8_103 (lk_69 hP2) fr_12_37 (lr_69_37 hP2) ?_
    refine Y_iload (j := 0) dX12_ends_223 rfl ?_
    refine Y_aload_n (j := 1) dX12_ends_225 rfl rfl ?_
    refine Z_getr dX12_ends_226 w8_146 (lk_69 hP2) fr_12_80 (lr_69_80 hP2) ?_
    refine Y_iload_n (j := 3) dX12_ends_229 rfl rfl ?_
    obtain ⟨hb5, h⟩ := okE h
    refine Y_iald dX12_ends_230 (lk_120 hP2) (ln_120 hP2) hb5 ?_
    obtain ⟨hb6, h⟩ := okE h
    refine Y_iast dX12_ends_231 (lk_98 hP2) (ln_98 hP2) hb6 ?_
    obtain ⟨M3, eM3, h⟩ := bndE h
    refine VV.mem eM3 ?_
    have hP3 := hP2.wI eM3
    refine Y_aload_n (j := 1) dX12_ends_232 rfl rfl ?_
    refine Z_getr dX12_ends_233 w8_104 (lk_69 hP3) fr_12_38 (lr_69_38 hP3) ?_
    refine Y_iload (j := 0) dX12_ends_236 rfl ?_
    refine Y_aload_n (j := 1) dX12_ends_238 rfl rfl ?_
    refine Z_getr dX12_ends_239 w8_147 (lk_69 hP3) fr_12_81 (lr_69_81 hP3) ?_
    refine Y_iload_n (j := 3) dX12_ends_242 rfl rfl ?_
    obtain ⟨hb7, h⟩ := okE h
    refine Y_iald dX12_ends_243 (lk_121 hP3) (ln_121 hP3) hb7 ?_
    obtain ⟨hb8, h⟩ := okE h
    refine Y_iast dX12_ends_244 (lk_99 hP3) (ln_99 hP3) hb8 ?_
    obtain ⟨M4, eM4, h⟩ := bndE h
    refine VV.mem eM4 ?_
    have hP4 := hP3.wI eM4
    refine Y_aload_n (j := 1) dX12_ends_245 rfl rfl ?_
    refine Z_getr dX12_ends_246 w8_105 (lk_69 hP4) fr_12_39 (lr_69_39 hP4) ?_
    refine Y_iload (j := 0) dX12_ends_249 rfl ?_
    refine Y_aload_n (j := 1) dX12_ends_251 rfl rfl ?_
    refine Z_getr dX12_ends_252 w8_148 (lk_69 hP4) fr_12_82 (lr_69_82 hP4) ?_
    refine Y_iload_n (j := 3) dX12_ends_255 rfl rfl ?_
    obtain ⟨hb9, h⟩ := okE h
    refine Y_iald dX12_ends_256 (lk_122 hP4) (ln_122 hP4) hb9 ?_
    obtain ⟨hb10, h⟩ := okE h
    refine Y_iast dX12_ends_257 (lk_100 hP4) (ln_100 hP4) hb10 ?_
    obtain ⟨M5, eM5, h⟩ := bndE h
    refine VV.mem eM5 ?_
    have hP5 := hP4.wI eM5
    refine Y_aload_n (j := 1) dX12_ends_258 rfl rfl ?_
    refine Z_getr dX12_ends_259 w8_109 (lk_69 hP5) fr_12_43 (lr_69_43 hP5) ?_
    refine Y_iload (j := 0) dX12_ends_262 rfl ?_
    refine Y_iconst (v := (-1 : Int32)) dX12_ends_264 rfl ?_
    obtain ⟨hb11, h⟩ := okE h
    refine Y_iast dX12_ends_265 (lk_104 hP5) (ln_104 hP5) hb11 ?_
    obtain ⟨M6, eM6, h⟩ := bndE h
    refine VV.mem eM6 ?_
    have hP6 := hP5.wI eM6
    obtain ⟨b2, eb2, h⟩ := bndE h
    refine Y_iinc (j := 3) (v := b2) (lv1 := [(3, .int b2), (4, .int b1), (0, .ref 69), (2, .int x2)]) dX12_ends_266 rfl eb2.symm (by decide) rfl ?_
    refine Y_goto (tgt := 190) dX12_ends_269 (by decide) ?_
    refine VV.sub [2, 3, 0] rfl ?_
    exact hk190 _ _ _ hP6 h
noncomputable def d_X12_ends_190 (x2 : Int32) : Nat → (Int32) → Mem → Option (Unit × Mem) := lp fun k a M => d_X12_ends_190b k x2 a M
theorem b_X12_ends_190 {x2 : Int32} (n : Nat) : ∀ (a : (Int32)) (M : Mem) (z : Unit × Mem), d_X12_ends_190 x2 n a M = some z → Lay M → VV Lay k_X12_ends 190 [(0, .ref 69), (2, .int x2), (3, .int a)] [] M z.2 (Qv (none) z.2) xF :=
  lp_ind (fun k hk a M z h hP => b_X12_ends_190b  (fun a M z hP h => hk a M z h hP) hP h) n
noncomputable def d_X12_ends_157b (k157 : (Int32) → Mem → Option (Unit × Mem)) (x2 : Int32) (x3 : Int32) (M : Mem) : Option (Unit × Mem) :=
  if (mI M 69 76) ≤ x3 then (
    d_X12_ends_190 x2 fuel ((0 : Int32)) M)
  else (
    okk (vp_in x3 30) <|
    okk (vp_in (((30 : Int32) * x2) + x3) 600) <|
    bnd (sI M 91 (((30 : Int32) * x2) + x3).toNatClampNeg (mI M 118 x3.toNatClampNeg)) fun M1 =>
    bnd ((x3 + (1 : Int32))) fun b1 =>
    k157 (b1) M1)
theorem b_X12_ends_157b {k157 : (Int32) → Mem → Option (Unit × Mem)} {x2 : Int32} {x3 : Int32} {M z} (hk157 : ∀ (a : (Int32)) (M : Mem) (z : Unit × Mem), Lay M → k157 a M = some z → VV Lay k_X12_ends 157 [(0, .ref 69), (2, .int x2), (3, .int a)] [] M z.2 (Qv (none) z.2) xF) (hP : Lay M) (h : d_X12_ends_157b k157 x2 x3 M = some z) : VV Lay k_X12_ends 157 [(0, .ref 69), (2, .int x2), (3, .int x3)] [] M z.2 (Qv (none) z.2) xF := by
  unfold d_X12_ends_157b at h
  refine Y_iload_n (j := 2) dX12_ends_157 rfl rfl ?_
  refine Y_aload_n (j := 0) dX12_ends_158 rfl rfl ?_
  refine Z_geti dX12_ends_159 w8_142 (lk_69 hP) fi_12_76 ?_
  refine Y_icmp_ge (tgt := 188) dX12_ends_162 (by decide) (fun hc1 => ?_) (fun hc1 => ?_)
  · replace h := ifT hc1 h
    refine Y_iconst (v := (0 : Int32)) dX12_ends_188 rfl ?_
    refine Y_istore_n (lv1 := [(3, .int (0 : Int32)), (0, .ref 69), (2, .int x2)]) dX12_ends_189 rfl (by decide) rfl ?_
    refine VV.sub [1, 2, 0] rfl ?_
    exact b_X12_ends_190  fuel _ _ _ h hP
  · replace h := ifF hc1 h
    refine Y_aload_n (j := 0) dX12_ends_165 rfl rfl ?_
    refine Z_getr dX12_ends_166 w8_95 (lk_69 hP) fr_12_29 (lr_69_29 hP) ?_
    refine Y_bipush (v := (30 : Int32)) dX12_ends_169 rfl ?_
    refine Y_iload_n (j := 1) dX12_ends_171 rfl rfl ?_
    refine Y_imul dX12_ends_172 ?_
    refine Y_iload_n (j := 2) dX12_ends_173 rfl rfl ?_
    refine Y_iadd dX12_ends_174 ?_
    refine Y_aload_n (j := 0) dX12_ends_175 rfl rfl ?_
    refine Z_getr dX12_ends_176 w8_143 (lk_69 hP) fr_12_77 (lr_69_77 hP) ?_
    refine Y_iload_n (j := 2) dX12_ends_179 rfl rfl ?_
    obtain ⟨hb1, h⟩ := okE h
    refine Y_iald dX12_ends_180 (lk_118 hP) (ln_118 hP) hb1 ?_
    obtain ⟨hb2, h⟩ := okE h
    refine Y_iast dX12_ends_181 (lk_91 hP) (ln_91 hP) hb2 ?_
    obtain ⟨M1, eM1, h⟩ := bndE h
    refine VV.mem eM1 ?_
    have hP1 := hP.wI eM1
    obtain ⟨b1, eb1, h⟩ := bndE h
    refine Y_iinc (j := 2) (v := b1) (lv1 := [(3, .int b1), (0, .ref 69), (2, .int x2)]) dX12_ends_182 rfl eb1.symm (by decide) rfl ?_
    refine Y_goto (tgt := 157) dX12_ends_185 (by decide) ?_
    refine VV.sub [1, 2, 0] rfl ?_
    exact hk157 _ _ _ hP1 h
noncomputable def d_X12_ends_157 (x2 : Int32) : Nat → (Int32) → Mem → Option (Unit × Mem) := lp fun k a M => d_X12_ends_157b k x2 a M
theorem b_X12_ends_157 {x2 : Int32} (n : Nat) : ∀ (a : (Int32)) (M : Mem) (z : Unit × Mem), d_X12_ends_157 x2 n a M = some z → Lay M → VV Lay k_X12_ends 157 [(0, .ref 69), (2, .int x2), (3, .int a)] [] M z.2 (Qv (none) z.2) xF :=
  lp_ind (fun k hk a M z h hP => b_X12_ends_157b  (fun a M z hP h => hk a M z h hP) hP h) n
noncomputable def d_X12_ends_144 (x2 : Int32) (s1 : Int32) (s2 : Int32) (M : Mem) : Option (Unit × Mem) :=
  okk (vp_in s1 20) <|
  bnd (sI M ? s1.toNatClampNeg s2) fun M1 =>
  okk (vp_in x2 20) <|
  bnd (sI M1 94 x2.toNatClampNeg (mI M1 69 74)) fun M2 =>
  d_X12_ends_157 x2 fuel ((0 : Int32)) M2
theorem b_X12_ends_144 {x2 : Int32} {s1 : Int32} {s2 : Int32} {M z} (hP : Lay M) (h : d_X12_ends_144 x2 s1 s2 M = some z) : VV Lay k_X12_ends 144 [(0, .ref 69), (2, .int x2)] [.int s2, .int s1, .ref ?] M z.2 (Qv (none) z.2) xF := by
  unfold d_X12_ends_144 at h
  obtain ⟨hb1, h⟩ := okE h
  refine Y_iast dX12_ends_144 (lk_93 hP) (ln_93 hP) hb1 ?_
  obtain ⟨M1, eM1, h⟩ := bndE h
  refine VV.mem eM1 ?_
  have hP1 := hP.wI eM1
  refine Y_aload_n (j := 0) dX12_ends_145 rfl rfl ?_
  refine Z_getr dX12_ends_146 w8_98 (lk_69 hP1) fr_12_32 (lr_69_32 hP1) ?_
  refine Y_iload_n (j := 1) dX12_ends_149 rfl rfl ?_
  refine Y_aload_n (j := 0) dX12_ends_150 rfl rfl ?_
  refine Z_geti dX12_ends_151 w8_140 (lk_69 hP1) fi_12_74 ?_
  obtain ⟨hb2, h⟩ := okE h
  refine Y_iast dX12_ends_154 (lk_94 hP1) (ln_94 hP1) hb2 ?_
  obtain ⟨M2, eM2, h⟩ := bndE h
  refine VV.mem eM2 ?_
  have hP2 := hP1.wI eM2
  refine Y_iconst (v := (0 : Int32)) dX12_ends_155 rfl ?_
  refine Y_istore_n (lv1 := [(3, .int (0 : Int32)), (0, .ref 69), (2, .int x2)]) dX12_ends_156 rfl (by decide) rfl ?_
  refine VV.sub [1, 2, 0] rfl ?_
  exact b_X12_ends_157  fuel _ _ _ h hP2
noncomputable def d_X12_ends_67 (x1 : Int32) (M : Mem) : Option (Unit × Mem) :=
  if x1 = 0 then (
    (d_X12_breaksOff M).bind fun y1 =>
    some ((), y1.2))
  else (
    bnd ((mI M 69 26)) fun b1 =>
    bnd (sI M 69 71 (0 : Int32)) fun M1 =>
    bnd (sI M1 69 26 ((mI M1 69 26) + (1 : Int32))) fun M2 =>
    okk (vp_in b1 20) <|
    bnd (sI M2 89 b1.toNatClampNeg (1 : Int32)) fun M3 =>
    okk (vp_in b1 20) <|
    bnd (sI M3 90 b1.toNatClampNeg (mI M3 69 76)) fun M4 =>
    okk (vp_in b1 20) <|
    bnd (sI M4 92 b1.toNatClampNeg (mI M4 69 78)) fun M5 =>
    if (mI M5 69 72) = (-1 : Int32) then (
      d_X12_ends_144 b1 b1 b1 M5)
    else (
      d_X12_ends_144 b1 b1 (mI M5 69 72) M5))
theorem b_X12_ends_67 {x1 : Int32} {M z} (hP : Lay M) (h : d_X12_ends_67 x1 M = some z) : VV Lay k_X12_ends 67 [(0, .ref 69), (1, .int x1)] [] M z.2 (Qv (none) z.2) xF := by
  unfold d_X12_ends_67 at h
  refine Y_iload_n (j := 1) dX12_ends_67 rfl rfl ?_
  refine Y_if_ne (tgt := 76) dX12_ends_68 (by decide) (fun hc1 => ?_) (fun hc1 => ?_)
  · replace h := ifF hc1 h
    refine Y_aload_n (j := 0) dX12_ends_76 rfl rfl ?_
    refine Z_geti dX12_ends_77 w8_92 (lk_69 hP) fi_12_26 ?_
    obtain ⟨b1, eb1, h⟩ := bndE h
    refine VV.topI eb1 ?_
    refine Y_istore_n (lv1 := [(2, .int b1), (0, .ref 69), (1, .int x1)]) dX12_ends_80 rfl (by decide) rfl ?_
    refine Y_aload_n (j := 1) dX12_ends_81 rfl rfl ?_
    refine Y_iconst (v := (0 : Int32)) dX12_ends_82 rfl ?_
    refine Z_putz dX12_ends_83 w8_137 (lk_69 hP) fi_12_71 (Or.inl rfl) rfl (by decide) ?_
    obtain ⟨M1, eM1, h⟩ := bndE h
    refine VV.mem eM1 ?_
    have hP1 := hP.wI eM1
    refine Y_aload_n (j := 1) dX12_ends_86 rfl rfl ?_
    refine Y_dup dX12_ends_87 rfl ?_
    refine Z_geti dX12_ends_88 w8_92 (lk_69 hP1) fi_12_26 ?_
    refine Y_iconst (v := (1 : Int32)) dX12_ends_91 rfl ?_
    refine Y_iadd dX12_ends_92 ?_
    refine Z_puti dX12_ends_93 w8_92 (lk_69 hP1) fi_12_26 (Or.inl rfl) rfl ?_
    obtain ⟨M2, eM2, h⟩ := bndE h
    refine VV.mem eM2 ?_
    have hP2 := hP1.wI eM2
    refine Y_aload_n (j := 1) dX12_ends_96 rfl rfl ?_
    refine Z_getr dX12_ends_97 w8_93 (lk_69 hP2) fr_12_27 (lr_69_27 hP2) ?_
    refine Y_iload_n (j := 0) dX12_ends_100 rfl rfl ?_
    refine Y_iconst (v := (1 : Int32)) dX12_ends_101 rfl ?_
    obtain ⟨hb1, h⟩ := okE h
    refine Y_zast dX12_ends_102 (lk_89 hP2) (ln_89 hP2) hb1 (nar_bo (by decide)) ?_
    obtain ⟨M3, eM3, h⟩ := bndE h
    refine VV.mem eM3 ?_
    have hP3 := hP2.wI eM3
    refine Y_aload_n (j := 1) dX12_ends_103 rfl rfl ?_
    refine Z_getr dX12_ends_104 w8_94 (lk_69 hP3) fr_12_28 (lr_69_28 hP3) ?_
    refine Y_iload_n (j := 0) dX12_ends_107 rfl rfl ?_
    refine Y_aload_n (j := 1) dX12_ends_108 rfl rfl ?_
    refine Z_geti dX12_ends_109 w8_142 (lk_69 hP3) fi_12_76 ?_
    obtain ⟨hb2, h⟩ := okE h
    refine Y_iast dX12_ends_112 (lk_90 hP3) (ln_90 hP3) hb2 ?_
    obtain ⟨M4, eM4, h⟩ := bndE h
    refine VV.mem eM4 ?_
    have hP4 := hP3.wI eM4
    refine Y_aload_n (j := 1) dX12_ends_113 rfl rfl ?_
    refine Z_getr dX12_ends_114 w8_96 (lk_69 hP4) fr_12_30 (lr_69_30 hP4) ?_
    refine Y_iload_n (j := 0) dX12_ends_117 rfl rfl ?_
    refine Y_aload_n (j := 1) dX12_ends_118 rfl rfl ?_
    refine Z_geti dX12_ends_119 w8_144 (lk_69 hP4) fi_12_78 ?_
    obtain ⟨hb3, h⟩ := okE h
    refine Y_iast dX12_ends_122 (lk_92 hP4) (ln_92 hP4) hb3 ?_
    obtain ⟨M5, eM5, h⟩ := bndE h
    refine VV.mem eM5 ?_
    have hP5 := hP4.wI eM5
    refine Y_aload_n (j := 1) dX12_ends_123 rfl rfl ?_
    refine Z_getr dX12_ends_124 w8_97 (lk_69 hP5) fr_12_31 (lr_69_31 hP5) ?_
    refine Y_iload_n (j := 0) dX12_ends_127 rfl rfl ?_
    refine Y_aload_n (j := 1) dX12_ends_128 rfl rfl ?_
    refine Z_geti dX12_ends_129 w8_138 (lk_69 hP5) fi_12_72 ?_
    refine Y_iconst (v := (-1 : Int32)) dX12_ends_132 rfl ?_
    refine Y_icmp_ne (tgt := 140) dX12_ends_133 (by decide) (fun hc2 => ?_) (fun hc2 => ?_)
    · replace h := ifF hc2 h
      refine Y_aload_n (j := 1) dX12_ends_140 rfl rfl ?_
      refine Z_geti dX12_ends_141 w8_138 (lk_69 hP5) fi_12_72 ?_
      refine VV.sub [1, 0] rfl ?_
      exact b_X12_ends_144  hP5 h
    · replace h := ifT hc2 h
      refine Y_iload_n (j := 0) dX12_ends_136 rfl rfl ?_
      refine Y_goto (tgt := 144) dX12_ends_137 (by decide) ?_
      refine VV.sub [1, 0] rfl ?_
      exact b_X12_ends_144  hP5 h
  · replace h := ifT hc1 h
    refine Y_aload_n (j := 0) dX12_ends_71 rfl rfl ?_
    obtain ⟨y1, qy1, h⟩ := bindE h
    have cy1 := v_X12_breaksOff hP qy1
    refine C_V0o dX12_ends_72 w9_180 i_X12_breaksOff (lk_69 hP) ⟨Nat.le_of_ble_eq_true rfl, Nat.le_of_ble_eq_true rfl⟩ rfl (Nat.le_of_ble_eq_true rfl) (Nat.le_of_ble_eq_true rfl) (Nat.le_of_ble_eq_true rfl) (cy1) ?_
    have hPy1 := cy1.1.1
    cases h
    exact Y_vret rfl dX12_ends_75 hPy1 ⟨rfl, rfl⟩
noncomputable def d_X12_ends_64 (k15 : (Int32) → Mem → Option (Unit × Mem)) (x1 : Int32) (M : Mem) : Option (Unit × Mem) :=
  k15 (x1) M
theorem b_X12_ends_64 {k15 : (Int32) → Mem → Option (Unit × Mem)} {x1 : Int32} {M z} (hk15 : ∀ (a : (Int32)) (M : Mem) (z : Unit × Mem), Lay M → k15 a M = some z → VV Lay k_X12_ends 15 [(0, .ref 69), (1, .int a)] [] M z.2 (Qv (none) z.2) xF) (hP : Lay M) (h : d_X12_ends_64 k15 x1 M = some z) : VV Lay k_X12_ends 64 [(0, .ref 69), (1, .int x1)] [] M z.2 (Qv (none) z.2) xF := by
  unfold d_X12_ends_64 at h
  refine Y_goto (tgt := 15) dX12_ends_64 (by decide) ?_
  refine VV.sub [0, 1] rfl ?_
  exact hk15 _ _ _ hP h
noncomputable def d_X12_ends_54 (k15 : (Int32) → Mem → Option (Unit × Mem)) (x2 : Int32) (s0 : Int32) (M : Mem) : Option (Unit × Mem) :=
  if s0 = 0 then (
    d_X12_ends_64 k15 s0 M)
  else (
    (d_X12_throwAway x2 M).bind fun y1 =>
    d_X12_ends_64 k15 s0 y1.2)
theorem b_X12_ends_54 {k15 : (Int32) → Mem → Option (Unit × Mem)} {x2 : Int32} {s0 : Int32} {M z} (hk15 : ∀ (a : (Int32)) (M : Mem) (z : Unit × Mem), Lay M → k15 a M = some z → VV Lay k_X12_ends 15 [(0, .ref 69), (1, .int a)] [] M z.2 (Qv (none) z.2) xF) (hP : Lay M) (h : d_X12_ends_54 k15 x2 s0 M = some z) : VV Lay k_X12_ends 54 [(0, .ref 69), (2, .int x2)] [.int s0] M z.2 (Qv (none) z.2) xF := by
  unfold d_X12_ends_54 at h
  refine Y_istore_n (lv1 := [(1, .int s0), (0, .ref 69), (2, .int x2)]) dX12_ends_54 rfl (by decide) rfl ?_
  refine Y_iload_n (j := 0) dX12_ends_55 rfl rfl ?_
  refine Y_if_eq (tgt := 64) dX12_ends_56 (by decide) (fun hc1 => ?_) (fun hc1 => ?_)
  · replace h := ifT hc1 h
    refine VV.sub [1, 0] rfl ?_
    exact b_X12_ends_64 hk15 hP h
  · replace h := ifF hc1 h
    refine Y_aload_n (j := 1) dX12_ends_59 rfl rfl ?_
    refine Y_iload_n (j := 2) dX12_ends_60 rfl rfl ?_
    obtain ⟨y1, qy1, h⟩ := bindE h
    have cy1 := v_X12_throwAway hP qy1
    refine C_V1o dX12_ends_61 w9_152 i_X12_throwAway (lk_69 hP) ⟨Nat.le_of_ble_eq_true rfl, Nat.le_of_ble_eq_true rfl⟩ rfl (Nat.le_of_ble_eq_true rfl) (Nat.le_of_ble_eq_true rfl) (Nat.le_of_ble_eq_true rfl) (cy1) ?_
    have hPy1 := cy1.1.1
    refine VV.sub [1, 0] rfl ?_
    exact b_X12_ends_64 hk15 hPy1 h
noncomputable def d_X12_ends_15b (k15 : (Int32) → Mem → Option (Unit × Mem)) (x1 : Int32) (M : Mem) : Option (Unit × Mem) :=
  if x1 = 0 then (
    d_X12_ends_67 x1 M)
  else (
    (d_X12_size M).bind fun y1 =>
    if (y1.1 + (mI y1.2 69 76)) ≤ (mI y1.2 69 25) then (
      d_X12_ends_67 x1 y1.2)
    else (
      (d_X12_oldest (mI y1.2 69 72) y1.2).bind fun y2 =>
      if y2.1 = (-1 : Int32) then (
        d_X12_ends_54 k15 y2.1 (0 : Int32) y2.2)
      else (
        d_X12_ends_54 k15 y2.1 (1 : Int32) y2.2)))
theorem b_X12_ends_15b {k15 : (Int32) → Mem → Option (Unit × Mem)} {x1 : Int32} {M z} (hk15 : ∀ (a : (Int32)) (M : Mem) (z : Unit × Mem), Lay M → k15 a M = some z → VV Lay k_X12_ends 15 [(0, .ref 69), (1, .int a)] [] M z.2 (Qv (none) z.2) xF) (hP : Lay M) (h : d_X12_ends_15b k15 x1 M = some z) : VV Lay k_X12_ends 15 [(0, .ref 69), (1, .int x1)] [] M z.2 (Qv (none) z.2) xF := by
  unfold d_X12_ends_15b at h
  refine Y_iload_n (j := 1) dX12_ends_15 rfl rfl ?_
  refine Y_if_eq (tgt := 67) dX12_ends_16 (by decide) (fun hc1 => ?_) (fun hc1 => ?_)
  · replace h := ifT hc1 h
    refine VV.sub [0, 1] rfl ?_
    exact b_X12_ends_67  hP h
  · replace h := ifF hc1 h
    refine Y_aload_n (j := 0) dX12_ends_19 rfl rfl ?_
    obtain ⟨y1, qy1, h⟩ := bindE h
    have cy1 := v_X12_size hP qy1
    refine C_V0r dX12_ends_20 w9_164 i_X12_size (lk_69 hP) ⟨Nat.le_of_ble_eq_true rfl, Nat.le_of_ble_eq_true rfl⟩ rfl (Nat.le_of_ble_eq_true rfl) (Nat.le_of_ble_eq_true rfl) (Nat.le_of_ble_eq_true rfl) (cy1) ?_
    have hPy1 := cy1.1.1
    refine Y_aload_n (j := 0) dX12_ends_23 rfl rfl ?_
    refine Z_geti dX12_ends_24 w8_142 (lk_69 hPy1) fi_12_76 ?_
    refine Y_iadd dX12_ends_27 ?_
    refine Y_aload_n (j := 0) dX12_ends_28 rfl rfl ?_
    refine Z_geti dX12_ends_29 w8_91 (lk_69 hPy1) fi_12_25 ?_
    refine Y_icmp_le (tgt := 67) dX12_ends_32 (by decide) (fun hc2 => ?_) (fun hc2 => ?_)
    · replace h := ifT hc2 h
      refine VV.sub [0, 1] rfl ?_
      exact b_X12_ends_67  hPy1 h
    · replace h := ifF hc2 h
      refine Y_aload_n (j := 0) dX12_ends_35 rfl rfl ?_
      refine Y_aload_n (j := 0) dX12_ends_36 rfl rfl ?_
      refine Z_geti dX12_ends_37 w8_138 (lk_69 hPy1) fi_12_72 ?_
      obtain ⟨y2, qy2, h⟩ := bindE h
      have cy2 := v_X12_oldest hPy1 qy2
      refine C_V1r dX12_ends_40 w9_168 i_X12_oldest (lk_69 hPy1) ⟨Nat.le_of_ble_eq_true rfl, Nat.le_of_ble_eq_true rfl⟩ rfl (Nat.le_of_ble_eq_true rfl) (Nat.le_of_ble_eq_true rfl) (Nat.le_of_ble_eq_true rfl) (cy2) ?_
      have hPy2 := cy2.1.1
      refine Y_istore_n (lv1 := [(2, .int y2.1), (0, .ref 69), (1, .int x1)]) dX12_ends_43 rfl (by decide) rfl ?_
      refine Y_iload_n (j := 0) dX12_ends_44 rfl rfl ?_
      refine Y_iconst (v := (-1 : Int32)) dX12_ends_45 rfl ?_
      refine Y_icmp_eq (tgt := 53) dX12_ends_46 (by decide) (fun hc3 => ?_) (fun hc3 => ?_)
      · replace h := ifT hc3 h
        refine Y_iconst (v := (0 : Int32)) dX12_ends_53 rfl ?_
        refine VV.sub [1, 0] rfl ?_
        exact b_X12_ends_54 hk15 hPy2 h
      · replace h := ifF hc3 h
        refine Y_iconst (v := (1 : Int32)) dX12_ends_49 rfl ?_
        refine Y_goto (tgt := 54) dX12_ends_50 (by decide) ?_
        refine VV.sub [1, 0] rfl ?_
        exact b_X12_ends_54 hk15 hPy2 h
noncomputable def d_X12_ends_15 : Nat → (Int32) → Mem → Option (Unit × Mem) := lp fun k a M => d_X12_ends_15b k a M
theorem b_X12_ends_15 (n : Nat) : ∀ (a : (Int32)) (M : Mem) (z : Unit × Mem), d_X12_ends_15 n a M = some z → Lay M → VV Lay k_X12_ends 15 [(0, .ref 69), (1, .int a)] [] M z.2 (Qv (none) z.2) xF :=
  lp_ind (fun k hk a M z h hP => b_X12_ends_15b  (fun a M z hP h => hk a M z h hP) hP h) n
noncomputable def d_X12_ends_14 (s0 : Int32) (M : Mem) : Option (Unit × Mem) :=
  d_X12_ends_15 fuel (s0) M
theorem b_X12_ends_14 {s0 : Int32} {M z} (hP : Lay M) (h : d_X12_ends_14 s0 M = some z) : VV Lay k_X12_ends 14 [(0, .ref 69)] [.int s0] M z.2 (Qv (none) z.2) xF := by
  unfold d_X12_ends_14 at h
  refine Y_istore_n (lv1 := [(1, .int s0), (0, .ref 69)]) dX12_ends_14 rfl (by decide) rfl ?_
  refine VV.sub [1, 0] rfl ?_
  exact b_X12_ends_15  fuel _ _ _ h hP
noncomputable def d_X12_ends (M : Mem) : Option (Unit × Mem) :=
  if (20 : Int32) ≤ (mI M 69 26) then (
    d_X12_ends_14 (0 : Int32) M)
  else (
    d_X12_ends_14 (1 : Int32) M)
theorem b_X12_ends {M z} (hP : Lay M) (h : d_X12_ends M = some z) : VV Lay k_X12_ends 0 [(0, .ref 69)] [] M z.2 (Qv (none) z.2) xF := by
  unfold d_X12_ends at h
  refine Y_aload_n (j := 0) dX12_ends_0 rfl rfl ?_
  refine Z_geti dX12_ends_1 w8_92 (lk_69 hP) fi_12_26 ?_
  refine Y_bipush (v := (20 : Int32)) dX12_ends_4 rfl ?_
  refine Y_icmp_ge (tgt := 13) dX12_ends_6 (by decide) (fun hc1 => ?_) (fun hc1 => ?_)
  · replace h := ifT hc1 h
    refine Y_iconst (v := (0 : Int32)) dX12_ends_13 rfl ?_
    refine VV.sub [0] rfl ?_
    exact b_X12_ends_14  hP h
  · replace h := ifF hc1 h
    refine Y_iconst (v := (1 : Int32)) dX12_ends_9 rfl ?_
    refine Y_goto (tgt := 14) dX12_ends_10 (by decide) ?_
    refine VV.sub [0] rfl ?_
    exact b_X12_ends_14  hP h
theorem v_X12_ends {M z} (hP : Lay M) (h : d_X12_ends M = some z) : CC Lay k_X12_ends [.ref 69] M z.2 (Qv (none) z.2) xF :=
  CC.ofVV (by decide) rfl (Nat.le_of_ble_eq_true rfl) (b_X12_ends hP h)
noncomputable def d_X12_takes_87 (s0 : Int32) (M : Mem) : Option (Int32 × Mem) :=
  if s0 = 0 then (
    some ((0 : Int32), M))
  else (
    some ((1 : Int32), M))
theorem b_X12_takes_87 {s0 : Int32} {M z} (hP : Lay M) (h : d_X12_takes_87 s0 M = some z) : VV Lay k_X12_takes 87 [] [.int s0] M z.2 (Qv (some (.int z.1)) z.2) xF := by
  unfold d_X12_takes_87 at h
  refine Y_istore_n (lv1 := [(3, .int s0)]) dX12_takes_87 rfl (by decide) rfl ?_
  refine Y_iload_n (j := 0) dX12_takes_88 rfl rfl ?_
  refine Y_if_eq (tgt := 96) dX12_takes_89 (by decide) (fun hc1 => ?_) (fun hc1 => ?_)
  · replace h := ifT hc1 h
    refine Y_iconst (v := (0 : Int32)) dX12_takes_96 rfl ?_
    cases h
    exact Y_iret rfl rfl dX12_takes_97 hP ⟨rfl, rfl⟩
  · replace h := ifF hc1 h
    refine Y_iconst (v := (1 : Int32)) dX12_takes_92 rfl ?_
    refine Y_goto (tgt := 97) dX12_takes_93 (by decide) ?_
    cases h
    exact Y_iret rfl rfl dX12_takes_97 hP ⟨rfl, rfl⟩
noncomputable def d_X12_takes_82 (M : Mem) : Option (Int32 × Mem) :=
  d_X12_takes_87 (1 : Int32) M
theorem b_X12_takes_82 {M z} (hP : Lay M) (h : d_X12_takes_82 M = some z) : VV Lay k_X12_takes 82 [] [] M z.2 (Qv (some (.int z.1)) z.2) xF := by
  unfold d_X12_takes_82 at h
  refine Y_iconst (v := (1 : Int32)) dX12_takes_82 rfl ?_
  refine Y_goto (tgt := 87) dX12_takes_83 (by decide) ?_
  refine VV.sub [] rfl ?_
  exact b_X12_takes_87  hP h
noncomputable def d_X12_takes (x1 : Int32) (x2 : Int32) (M : Mem) : Option (Int32 × Mem) :=
  (d_X12_isPair x1 M).bind fun y1 =>
  if y1.1 = 0 then (
    if x1 = (112 : Int32) then (
      some ((2 : Int32), y1.2))
    else (
      if x1 = (99 : Int32) then (
        okk (vp_in x2 8) <|
        some ((mI y1.2 70 x2.toNatClampNeg), y1.2))
      else (
        if x1 = (115 : Int32) then (
          d_X12_takes_82 y1.2)
        else (
          if x1 = (117 : Int32) then (
            d_X12_takes_82 y1.2)
          else (
            if x1 = (100 : Int32) then (
              d_X12_takes_82 y1.2)
            else (
              if x1 = (119 : Int32) then (
                d_X12_takes_82 y1.2)
              else (
                if x1 = (122 : Int32) then (
                  d_X12_takes_82 y1.2)
                else (
                  if x1 = (103 : Int32) then (
                    d_X12_takes_82 y1.2)
                  else (
                    if x1 = (109 : Int32) then (
                      d_X12_takes_82 y1.2)
                    else (
                      if x1 = (114 : Int32) then (
                        d_X12_takes_82 y1.2)
                      else (
                        if x1 = (116 : Int32) then (
                          d_X12_takes_82 y1.2)
                        else (
                          d_X12_takes_87 (0 : Int32) y1.2))))))))))))
  else (
    some ((2 : Int32), y1.2))
theorem b_X12_takes {x1 : Int32} {x2 : Int32} {M z} (hP : Lay M) (h : d_X12_takes x1 x2 M = some z) : VV Lay k_X12_takes 0 [(0, .ref 69), (1, .int x1), (2, .int x2)] [] M z.2 (Qv (some (.int z.1)) z.2) xF := by
  unfold d_X12_takes at h
  refine Y_iload_n (j := 1) dX12_takes_0 rfl rfl ?_
  obtain ⟨y1, qy1, h⟩ := bindE h
  have cy1 := v_X12_isPair hP qy1
  refine C_S1r dX12_takes_1 w9_129 i_X12_isPair (Nat.le_of_ble_eq_true rfl) (Nat.le_of_ble_eq_true rfl) (Nat.le_of_ble_eq_true rfl) (cy1) ?_
  have hPy1 := cy1.1.1
  refine Y_if_ne (tgt := 13) dX12_takes_4 (by decide) (fun hc1 => ?_) (fun hc1 => ?_)
  · replace h := ifF hc1 h
    refine Y_iconst (v := (2 : Int32)) dX12_takes_13 rfl ?_
    cases h
    exact Y_iret rfl rfl dX12_takes_14 hPy1 ⟨rfl, rfl⟩
  · replace h := ifT hc1 h
    refine Y_iload_n (j := 1) dX12_takes_7 rfl rfl ?_
    refine Y_bipush (v := (112 : Int32)) dX12_takes_8 rfl ?_
    refine Y_icmp_ne (tgt := 15) dX12_takes_10 (by decide) (fun hc2 => ?_) (fun hc2 => ?_)
    · replace h := ifF hc2 h
      refine Y_iload_n (j := 1) dX12_takes_15 rfl rfl ?_
      refine Y_bipush (v := (99 : Int32)) dX12_takes_16 rfl ?_
      refine Y_icmp_ne (tgt := 28) dX12_takes_18 (by decide) (fun hc3 => ?_) (fun hc3 => ?_)
      · replace h := ifF hc3 h
        refine Y_iload_n (j := 1) dX12_takes_28 rfl rfl ?_
        refine Y_bipush (v := (115 : Int32)) dX12_takes_29 rfl ?_
        refine Y_icmp_eq (tgt := 82) dX12_takes_31 (by decide) (fun hc4 => ?_) (fun hc4 => ?_)
        · replace h := ifT hc4 h
          refine VV.sub [] rfl ?_
          exact b_X12_takes_82  hPy1 h
        · replace h := ifF hc4 h
          refine Y_iload_n (j := 1) dX12_takes_34 rfl rfl ?_
          refine Y_bipush (v := (117 : Int32)) dX12_takes_35 rfl ?_
          refine Y_icmp_eq (tgt := 82) dX12_takes_37 (by decide) (fun hc5 => ?_) (fun hc5 => ?_)
          · replace h := ifT hc5 h
            refine VV.sub [] rfl ?_
            exact b_X12_takes_82  hPy1 h
          · replace h := ifF hc5 h
            refine Y_iload_n (j := 1) dX12_takes_40 rfl rfl ?_
            refine Y_bipush (v := (100 : Int32)) dX12_takes_41 rfl ?_
            refine Y_icmp_eq (tgt := 82) dX12_takes_43 (by decide) (fun hc6 => ?_) (fun hc6 => ?_)
            · replace h := ifT hc6 h
              refine VV.sub [] rfl ?_
              exact b_X12_takes_82  hPy1 h
            · replace h := ifF hc6 h
              refine Y_iload_n (j := 1) dX12_takes_46 rfl rfl ?_
              refine Y_bipush (v := (119 : Int32)) dX12_takes_47 rfl ?_
              refine Y_icmp_eq (tgt := 82) dX12_takes_49 (by decide) (fun hc7 => ?_) (fun hc7 => ?_)
              · replace h := ifT hc7 h
                refine VV.sub [] rfl ?_
                exact b_X12_takes_82  hPy1 h
              · replace h := ifF hc7 h
                refine Y_iload_n (j := 1) dX12_takes_52 rfl rfl ?_
                refine Y_bipush (v := (122 : Int32)) dX12_takes_53 rfl ?_
                refine Y_icmp_eq (tgt := 82) dX12_takes_55 (by decide) (fun hc8 => ?_) (fun hc8 => ?_)
                · replace h := ifT hc8 h
                  refine VV.sub [] rfl ?_
                  exact b_X12_takes_82  hPy1 h
                · replace h := ifF hc8 h
                  refine Y_iload_n (j := 1) dX12_takes_58 rfl rfl ?_
                  refine Y_bipush (v := (103 : Int32)) dX12_takes_59 rfl ?_
                  refine Y_icmp_eq (tgt := 82) dX12_takes_61 (by decide) (fun hc9 => ?_) (fun hc9 => ?_)
                  · replace h := ifT hc9 h
                    refine VV.sub [] rfl ?_
                    exact b_X12_takes_82  hPy1 h
                  · replace h := ifF hc9 h
                    refine Y_iload_n (j := 1) dX12_takes_64 rfl rfl ?_
                    refine Y_bipush (v := (109 : Int32)) dX12_takes_65 rfl ?_
                    refine Y_icmp_eq (tgt := 82) dX12_takes_67 (by decide) (fun hc10 => ?_) (fun hc10 => ?_)
                    · replace h := ifT hc10 h
                      refine VV.sub [] rfl ?_
                      exact b_X12_takes_82  hPy1 h
                    · replace h := ifF hc10 h
                      refine Y_iload_n (j := 1) dX12_takes_70 rfl rfl ?_
                      refine Y_bipush (v := (114 : Int32)) dX12_takes_71 rfl ?_
                      refine Y_icmp_eq (tgt := 82) dX12_takes_73 (by decide) (fun hc11 => ?_) (fun hc11 => ?_)
                      · replace h := ifT hc11 h
                        refine VV.sub [] rfl ?_
                        exact b_X12_takes_82  hPy1 h
                      · replace h := ifF hc11 h
                        refine Y_iload_n (j := 1) dX12_takes_76 rfl rfl ?_
                        refine Y_bipush (v := (116 : Int32)) dX12_takes_77 rfl ?_
                        refine Y_icmp_ne (tgt := 86) dX12_takes_79 (by decide) (fun hc12 => ?_) (fun hc12 => ?_)
                        · replace h := ifF hc12 h
                          refine Y_iconst (v := (0 : Int32)) dX12_takes_86 rfl ?_
                          refine VV.sub [] rfl ?_
                          exact b_X12_takes_87  hPy1 h
                        · replace h := ifT hc12 h
                          refine VV.sub [] rfl ?_
                          exact b_X12_takes_82  hPy1 h
      · replace h := ifT hc3 h
        refine Y_aload_n (j := 0) dX12_takes_21 rfl rfl ?_
        refine Z_getr dX12_takes_22 w8_68 (lk_69 hPy1) fr_12_2 (lr_69_2 hPy1) ?_
        refine Y_iload_n (j := 2) dX12_takes_25 rfl rfl ?_
        obtain ⟨hb1, h⟩ := okE h
        refine Y_iald dX12_takes_26 (lk_70 hPy1) (ln_70 hPy1) hb1 ?_
        cases h
        exact Y_iret rfl rfl dX12_takes_27 hPy1 ⟨rfl, rfl⟩
    · replace h := ifT hc2 h
      refine Y_iconst (v := (2 : Int32)) dX12_takes_13 rfl ?_
      cases h
      exact Y_iret rfl rfl dX12_takes_14 hPy1 ⟨rfl, rfl⟩
theorem v_X12_takes {x1 : Int32} {x2 : Int32} {M z} (hP : Lay M) (h : d_X12_takes x1 x2 M = some z) : CC Lay k_X12_takes [.ref 69, .int x1, .int x2] M z.2 (Qv (some (.int z.1)) z.2) xF :=
  CC.ofVV (by decide) rfl (Nat.le_of_ble_eq_true rfl) (b_X12_takes hP h)
noncomputable def d_X12_hasNoRoom_70 (s0 : Int32) (M : Mem) : Option (Int32 × Mem) :=
  if s0 = 0 then (
    some ((0 : Int32), M))
  else (
    okk (vp_in (mI M 69 48) 12) <|
    if (mI M 111 (mI M 69 48).toNatClampNeg) = (8 : Int32) then (
      some ((1 : Int32), M))
    else (
      some ((0 : Int32), M)))
theorem b_X12_hasNoRoom_70 {s0 : Int32} {M z} (hP : Lay M) (h : d_X12_hasNoRoom_70 s0 M = some z) : VV Lay k_X12_hasNoRoom 70 [(0, .ref 69)] [.int s0] M z.2 (Qv (some (.int z.1)) z.2) xF := by
  unfold d_X12_hasNoRoom_70 at h
  refine Y_istore_n (lv1 := [(2, .int s0), (0, .ref 69)]) dX12_hasNoRoom_70 rfl (by decide) rfl ?_
  refine Y_iload_n (j := 0) dX12_hasNoRoom_71 rfl rfl ?_
  refine Y_if_eq (tgt := 93) dX12_hasNoRoom_72 (by decide) (fun hc1 => ?_) (fun hc1 => ?_)
  · replace h := ifT hc1 h
    refine Y_iconst (v := (0 : Int32)) dX12_hasNoRoom_93 rfl ?_
    cases h
    exact Y_iret rfl (nar_bo (by decide)) dX12_hasNoRoom_94 hP ⟨rfl, rfl⟩
  · replace h := ifF hc1 h
    refine Y_aload_n (j := 1) dX12_hasNoRoom_75 rfl rfl ?_
    refine Z_getr dX12_hasNoRoom_76 w8_117 (lk_69 hP) fr_12_51 (lr_69_51 hP) ?_
    refine Y_aload_n (j := 1) dX12_hasNoRoom_79 rfl rfl ?_
    refine Z_geti dX12_hasNoRoom_80 w8_114 (lk_69 hP) fi_12_48 ?_
    obtain ⟨hb1, h⟩ := okE h
    refine Y_iald dX12_hasNoRoom_83 (lk_111 hP) (ln_111 hP) hb1 ?_
    refine Y_bipush (v := (8 : Int32)) dX12_hasNoRoom_84 rfl ?_
    refine Y_icmp_ne (tgt := 93) dX12_hasNoRoom_86 (by decide) (fun hc2 => ?_) (fun hc2 => ?_)
    · replace h := ifF hc2 h
      refine Y_iconst (v := (0 : Int32)) dX12_hasNoRoom_93 rfl ?_
      cases h
      exact Y_iret rfl (nar_bo (by decide)) dX12_hasNoRoom_94 hP ⟨rfl, rfl⟩
    · replace h := ifT hc2 h
      refine Y_iconst (v := (1 : Int32)) dX12_hasNoRoom_89 rfl ?_
      refine Y_goto (tgt := 94) dX12_hasNoRoom_90 (by decide) ?_
      cases h
      exact Y_iret rfl (nar_bo (by decide)) dX12_hasNoRoom_94 hP ⟨rfl, rfl⟩
noncomputable def d_X12_hasNoRoom_65 (M : Mem) : Option (Int32 × Mem) :=
  d_X12_hasNoRoom_70 (1 : Int32) M
theorem b_X12_hasNoRoom_65 {M z} (hP : Lay M) (h : d_X12_hasNoRoom_65 M = some z) : VV Lay k_X12_hasNoRoom 65 [(0, .ref 69)] [] M z.2 (Qv (some (.int z.1)) z.2) xF := by
  unfold d_X12_hasNoRoom_65 at h
  refine Y_iconst (v := (1 : Int32)) dX12_hasNoRoom_65 rfl ?_
  refine Y_goto (tgt := 70) dX12_hasNoRoom_66 (by decide) ?_
  refine VV.sub [0] rfl ?_
  exact b_X12_hasNoRoom_70  hP h
noncomputable def d_X12_hasNoRoom (x1 : Int32) (M : Mem) : Option (Int32 × Mem) :=
  if x1 = (114 : Int32) then (
    if (mI M 69 48) ≤ 0 then (
      some ((0 : Int32), M))
    else (
      okk (vp_in ((mI M 69 48) - (1 : Int32)) 12) <|
      if (mI M 111 ((mI M 69 48) - (1 : Int32)).toNatClampNeg) = (8 : Int32) then (
        some ((1 : Int32), M))
      else (
        some ((0 : Int32), M))))
  else (
    if x1 = (105 : Int32) then (
      d_X12_hasNoRoom_65 M)
    else (
      if x1 = (107 : Int32) then (
        d_X12_hasNoRoom_65 M)
      else (
        if x1 = (108 : Int32) then (
          d_X12_hasNoRoom_65 M)
        else (
          if x1 = (117 : Int32) then (
            d_X12_hasNoRoom_65 M)
          else (
            if x1 = (110 : Int32) then (
              d_X12_hasNoRoom_65 M)
            else (
              d_X12_hasNoRoom_70 (0 : Int32) M))))))
theorem b_X12_hasNoRoom {x1 : Int32} {M z} (hP : Lay M) (h : d_X12_hasNoRoom x1 M = some z) : VV Lay k_X12_hasNoRoom 0 [(0, .ref 69), (1, .int x1)] [] M z.2 (Qv (some (.int z.1)) z.2) xF := by
  unfold d_X12_hasNoRoom at h
  refine Y_iload_n (j := 1) dX12_hasNoRoom_0 rfl rfl ?_
  refine Y_bipush (v := (114 : Int32)) dX12_hasNoRoom_1 rfl ?_
  refine Y_icmp_ne (tgt := 35) dX12_hasNoRoom_3 (by decide) (fun hc1 => ?_) (fun hc1 => ?_)
  · replace h := ifF hc1 h
    refine Y_iload_n (j := 1) dX12_hasNoRoom_35 rfl rfl ?_
    refine Y_bipush (v := (105 : Int32)) dX12_hasNoRoom_36 rfl ?_
    refine Y_icmp_eq (tgt := 65) dX12_hasNoRoom_38 (by decide) (fun hc2 => ?_) (fun hc2 => ?_)
    · replace h := ifT hc2 h
      refine VV.sub [0] rfl ?_
      exact b_X12_hasNoRoom_65  hP h
    · replace h := ifF hc2 h
      refine Y_iload_n (j := 1) dX12_hasNoRoom_41 rfl rfl ?_
      refine Y_bipush (v := (107 : Int32)) dX12_hasNoRoom_42 rfl ?_
      refine Y_icmp_eq (tgt := 65) dX12_hasNoRoom_44 (by decide) (fun hc3 => ?_) (fun hc3 => ?_)
      · replace h := ifT hc3 h
        refine VV.sub [0] rfl ?_
        exact b_X12_hasNoRoom_65  hP h
      · replace h := ifF hc3 h
        refine Y_iload_n (j := 1) dX12_hasNoRoom_47 rfl rfl ?_
        refine Y_bipush (v := (108 : Int32)) dX12_hasNoRoom_48 rfl ?_
        refine Y_icmp_eq (tgt := 65) dX12_hasNoRoom_50 (by decide) (fun hc4 => ?_) (fun hc4 => ?_)
        · replace h := ifT hc4 h
          refine VV.sub [0] rfl ?_
          exact b_X12_hasNoRoom_65  hP h
        · replace h := ifF hc4 h
          refine Y_iload_n (j := 1) dX12_hasNoRoom_53 rfl rfl ?_
          refine Y_bipush (v := (117 : Int32)) dX12_hasNoRoom_54 rfl ?_
          refine Y_icmp_eq (tgt := 65) dX12_hasNoRoom_56 (by decide) (fun hc5 => ?_) (fun hc5 => ?_)
          · replace h := ifT hc5 h
            refine VV.sub [0] rfl ?_
            exact b_X12_hasNoRoom_65  hP h
          · replace h := ifF hc5 h
            refine Y_iload_n (j := 1) dX12_hasNoRoom_59 rfl rfl ?_
            refine Y_bipush (v := (110 : Int32)) dX12_hasNoRoom_60 rfl ?_
            refine Y_icmp_ne (tgt := 69) dX12_hasNoRoom_62 (by decide) (fun hc6 => ?_) (fun hc6 => ?_)
            · replace h := ifF hc6 h
              refine Y_iconst (v := (0 : Int32)) dX12_hasNoRoom_69 rfl ?_
              refine VV.sub [0] rfl ?_
              exact b_X12_hasNoRoom_70  hP h
            · replace h := ifT hc6 h
              refine VV.sub [0] rfl ?_
              exact b_X12_hasNoRoom_65  hP h
  · replace h := ifT hc1 h
    refine Y_aload_n (j := 0) dX12_hasNoRoom_6 rfl rfl ?_
    refine Z_geti dX12_hasNoRoom_7 w8_114 (lk_69 hP) fi_12_48 ?_
    refine Y_if_le (tgt := 33) dX12_hasNoRoom_10 (by decide) (fun hc7 => ?_) (fun hc7 => ?_)
    · replace h := ifT hc7 h
      refine Y_iconst (v := (0 : Int32)) dX12_hasNoRoom_33 rfl ?_
      cases h
      exact Y_iret rfl (nar_bo (by decide)) dX12_hasNoRoom_34 hP ⟨rfl, rfl⟩
    · replace h := ifF hc7 h
      refine Y_aload_n (j := 0) dX12_hasNoRoom_13 rfl rfl ?_
      refine Z_getr dX12_hasNoRoom_14 w8_117 (lk_69 hP) fr_12_51 (lr_69_51 hP) ?_
      refine Y_aload_n (j := 0) dX12_hasNoRoom_17 rfl rfl ?_
      refine Z_geti dX12_hasNoRoom_18 w8_114 (lk_69 hP) fi_12_48 ?_
      refine Y_iconst (v := (1 : Int32)) dX12_hasNoRoom_21 rfl ?_
      refine Y_isub dX12_hasNoRoom_22 ?_
      obtain ⟨hb1, h⟩ := okE h
      refine Y_iald dX12_hasNoRoom_23 (lk_111 hP) (ln_111 hP) hb1 ?_
      refine Y_bipush (v := (8 : Int32)) dX12_hasNoRoom_24 rfl ?_
      refine Y_icmp_ne (tgt := 33) dX12_hasNoRoom_26 (by decide) (fun hc8 => ?_) (fun hc8 => ?_)
      · replace h := ifF hc8 h
        refine Y_iconst (v := (0 : Int32)) dX12_hasNoRoom_33 rfl ?_
        cases h
        exact Y_iret rfl (nar_bo (by decide)) dX12_hasNoRoom_34 hP ⟨rfl, rfl⟩
      · replace h := ifT hc8 h
        refine Y_iconst (v := (1 : Int32)) dX12_hasNoRoom_29 rfl ?_
        refine Y_goto (tgt := 34) dX12_hasNoRoom_30 (by decide) ?_
        cases h
        exact Y_iret rfl (nar_bo (by decide)) dX12_hasNoRoom_34 hP ⟨rfl, rfl⟩
theorem v_X12_hasNoRoom {x1 : Int32} {M z} (hP : Lay M) (h : d_X12_hasNoRoom x1 M = some z) : CC Lay k_X12_hasNoRoom [.ref 69, .int x1] M z.2 (Qv (some (.int z.1)) z.2) xF :=
  CC.ofVV (by decide) rfl (Nat.le_of_ble_eq_true rfl) (b_X12_hasNoRoom hP h)
noncomputable def d_X12_rounded (x0 : UInt64) (M : Mem) : Option (UInt64 × Mem) :=
  some ((xrint x0), M)
theorem b_X12_rounded {x0 : UInt64} {M z} (hP : Lay M) (h : d_X12_rounded x0 M = some z) : VV Lay k_X12_rounded 0 [(0, .double x0)] [] M z.2 (Qv (some (.double z.1)) z.2) xF := by
  unfold d_X12_rounded at h
  refine Y_dload_n (j := 0) dX12_rounded_0 rfl rfl ?_
  refine Y_rint dX12_rounded_1 w9_210 ?_
  cases h
  exact Y_dret rfl dX12_rounded_4 hP ⟨rfl, rfl⟩
theorem v_X12_rounded {x0 : UInt64} {M z} (hP : Lay M) (h : d_X12_rounded x0 M = some z) : CC Lay k_X12_rounded [.double x0] M z.2 (Qv (some (.double z.1)) z.2) xF :=
  CC.ofVV (by decide) rfl (Nat.le_of_ble_eq_true rfl) (b_X12_rounded hP h)
noncomputable def d_X12_why_459 (x3 : Int32) (M : Mem) : Option (Int32 × Mem) :=
  if x3 = (110 : Int32) then (
    if (mI M 69 52) = (60 : Int32) then (
      some ((111 : Int32), M))
    else (
      some ((0 : Int32), M)))
  else (
    some ((0 : Int32), M))
theorem b_X12_why_459 {x3 : Int32} {M z} (hP : Lay M) (h : d_X12_why_459 x3 M = some z) : VV Lay k_X12_why 459 [(0, .ref 69), (3, .int x3)] [] M z.2 (Qv (some (.int z.1)) z.2) xF := by
  unfold d_X12_why_459 at h
  refine Y_iload_n (j := 1) dX12_why_459 rfl rfl ?_
  refine Y_bipush (v := (110 : Int32)) dX12_why_460 rfl ?_
  refine Y_icmp_ne (tgt := 479) dX12_why_462 (by decide) (fun hc1 => ?_) (fun hc1 => ?_)
  · replace h := ifF hc1 h
    refine Y_iconst (v := (0 : Int32)) dX12_why_479 rfl ?_
    cases h
    exact Y_iret rfl (nar_ch (by decide)) dX12_why_480 hP ⟨rfl, rfl⟩
  · replace h := ifT hc1 h
    refine Y_aload_n (j := 0) dX12_why_465 rfl rfl ?_
    refine Z_geti dX12_why_466 w8_118 (lk_69 hP) fi_12_52 ?_
    refine Y_bipush (v := (60 : Int32)) dX12_why_469 rfl ?_
    refine Y_icmp_ne (tgt := 479) dX12_why_471 (by decide) (fun hc2 => ?_) (fun hc2 => ?_)
    · replace h := ifF hc2 h
      refine Y_iconst (v := (0 : Int32)) dX12_why_479 rfl ?_
      cases h
      exact Y_iret rfl (nar_ch (by decide)) dX12_why_480 hP ⟨rfl, rfl⟩
    · replace h := ifT hc2 h
      refine Y_bipush (v := (111 : Int32)) dX12_why_474 rfl ?_
      refine Y_goto (tgt := 480) dX12_why_476 (by decide) ?_
      cases h
      exact Y_iret rfl (nar_ch (by decide)) dX12_why_480 hP ⟨rfl, rfl⟩
noncomputable def d_X12_why_447 (x3 : Int32) (M : Mem) : Option (Int32 × Mem) :=
  if (mI M 69 48) = (11 : Int32) then (
    some ((100 : Int32), M))
  else (
    d_X12_why_459 x3 M)
theorem b_X12_why_447 {x3 : Int32} {M z} (hP : Lay M) (h : d_X12_why_447 x3 M = some z) : VV Lay k_X12_why 447 [(0, .ref 69), (3, .int x3)] [] M z.2 (Qv (some (.int z.1)) z.2) xF := by
  unfold d_X12_why_447 at h
  refine Y_aload_n (j := 0) dX12_why_447 rfl rfl ?_
  refine Z_geti dX12_why_448 w8_114 (lk_69 hP) fi_12_48 ?_
  refine Y_bipush (v := (11 : Int32)) dX12_why_451 rfl ?_
  refine Y_icmp_ne (tgt := 459) dX12_why_453 (by decide) (fun hc1 => ?_) (fun hc1 => ?_)
  · replace h := ifF hc1 h
    refine VV.sub [0, 1] rfl ?_
    exact b_X12_why_459  hP h
  · replace h := ifT hc1 h
    refine Y_bipush (v := (100 : Int32)) dX12_why_456 rfl ?_
    cases h
    exact Y_iret rfl (nar_ch (by decide)) dX12_why_458 hP ⟨rfl, rfl⟩
noncomputable def d_X12_why_435 (x3 : Int32) (M : Mem) : Option (Int32 × Mem) :=
  if x3 = (99 : Int32) then (
    d_X12_why_447 x3 M)
  else (
    if x3 = (109 : Int32) then (
      d_X12_why_447 x3 M)
    else (
      d_X12_why_459 x3 M))
theorem b_X12_why_435 {x3 : Int32} {M z} (hP : Lay M) (h : d_X12_why_435 x3 M = some z) : VV Lay k_X12_why 435 [(0, .ref 69), (3, .int x3)] [] M z.2 (Qv (some (.int z.1)) z.2) xF := by
  unfold d_X12_why_435 at h
  refine Y_iload_n (j := 1) dX12_why_435 rfl rfl ?_
  refine Y_bipush (v := (99 : Int32)) dX12_why_436 rfl ?_
  refine Y_icmp_eq (tgt := 447) dX12_why_438 (by decide) (fun hc1 => ?_) (fun hc1 => ?_)
  · replace h := ifT hc1 h
    refine VV.sub [0, 1] rfl ?_
    exact b_X12_why_447  hP h
  · replace h := ifF hc1 h
    refine Y_iload_n (j := 1) dX12_why_441 rfl rfl ?_
    refine Y_bipush (v := (109 : Int32)) dX12_why_442 rfl ?_
    refine Y_icmp_ne (tgt := 459) dX12_why_444 (by decide) (fun hc2 => ?_) (fun hc2 => ?_)
    · replace h := ifF hc2 h
      refine VV.sub [0, 1] rfl ?_
      exact b_X12_why_459  hP h
    · replace h := ifT hc2 h
      refine VV.sub [0, 1] rfl ?_
      exact b_X12_why_447  hP h
noncomputable def d_X12_why_399 (x3 : Int32) (x4 : Int32) (x5 : Int32) (M : Mem) : Option (Int32 × Mem) :=
  if x3 = (109 : Int32) then (
    okk (vp_in x5 168) <|
    okk (vp_in (mI M 106 x5.toNatClampNeg) 60) <|
    okk (vp_in (mI M 112 (mI M 106 x5.toNatClampNeg).toNatClampNeg) 60) <|
    (d_X12_methodOf (mI M 79 (mI M 112 (mI M 106 x5.toNatClampNeg).toNatClampNeg).toNatClampNeg) x4 M).bind fun y1 =>
    if y1.1 = (-1 : Int32) then (
      some ((109 : Int32), y1.2))
    else (
      d_X12_why_435 x3 y1.2))
  else (
    d_X12_why_435 x3 M)
theorem b_X12_why_399 {x3 : Int32} {x4 : Int32} {x5 : Int32} {M z} (hP : Lay M) (h : d_X12_why_399 x3 x4 x5 M = some z) : VV Lay k_X12_why 399 [(0, .ref 69), (3, .int x3), (4, .int x4), (5, .int x5)] [] M z.2 (Qv (some (.int z.1)) z.2) xF := by
  unfold d_X12_why_399 at h
  refine Y_iload_n (j := 1) dX12_why_399 rfl rfl ?_
  refine Y_bipush (v := (109 : Int32)) dX12_why_400 rfl ?_
  refine Y_icmp_ne (tgt := 435) dX12_why_402 (by decide) (fun hc1 => ?_) (fun hc1 => ?_)
  · replace h := ifF hc1 h
    refine VV.sub [0, 1] rfl ?_
    exact b_X12_why_435  hP h
  · replace h := ifT hc1 h
    refine Y_aload_n (j := 0) dX12_why_405 rfl rfl ?_
    refine Y_aload_n (j := 0) dX12_why_406 rfl rfl ?_
    refine Z_getr dX12_why_407 w8_79 (lk_69 hP) fr_12_13 (lr_69_13 hP) ?_
    refine Y_aload_n (j := 0) dX12_why_410 rfl rfl ?_
    refine Z_getr dX12_why_411 w8_119 (lk_69 hP) fr_12_53 (lr_69_53 hP) ?_
    refine Y_aload_n (j := 0) dX12_why_414 rfl rfl ?_
    refine Z_getr dX12_why_415 w8_111 (lk_69 hP) fr_12_45 (lr_69_45 hP) ?_
    refine Y_iload (j := 3) dX12_why_418 rfl ?_
    obtain ⟨hb1, h⟩ := okE h
    refine Y_iald dX12_why_420 (lk_106 hP) (ln_106 hP) hb1 ?_
    obtain ⟨hb2, h⟩ := okE h
    refine Y_iald dX12_why_421 (lk_112 hP) (ln_112 hP) hb2 ?_
    obtain ⟨hb3, h⟩ := okE h
    refine Y_iald dX12_why_422 (lk_79 hP) (ln_79 hP) hb3 ?_
    refine Y_iload (j := 2) dX12_why_423 rfl ?_
    obtain ⟨y1, qy1, h⟩ := bindE h
    have cy1 := v_X12_methodOf hP qy1
    refine C_V2r dX12_why_425 w9_237 i_X12_methodOf (lk_69 hP) ⟨Nat.le_of_ble_eq_true rfl, Nat.le_of_ble_eq_true rfl⟩ rfl (Nat.le_of_ble_eq_true rfl) (Nat.le_of_ble_eq_true rfl) (Nat.le_of_ble_eq_true rfl) (cy1) ?_
    have hPy1 := cy1.1.1
    refine Y_iconst (v := (-1 : Int32)) dX12_why_428 rfl ?_
    refine Y_icmp_ne (tgt := 435) dX12_why_429 (by decide) (fun hc2 => ?_) (fun hc2 => ?_)
    · replace h := ifF hc2 h
      refine VV.sub [0, 1] rfl ?_
      exact b_X12_why_435  hPy1 h
    · replace h := ifT hc2 h
      refine Y_bipush (v := (109 : Int32)) dX12_why_432 rfl ?_
      cases h
      exact Y_iret rfl (nar_ch (by decide)) dX12_why_434 hPy1 ⟨rfl, rfl⟩
noncomputable def d_X12_why_337 (x3 : Int32) (x4 : Int32) (x5 : Int32) (M : Mem) : Option (Int32 × Mem) :=
  if x3 = (112 : Int32) then (
    okk (vp_in (x5 - (1 : Int32)) 168) <|
    okk (vp_in (mI M 106 (x5 - (1 : Int32)).toNatClampNeg) 60) <|
    bnd ((mI M 112 (mI M 106 (x5 - (1 : Int32)).toNatClampNeg).toNatClampNeg)) fun b1 =>
    (d_X12_hasField b1 x4 M).bind fun y1 =>
    if y1.1 = 0 then (
      okk (vp_in (((6 : Int32) * b1) + x4) 360) <|
      if (mI y1.2 82 (((6 : Int32) * b1) + x4).toNatClampNeg) = (-1 : Int32) then (
        if (mI y1.2 69 12) = (60 : Int32) then (
          some ((102 : Int32), y1.2))
        else (
          d_X12_why_399 x3 x4 x5 y1.2))
      else (
        d_X12_why_399 x3 x4 x5 y1.2))
    else (
      d_X12_why_399 x3 x4 x5 y1.2))
  else (
    d_X12_why_399 x3 x4 x5 M)
theorem b_X12_why_337 {x3 : Int32} {x4 : Int32} {x5 : Int32} {M z} (hP : Lay M) (h : d_X12_why_337 x3 x4 x5 M = some z) : VV Lay k_X12_why 337 [(0, .ref 69), (3, .int x3), (4, .int x4), (5, .int x5)] [] M z.2 (Qv (some (.int z.1)) z.2) xF := by
  unfold d_X12_why_337 at h
  refine Y_iload_n (j := 1) dX12_why_337 rfl rfl ?_
  refine Y_bipush (v := (112 : Int32)) dX12_why_338 rfl ?_
  refine Y_icmp_ne (tgt := 399) dX12_why_340 (by decide) (fun hc1 => ?_) (fun hc1 => ?_)
  · replace h := ifF hc1 h
    refine VV.sub [0, 1, 2, 3] rfl ?_
    exact b_X12_why_399  hP h
  · replace h := ifT hc1 h
    refine Y_aload_n (j := 0) dX12_why_343 rfl rfl ?_
    refine Z_getr dX12_why_344 w8_119 (lk_69 hP) fr_12_53 (lr_69_53 hP) ?_
    refine Y_aload_n (j := 0) dX12_why_347 rfl rfl ?_
    refine Z_getr dX12_why_348 w8_111 (lk_69 hP) fr_12_45 (lr_69_45 hP) ?_
    refine Y_iload (j := 3) dX12_why_351 rfl ?_
    refine Y_iconst (v := (1 : Int32)) dX12_why_353 rfl ?_
    refine Y_isub dX12_why_354 ?_
    obtain ⟨hb1, h⟩ := okE h
    refine Y_iald dX12_why_355 (lk_106 hP) (ln_106 hP) hb1 ?_
    obtain ⟨hb2, h⟩ := okE h
    refine Y_iald dX12_why_356 (lk_112 hP) (ln_112 hP) hb2 ?_
    obtain ⟨b1, eb1, h⟩ := bndE h
    refine VV.topI eb1 ?_
    refine Y_istore (lv1 := [(6, .int b1), (0, .ref 69), (3, .int x3), (4, .int x4), (5, .int x5)]) dX12_why_357 (by decide) rfl ?_
    refine Y_aload_n (j := 1) dX12_why_359 rfl rfl ?_
    refine Y_iload (j := 0) dX12_why_360 rfl ?_
    refine Y_iload (j := 3) dX12_why_362 rfl ?_
    obtain ⟨y1, qy1, h⟩ := bindE h
    have cy1 := v_X12_hasField hP qy1
    refine C_V2r dX12_why_364 w9_233 i_X12_hasField (lk_69 hP) ⟨Nat.le_of_ble_eq_true rfl, Nat.le_of_ble_eq_true rfl⟩ rfl (Nat.le_of_ble_eq_true rfl) (Nat.le_of_ble_eq_true rfl) (Nat.le_of_ble_eq_true rfl) (cy1) ?_
    have hPy1 := cy1.1.1
    refine Y_if_ne (tgt := 399) dX12_why_367 (by decide) (fun hc2 => ?_) (fun hc2 => ?_)
    · replace h := ifF hc2 h
      refine VV.sub [1, 2, 3, 4] rfl ?_
      exact b_X12_why_399  hPy1 h
    · replace h := ifT hc2 h
      refine Y_aload_n (j := 1) dX12_why_370 rfl rfl ?_
      refine Z_getr dX12_why_371 w8_82 (lk_69 hPy1) fr_12_16 (lr_69_16 hPy1) ?_
      refine Y_bipush (v := (6 : Int32)) dX12_why_374 rfl ?_
      refine Y_iload (j := 0) dX12_why_376 rfl ?_
      refine Y_imul dX12_why_378 ?_
      refine Y_iload (j := 3) dX12_why_379 rfl ?_
      refine Y_iadd dX12_why_381 ?_
      obtain ⟨hb3, h⟩ := okE h
      refine Y_iald dX12_why_382 (lk_82 hPy1) (ln_82 hPy1) hb3 ?_
      refine Y_iconst (v := (-1 : Int32)) dX12_why_383 rfl ?_
      refine Y_icmp_ne (tgt := 399) dX12_why_384 (by decide) (fun hc3 => ?_) (fun hc3 => ?_)
      · replace h := ifF hc3 h
        refine VV.sub [1, 2, 3, 4] rfl ?_
        exact b_X12_why_399  hPy1 h
      · replace h := ifT hc3 h
        refine Y_aload_n (j := 1) dX12_why_387 rfl rfl ?_
        refine Z_geti dX12_why_388 w8_78 (lk_69 hPy1) fi_12_12 ?_
        refine Y_bipush (v := (60 : Int32)) dX12_why_391 rfl ?_
        refine Y_icmp_ne (tgt := 399) dX12_why_393 (by decide) (fun hc4 => ?_) (fun hc4 => ?_)
        · replace h := ifF hc4 h
          refine VV.sub [1, 2, 3, 4] rfl ?_
          exact b_X12_why_399  hPy1 h
        · replace h := ifT hc4 h
          refine Y_bipush (v := (102 : Int32)) dX12_why_396 rfl ?_
          cases h
          exact Y_iret rfl (nar_ch (by decide)) dX12_why_398 hPy1 ⟨rfl, rfl⟩
noncomputable def d_X12_why_307 (x3 : Int32) (x4 : Int32) (x5 : Int32) (M : Mem) : Option (Int32 × Mem) :=
  if x3 = (103 : Int32) then (
    okk (vp_in x5 168) <|
    okk (vp_in (mI M 106 x5.toNatClampNeg) 60) <|
    (d_X12_hasField (mI M 112 (mI M 106 x5.toNatClampNeg).toNatClampNeg) x4 M).bind fun y1 =>
    if y1.1 = 0 then (
      some ((102 : Int32), y1.2))
    else (
      d_X12_why_337 x3 x4 x5 y1.2))
  else (
    d_X12_why_337 x3 x4 x5 M)
theorem b_X12_why_307 {x3 : Int32} {x4 : Int32} {x5 : Int32} {M z} (hP : Lay M) (h : d_X12_why_307 x3 x4 x5 M = some z) : VV Lay k_X12_why 307 [(0, .ref 69), (3, .int x3), (4, .int x4), (5, .int x5)] [] M z.2 (Qv (some (.int z.1)) z.2) xF := by
  unfold d_X12_why_307 at h
  refine Y_iload_n (j := 1) dX12_why_307 rfl rfl ?_
  refine Y_bipush (v := (103 : Int32)) dX12_why_308 rfl ?_
  refine Y_icmp_ne (tgt := 337) dX12_why_310 (by decide) (fun hc1 => ?_) (fun hc1 => ?_)
  · replace h := ifF hc1 h
    refine VV.sub [0, 1, 2, 3] rfl ?_
    exact b_X12_why_337  hP h
  · replace h := ifT hc1 h
    refine Y_aload_n (j := 0) dX12_why_313 rfl rfl ?_
    refine Y_aload_n (j := 0) dX12_why_314 rfl rfl ?_
    refine Z_getr dX12_why_315 w8_119 (lk_69 hP) fr_12_53 (lr_69_53 hP) ?_
    refine Y_aload_n (j := 0) dX12_why_318 rfl rfl ?_
    refine Z_getr dX12_why_319 w8_111 (lk_69 hP) fr_12_45 (lr_69_45 hP) ?_
    refine Y_iload (j := 3) dX12_why_322 rfl ?_
    obtain ⟨hb1, h⟩ := okE h
    refine Y_iald dX12_why_324 (lk_106 hP) (ln_106 hP) hb1 ?_
    obtain ⟨hb2, h⟩ := okE h
    refine Y_iald dX12_why_325 (lk_112 hP) (ln_112 hP) hb2 ?_
    refine Y_iload (j := 2) dX12_why_326 rfl ?_
    obtain ⟨y1, qy1, h⟩ := bindE h
    have cy1 := v_X12_hasField hP qy1
    refine C_V2r dX12_why_328 w9_233 i_X12_hasField (lk_69 hP) ⟨Nat.le_of_ble_eq_true rfl, Nat.le_of_ble_eq_true rfl⟩ rfl (Nat.le_of_ble_eq_true rfl) (Nat.le_of_ble_eq_true rfl) (Nat.le_of_ble_eq_true rfl) (cy1) ?_
    have hPy1 := cy1.1.1
    refine Y_if_ne (tgt := 337) dX12_why_331 (by decide) (fun hc2 => ?_) (fun hc2 => ?_)
    · replace h := ifF hc2 h
      refine VV.sub [0, 1, 2, 3] rfl ?_
      exact b_X12_why_337  hPy1 h
    · replace h := ifT hc2 h
      refine Y_bipush (v := (102 : Int32)) dX12_why_334 rfl ?_
      cases h
      exact Y_iret rfl (nar_ch (by decide)) dX12_why_336 hPy1 ⟨rfl, rfl⟩
noncomputable def d_X12_why_256 (x3 : Int32) (x4 : Int32) (x5 : Int32) (M : Mem) : Option (Int32 × Mem) :=
  if x3 = (119 : Int32) then (
    okk (vp_in x5 168) <|
    if (mI M 105 x5.toNatClampNeg) = (102 : Int32) then (
      okk (vp_in x5 168) <|
      (d_X12_rounded (mD M 107 x5.toNatClampNeg) M).bind fun y1 =>
      if (Op.cmpValue (FP.dcmp y1.1 (13970166044103278592 : UInt64)) .l) < 0 then (
        some ((119 : Int32), y1.2))
      else (
        if (Op.cmpValue (FP.dcmp y1.1 (4746794007244308480 : UInt64)) .g) ≤ 0 then (
          d_X12_why_307 x3 x4 x5 y1.2)
        else (
          some ((119 : Int32), y1.2))))
    else (
      d_X12_why_307 x3 x4 x5 M))
  else (
    d_X12_why_307 x3 x4 x5 M)
theorem b_X12_why_256 {x3 : Int32} {x4 : Int32} {x5 : Int32} {M z} (hP : Lay M) (h : d_X12_why_256 x3 x4 x5 M = some z) : VV Lay k_X12_why 256 [(0, .ref 69), (3, .int x3), (4, .int x4), (5, .int x5)] [] M z.2 (Qv (some (.int z.1)) z.2) xF := by
  unfold d_X12_why_256 at h
  refine Y_iload_n (j := 1) dX12_why_256 rfl rfl ?_
  refine Y_bipush (v := (119 : Int32)) dX12_why_257 rfl ?_
  refine Y_icmp_ne (tgt := 307) dX12_why_259 (by decide) (fun hc1 => ?_) (fun hc1 => ?_)
  · replace h := ifF hc1 h
    refine VV.sub [0, 1, 2, 3] rfl ?_
    exact b_X12_why_307  hP h
  · replace h := ifT hc1 h
    refine Y_aload_n (j := 0) dX12_why_262 rfl rfl ?_
    refine Z_getr dX12_why_263 w8_110 (lk_69 hP) fr_12_44 (lr_69_44 hP) ?_
    refine Y_iload (j := 3) dX12_why_266 rfl ?_
    obtain ⟨hb1, h⟩ := okE h
    refine Y_cald dX12_why_268 (lk_105 hP) (ln_105 hP) hb1 ?_
    refine Y_bipush (v := (102 : Int32)) dX12_why_269 rfl ?_
    refine Y_icmp_ne (tgt := 307) dX12_why_271 (by decide) (fun hc2 => ?_) (fun hc2 => ?_)
    · replace h := ifF hc2 h
      refine VV.sub [0, 1, 2, 3] rfl ?_
      exact b_X12_why_307  hP h
    · replace h := ifT hc2 h
      refine Y_aload_n (j := 0) dX12_why_274 rfl rfl ?_
      refine Z_getr dX12_why_275 w8_112 (lk_69 hP) fr_12_46 (lr_69_46 hP) ?_
      refine Y_iload (j := 3) dX12_why_278 rfl ?_
      obtain ⟨hb2, h⟩ := okE h
      refine Y_dald dX12_why_280 (lk_107 hP) (ln_107 hP) hb2 ?_
      obtain ⟨y1, qy1, h⟩ := bindE h
      have cy1 := v_X12_rounded hP qy1
      refine C_S1r dX12_why_281 w9_207 i_X12_rounded (Nat.le_of_ble_eq_true rfl) (Nat.le_of_ble_eq_true rfl) (Nat.le_of_ble_eq_true rfl) (cy1) ?_
      have hPy1 := cy1.1.1
      refine Y_dstore (lv1 := [(6, .double y1.1), (0, .ref 69), (3, .int x3), (4, .int x4), (5, .int x5)]) dX12_why_284 (by decide) rfl ?_
      refine Y_dload (j := 0) dX12_why_286 rfl ?_
      refine Y_ldc2d (by decide) dX12_why_288 w9_231 ?_
      refine Y_dcmp dX12_why_291 ?_
      refine Y_if_lt (tgt := 304) dX12_why_292 (by decide) (fun hc3 => ?_) (fun hc3 => ?_)
      · replace h := ifT hc3 h
        refine Y_bipush (v := (119 : Int32)) dX12_why_304 rfl ?_
        cases h
        exact Y_iret rfl (nar_ch (by decide)) dX12_why_306 hPy1 ⟨rfl, rfl⟩
      · replace h := ifF hc3 h
        refine Y_dload (j := 0) dX12_why_295 rfl ?_
        refine Y_ldc2d (by decide) dX12_why_297 w9_232 ?_
        refine Y_dcmp dX12_why_300 ?_
        refine Y_if_le (tgt := 307) dX12_why_301 (by decide) (fun hc4 => ?_) (fun hc4 => ?_)
        · replace h := ifT hc4 h
          refine VV.sub [1, 2, 3, 4] rfl ?_
          exact b_X12_why_307  hPy1 h
        · replace h := ifF hc4 h
          refine Y_bipush (v := (119 : Int32)) dX12_why_304 rfl ?_
          cases h
          exact Y_iret rfl (nar_ch (by decide)) dX12_why_306 hPy1 ⟨rfl, rfl⟩
noncomputable def d_X12_why_217 (x3 : Int32) (x4 : Int32) (x5 : Int32) (M : Mem) : Option (Int32 × Mem) :=
  okk (vp_in x5 168) <|
  if (mI M 105 x5.toNatClampNeg) = (105 : Int32) then (
    okk (vp_in (x5 - (1 : Int32)) 168) <|
    if (mI M 105 (x5 - (1 : Int32)).toNatClampNeg) = (105 : Int32) then (
      okk (vp_in x5 168) <|
      if (mI M 106 x5.toNatClampNeg) = 0 then (
        some ((48 : Int32), M))
      else (
        d_X12_why_256 x3 x4 x5 M))
    else (
      d_X12_why_256 x3 x4 x5 M))
  else (
    d_X12_why_256 x3 x4 x5 M)
theorem b_X12_why_217 {x3 : Int32} {x4 : Int32} {x5 : Int32} {M z} (hP : Lay M) (h : d_X12_why_217 x3 x4 x5 M = some z) : VV Lay k_X12_why 217 [(0, .ref 69), (3, .int x3), (4, .int x4), (5, .int x5)] [] M z.2 (Qv (some (.int z.1)) z.2) xF := by
  unfold d_X12_why_217 at h
  refine Y_aload_n (j := 0) dX12_why_217 rfl rfl ?_
  refine Z_getr dX12_why_218 w8_110 (lk_69 hP) fr_12_44 (lr_69_44 hP) ?_
  refine Y_iload (j := 3) dX12_why_221 rfl ?_
  obtain ⟨hb1, h⟩ := okE h
  refine Y_cald dX12_why_223 (lk_105 hP) (ln_105 hP) hb1 ?_
  refine Y_bipush (v := (105 : Int32)) dX12_why_224 rfl ?_
  refine Y_icmp_ne (tgt := 256) dX12_why_226 (by decide) (fun hc1 => ?_) (fun hc1 => ?_)
  · replace h := ifF hc1 h
    refine VV.sub [0, 1, 2, 3] rfl ?_
    exact b_X12_why_256  hP h
  · replace h := ifT hc1 h
    refine Y_aload_n (j := 0) dX12_why_229 rfl rfl ?_
    refine Z_getr dX12_why_230 w8_110 (lk_69 hP) fr_12_44 (lr_69_44 hP) ?_
    refine Y_iload (j := 3) dX12_why_233 rfl ?_
    refine Y_iconst (v := (1 : Int32)) dX12_why_235 rfl ?_
    refine Y_isub dX12_why_236 ?_
    obtain ⟨hb2, h⟩ := okE h
    refine Y_cald dX12_why_237 (lk_105 hP) (ln_105 hP) hb2 ?_
    refine Y_bipush (v := (105 : Int32)) dX12_why_238 rfl ?_
    refine Y_icmp_ne (tgt := 256) dX12_why_240 (by decide) (fun hc2 => ?_) (fun hc2 => ?_)
    · replace h := ifF hc2 h
      refine VV.sub [0, 1, 2, 3] rfl ?_
      exact b_X12_why_256  hP h
    · replace h := ifT hc2 h
      refine Y_aload_n (j := 0) dX12_why_243 rfl rfl ?_
      refine Z_getr dX12_why_244 w8_111 (lk_69 hP) fr_12_45 (lr_69_45 hP) ?_
      refine Y_iload (j := 3) dX12_why_247 rfl ?_
      obtain ⟨hb3, h⟩ := okE h
      refine Y_iald dX12_why_249 (lk_106 hP) (ln_106 hP) hb3 ?_
      refine Y_if_ne (tgt := 256) dX12_why_250 (by decide) (fun hc3 => ?_) (fun hc3 => ?_)
      · replace h := ifF hc3 h
        refine VV.sub [0, 1, 2, 3] rfl ?_
        exact b_X12_why_256  hP h
      · replace h := ifT hc3 h
        refine Y_bipush (v := (48 : Int32)) dX12_why_253 rfl ?_
        cases h
        exact Y_iret rfl (nar_ch (by decide)) dX12_why_255 hP ⟨rfl, rfl⟩
noncomputable def d_X12_why_205 (x3 : Int32) (x4 : Int32) (x5 : Int32) (M : Mem) : Option (Int32 × Mem) :=
  if x3 = (47 : Int32) then (
    d_X12_why_217 x3 x4 x5 M)
  else (
    if x3 = (37 : Int32) then (
      d_X12_why_217 x3 x4 x5 M)
    else (
      d_X12_why_256 x3 x4 x5 M))
theorem b_X12_why_205 {x3 : Int32} {x4 : Int32} {x5 : Int32} {M z} (hP : Lay M) (h : d_X12_why_205 x3 x4 x5 M = some z) : VV Lay k_X12_why 205 [(0, .ref 69), (3, .int x3), (4, .int x4), (5, .int x5)] [] M z.2 (Qv (some (.int z.1)) z.2) xF := by
  unfold d_X12_why_205 at h
  refine Y_iload_n (j := 1) dX12_why_205 rfl rfl ?_
  refine Y_bipush (v := (47 : Int32)) dX12_why_206 rfl ?_
  refine Y_icmp_eq (tgt := 217) dX12_why_208 (by decide) (fun hc1 => ?_) (fun hc1 => ?_)
  · replace h := ifT hc1 h
    refine VV.sub [0, 1, 2, 3] rfl ?_
    exact b_X12_why_217  hP h
  · replace h := ifF hc1 h
    refine Y_iload_n (j := 1) dX12_why_211 rfl rfl ?_
    refine Y_bipush (v := (37 : Int32)) dX12_why_212 rfl ?_
    refine Y_icmp_ne (tgt := 256) dX12_why_214 (by decide) (fun hc2 => ?_) (fun hc2 => ?_)
    · replace h := ifF hc2 h
      refine VV.sub [0, 1, 2, 3] rfl ?_
      exact b_X12_why_256  hP h
    · replace h := ifT hc2 h
      refine VV.sub [0, 1, 2, 3] rfl ?_
      exact b_X12_why_217  hP h
noncomputable def d_X12_why_182 (x3 : Int32) (x4 : Int32) (x5 : Int32) (M : Mem) : Option (Int32 × Mem) :=
  if x3 = (112 : Int32) then (
    okk (vp_in (x5 - (1 : Int32)) 168) <|
    if (mI M 105 (x5 - (1 : Int32)).toNatClampNeg) = (111 : Int32) then (
      d_X12_why_205 x3 x4 x5 M)
    else (
      some ((107 : Int32), M)))
  else (
    d_X12_why_205 x3 x4 x5 M)
theorem b_X12_why_182 {x3 : Int32} {x4 : Int32} {x5 : Int32} {M z} (hP : Lay M) (h : d_X12_why_182 x3 x4 x5 M = some z) : VV Lay k_X12_why 182 [(0, .ref 69), (3, .int x3), (4, .int x4), (5, .int x5)] [] M z.2 (Qv (some (.int z.1)) z.2) xF := by
  unfold d_X12_why_182 at h
  refine Y_iload_n (j := 1) dX12_why_182 rfl rfl ?_
  refine Y_bipush (v := (112 : Int32)) dX12_why_183 rfl ?_
  refine Y_icmp_ne (tgt := 205) dX12_why_185 (by decide) (fun hc1 => ?_) (fun hc1 => ?_)
  · replace h := ifF hc1 h
    refine VV.sub [0, 1, 2, 3] rfl ?_
    exact b_X12_why_205  hP h
  · replace h := ifT hc1 h
    refine Y_aload_n (j := 0) dX12_why_188 rfl rfl ?_
    refine Z_getr dX12_why_189 w8_110 (lk_69 hP) fr_12_44 (lr_69_44 hP) ?_
    refine Y_iload (j := 3) dX12_why_192 rfl ?_
    refine Y_iconst (v := (1 : Int32)) dX12_why_194 rfl ?_
    refine Y_isub dX12_why_195 ?_
    obtain ⟨hb1, h⟩ := okE h
    refine Y_cald dX12_why_196 (lk_105 hP) (ln_105 hP) hb1 ?_
    refine Y_bipush (v := (111 : Int32)) dX12_why_197 rfl ?_
    refine Y_icmp_eq (tgt := 205) dX12_why_199 (by decide) (fun hc2 => ?_) (fun hc2 => ?_)
    · replace h := ifT hc2 h
      refine VV.sub [0, 1, 2, 3] rfl ?_
      exact b_X12_why_205  hP h
    · replace h := ifF hc2 h
      refine Y_bipush (v := (107 : Int32)) dX12_why_202 rfl ?_
      cases h
      exact Y_iret rfl (nar_ch (by decide)) dX12_why_204 hP ⟨rfl, rfl⟩
noncomputable def d_X12_why_170 (x3 : Int32) (x4 : Int32) (x5 : Int32) (M : Mem) : Option (Int32 × Mem) :=
  okk (vp_in x5 168) <|
  if (mI M 105 x5.toNatClampNeg) = (111 : Int32) then (
    d_X12_why_182 x3 x4 x5 M)
  else (
    some ((107 : Int32), M))
theorem b_X12_why_170 {x3 : Int32} {x4 : Int32} {x5 : Int32} {M z} (hP : Lay M) (h : d_X12_why_170 x3 x4 x5 M = some z) : VV Lay k_X12_why 170 [(0, .ref 69), (3, .int x3), (4, .int x4), (5, .int x5)] [] M z.2 (Qv (some (.int z.1)) z.2) xF := by
  unfold d_X12_why_170 at h
  refine Y_aload_n (j := 0) dX12_why_170 rfl rfl ?_
  refine Z_getr dX12_why_171 w8_110 (lk_69 hP) fr_12_44 (lr_69_44 hP) ?_
  refine Y_iload (j := 3) dX12_why_174 rfl ?_
  obtain ⟨hb1, h⟩ := okE h
  refine Y_cald dX12_why_176 (lk_105 hP) (ln_105 hP) hb1 ?_
  refine Y_bipush (v := (111 : Int32)) dX12_why_177 rfl ?_
  refine Y_icmp_ne (tgt := 202) dX12_why_179 (by decide) (fun hc1 => ?_) (fun hc1 => ?_)
  · replace h := ifF hc1 h
    refine Y_bipush (v := (107 : Int32)) dX12_why_202 rfl ?_
    cases h
    exact Y_iret rfl (nar_ch (by decide)) dX12_why_204 hP ⟨rfl, rfl⟩
  · replace h := ifT hc1 h
    refine VV.sub [0, 1, 2, 3] rfl ?_
    exact b_X12_why_182  hP h
noncomputable def d_X12_why_158 (x3 : Int32) (x4 : Int32) (x5 : Int32) (M : Mem) : Option (Int32 × Mem) :=
  if x3 = (103 : Int32) then (
    d_X12_why_170 x3 x4 x5 M)
  else (
    if x3 = (109 : Int32) then (
      d_X12_why_170 x3 x4 x5 M)
    else (
      d_X12_why_182 x3 x4 x5 M))
theorem b_X12_why_158 {x3 : Int32} {x4 : Int32} {x5 : Int32} {M z} (hP : Lay M) (h : d_X12_why_158 x3 x4 x5 M = some z) : VV Lay k_X12_why 158 [(0, .ref 69), (3, .int x3), (4, .int x4), (5, .int x5)] [] M z.2 (Qv (some (.int z.1)) z.2) xF := by
  unfold d_X12_why_158 at h
  refine Y_iload_n (j := 1) dX12_why_158 rfl rfl ?_
  refine Y_bipush (v := (103 : Int32)) dX12_why_159 rfl ?_
  refine Y_icmp_eq (tgt := 170) dX12_why_161 (by decide) (fun hc1 => ?_) (fun hc1 => ?_)
  · replace h := ifT hc1 h
    refine VV.sub [0, 1, 2, 3] rfl ?_
    exact b_X12_why_170  hP h
  · replace h := ifF hc1 h
    refine Y_iload_n (j := 1) dX12_why_164 rfl rfl ?_
    refine Y_bipush (v := (109 : Int32)) dX12_why_165 rfl ?_
    refine Y_icmp_ne (tgt := 182) dX12_why_167 (by decide) (fun hc2 => ?_) (fun hc2 => ?_)
    · replace h := ifF hc2 h
      refine VV.sub [0, 1, 2, 3] rfl ?_
      exact b_X12_why_182  hP h
    · replace h := ifT hc2 h
      refine VV.sub [0, 1, 2, 3] rfl ?_
      exact b_X12_why_170  hP h
noncomputable def d_X12_why_139 (x3 : Int32) (x4 : Int32) (x5 : Int32) (M : Mem) : Option (Int32 × Mem) :=
  if x3 = (119 : Int32) then (
    okk (vp_in x5 168) <|
    (d_X12_isNumber (mI M 105 x5.toNatClampNeg) M).bind fun y1 =>
    if y1.1 = 0 then (
      some ((107 : Int32), y1.2))
    else (
      d_X12_why_158 x3 x4 x5 y1.2))
  else (
    d_X12_why_158 x3 x4 x5 M)
theorem b_X12_why_139 {x3 : Int32} {x4 : Int32} {x5 : Int32} {M z} (hP : Lay M) (h : d_X12_why_139 x3 x4 x5 M = some z) : VV Lay k_X12_why 139 [(0, .ref 69), (3, .int x3), (4, .int x4), (5, .int x5)] [] M z.2 (Qv (some (.int z.1)) z.2) xF := by
  unfold d_X12_why_139 at h
  refine Y_iload_n (j := 1) dX12_why_139 rfl rfl ?_
  refine Y_bipush (v := (119 : Int32)) dX12_why_140 rfl ?_
  refine Y_icmp_ne (tgt := 158) dX12_why_142 (by decide) (fun hc1 => ?_) (fun hc1 => ?_)
  · replace h := ifF hc1 h
    refine VV.sub [0, 1, 2, 3] rfl ?_
    exact b_X12_why_158  hP h
  · replace h := ifT hc1 h
    refine Y_aload_n (j := 0) dX12_why_145 rfl rfl ?_
    refine Z_getr dX12_why_146 w8_110 (lk_69 hP) fr_12_44 (lr_69_44 hP) ?_
    refine Y_iload (j := 3) dX12_why_149 rfl ?_
    obtain ⟨hb1, h⟩ := okE h
    refine Y_cald dX12_why_151 (lk_105 hP) (ln_105 hP) hb1 ?_
    obtain ⟨y1, qy1, h⟩ := bindE h
    have cy1 := v_X12_isNumber hP qy1
    refine C_S1r dX12_why_152 w9_204 i_X12_isNumber (Nat.le_of_ble_eq_true rfl) (Nat.le_of_ble_eq_true rfl) (Nat.le_of_ble_eq_true rfl) (cy1) ?_
    have hPy1 := cy1.1.1
    refine Y_if_eq (tgt := 202) dX12_why_155 (by decide) (fun hc2 => ?_) (fun hc2 => ?_)
    · replace h := ifT hc2 h
      refine Y_bipush (v := (107 : Int32)) dX12_why_202 rfl ?_
      cases h
      exact Y_iret rfl (nar_ch (by decide)) dX12_why_204 hPy1 ⟨rfl, rfl⟩
    · replace h := ifF hc2 h
      refine VV.sub [0, 1, 2, 3] rfl ?_
      exact b_X12_why_158  hPy1 h
noncomputable def d_X12_why (M : Mem) : Option (Int32 × Mem) :=
  okk (vp_in (mI M 69 48) 12) <|
  bnd ((mI M 109 (mI M 69 48).toNatClampNeg)) fun b1 =>
  okk (vp_in (mI M 69 48) 12) <|
  bnd ((mI M 110 (mI M 69 48).toNatClampNeg)) fun b2 =>
  okk (vp_in b1 8) <|
  if b2 < (mI M 71 b1.toNatClampNeg) then (
    okk (vp_in (((40 : Int32) * b1) + b2) 320) <|
    bnd ((mI M 72 (((40 : Int32) * b1) + b2).toNatClampNeg)) fun b3 =>
    okk (vp_in (((40 : Int32) * b1) + b2) 320) <|
    bnd ((mI M 73 (((40 : Int32) * b1) + b2).toNatClampNeg)) fun b4 =>
    okk (vp_in (mI M 69 48) 12) <|
    (d_X12_takes b3 b4 M).bind fun y1 =>
    if (mI M 111 (mI M 69 48).toNatClampNeg) < y1.1 then (
      some ((115 : Int32), y1.2))
    else (
      (d_X12_hasNoRoom b3 y1.2).bind fun y2 =>
      if y2.1 = 0 then (
        (d_X12_top (0 : Int32) y2.2).bind fun y3 =>
        (d_X12_isPair b3 y3.2).bind fun y4 =>
        if y4.1 = 0 then (
          d_X12_why_139 b3 b4 y3.1 y4.2)
        else (
          if b3 = (61 : Int32) then (
            d_X12_why_139 b3 b4 y3.1 y4.2)
          else (
            okk (vp_in y3.1 168) <|
            (d_X12_isNumber (mI y4.2 105 y3.1.toNatClampNeg) y4.2).bind fun y5 =>
            if y5.1 = 0 then (
              some ((107 : Int32), y5.2))
            else (
              okk (vp_in (y3.1 - (1 : Int32)) 168) <|
              (d_X12_isNumber (mI y5.2 105 (y3.1 - (1 : Int32)).toNatClampNeg) y5.2).bind fun y6 =>
              if y6.1 = 0 then (
                some ((107 : Int32), y6.2))
              else (
                d_X12_why_139 b3 b4 y3.1 y6.2)))))
      else (
        some ((115 : Int32), y2.2))))
  else (
    some ((101 : Int32), M))
theorem b_X12_why {M z} (hP : Lay M) (h : d_X12_why M = some z) : VV Lay k_X12_why 0 [(0, .ref 69)] [] M z.2 (Qv (some (.int z.1)) z.2) xF := by
  unfold d_X12_why at h
  refine Y_aload_n (j := 0) dX12_why_0 rfl rfl ?_
  refine Z_getr dX12_why_1 w8_115 (lk_69 hP) fr_12_49 (lr_69_49 hP) ?_
  refine Y_aload_n (j := 0) dX12_why_4 rfl rfl ?_
  refine Z_geti dX12_why_5 w8_114 (lk_69 hP) fi_12_48 ?_
  obtain ⟨hb1, h⟩ := okE h
  refine Y_iald dX12_why_8 (lk_109 hP) (ln_109 hP) hb1 ?_
  obtain ⟨b1, eb1, h⟩ := bndE h
  refine VV.topI eb1 ?_
  refine Y_istore_n (lv1 := [(1, .int b1), (0, .ref 69)]) dX12_why_9 rfl (by decide) rfl ?_
  refine Y_aload_n (j := 1) dX12_why_10 rfl rfl ?_
  refine Z_getr dX12_why_11 w8_116 (lk_69 hP) fr_12_50 (lr_69_50 hP) ?_
  refine Y_aload_n (j := 1) dX12_why_14 rfl rfl ?_
  refine Z_geti dX12_why_15 w8_114 (lk_69 hP) fi_12_48 ?_
  obtain ⟨hb2, h⟩ := okE h
  refine Y_iald dX12_why_18 (lk_110 hP) (ln_110 hP) hb2 ?_
  obtain ⟨b2, eb2, h⟩ := bndE h
  refine VV.topI eb2 ?_
  refine Y_istore_n (lv1 := [(2, .int b2), (1, .int b1), (0, .ref 69)]) dX12_why_19 rfl (by decide) rfl ?_
  refine Y_iload_n (j := 0) dX12_why_20 rfl rfl ?_
  refine Y_aload_n (j := 2) dX12_why_21 rfl rfl ?_
  refine Z_getr dX12_why_22 w8_69 (lk_69 hP) fr_12_3 (lr_69_3 hP) ?_
  refine Y_iload_n (j := 1) dX12_why_25 rfl rfl ?_
  obtain ⟨hb3, h⟩ := okE h
  refine Y_iald dX12_why_26 (lk_71 hP) (ln_71 hP) hb3 ?_
  refine Y_icmp_lt (tgt := 33) dX12_why_27 (by decide) (fun hc1 => ?_) (fun hc1 => ?_)
  · replace h := ifT hc1 h
    refine Y_aload_n (j := 2) dX12_why_33 rfl rfl ?_
    refine Z_getr dX12_why_34 w8_70 (lk_69 hP) fr_12_4 (lr_69_4 hP) ?_
    refine Y_bipush (v := (40 : Int32)) dX12_why_37 rfl ?_
    refine Y_iload_n (j := 1) dX12_why_39 rfl rfl ?_
    refine Y_imul dX12_why_40 ?_
    refine Y_iload_n (j := 0) dX12_why_41 rfl rfl ?_
    refine Y_iadd dX12_why_42 ?_
    obtain ⟨hb4, h⟩ := okE h
    refine Y_cald dX12_why_43 (lk_72 hP) (ln_72 hP) hb4 ?_
    obtain ⟨b3, eb3, h⟩ := bndE h
    refine VV.topI eb3 ?_
    refine Y_istore_n (lv1 := [(3, .int b3), (2, .int b2), (1, .int b1), (0, .ref 69)]) dX12_why_44 rfl (by decide) rfl ?_
    refine Y_aload_n (j := 3) dX12_why_45 rfl rfl ?_
    refine Z_getr dX12_why_46 w8_71 (lk_69 hP) fr_12_5 (lr_69_5 hP) ?_
    refine Y_bipush (v := (40 : Int32)) dX12_why_49 rfl ?_
    refine Y_iload_n (j := 2) dX12_why_51 rfl rfl ?_
    refine Y_imul dX12_why_52 ?_
    refine Y_iload_n (j := 1) dX12_why_53 rfl rfl ?_
    refine Y_iadd dX12_why_54 ?_
    obtain ⟨hb5, h⟩ := okE h
    refine Y_iald dX12_why_55 (lk_73 hP) (ln_73 hP) hb5 ?_
    obtain ⟨b4, eb4, h⟩ := bndE h
    refine VV.topI eb4 ?_
    refine Y_istore (lv1 := [(4, .int b4), (3, .int b3), (2, .int b2), (1, .int b1), (0, .ref 69)]) dX12_why_56 (by decide) rfl ?_
    refine Y_aload_n (j := 4) dX12_why_58 rfl rfl ?_
    refine Z_getr dX12_why_59 w8_117 (lk_69 hP) fr_12_51 (lr_69_51 hP) ?_
    refine Y_aload_n (j := 4) dX12_why_62 rfl rfl ?_
    refine Z_geti dX12_why_63 w8_114 (lk_69 hP) fi_12_48 ?_
    obtain ⟨hb6, h⟩ := okE h
    refine Y_iald dX12_why_66 (lk_111 hP) (ln_111 hP) hb6 ?_
    refine Y_aload_n (j := 4) dX12_why_67 rfl rfl ?_
    refine Y_iload_n (j := 1) dX12_why_68 rfl rfl ?_
    refine Y_iload (j := 0) dX12_why_69 rfl ?_
    obtain ⟨y1, qy1, h⟩ := bindE h
    have cy1 := v_X12_takes hP qy1
    refine C_V2r dX12_why_71 w9_192 i_X12_takes (lk_69 hP) ⟨Nat.le_of_ble_eq_true rfl, Nat.le_of_ble_eq_true rfl⟩ rfl (Nat.le_of_ble_eq_true rfl) (Nat.le_of_ble_eq_true rfl) (Nat.le_of_ble_eq_true rfl) (cy1) ?_
    have hPy1 := cy1.1.1
    refine Y_icmp_lt (tgt := 85) dX12_why_74 (by decide) (fun hc2 => ?_) (fun hc2 => ?_)
    · replace h := ifT hc2 h
      refine Y_bipush (v := (115 : Int32)) dX12_why_85 rfl ?_
      cases h
      exact Y_iret rfl (nar_ch (by decide)) dX12_why_87 hPy1 ⟨rfl, rfl⟩
    · replace h := ifF hc2 h
      refine Y_aload_n (j := 4) dX12_why_77 rfl rfl ?_
      refine Y_iload_n (j := 1) dX12_why_78 rfl rfl ?_
      obtain ⟨y2, qy2, h⟩ := bindE h
      have cy2 := v_X12_hasNoRoom hPy1 qy2
      refine C_V1r dX12_why_79 w9_196 i_X12_hasNoRoom (lk_69 hPy1) ⟨Nat.le_of_ble_eq_true rfl, Nat.le_of_ble_eq_true rfl⟩ rfl (Nat.le_of_ble_eq_true rfl) (Nat.le_of_ble_eq_true rfl) (Nat.le_of_ble_eq_true rfl) (cy2) ?_
      have hPy2 := cy2.1.1
      refine Y_if_eq (tgt := 88) dX12_why_82 (by decide) (fun hc3 => ?_) (fun hc3 => ?_)
      · replace h := ifT hc3 h
        refine Y_aload_n (j := 4) dX12_why_88 rfl rfl ?_
        refine Y_iconst (v := (0 : Int32)) dX12_why_89 rfl ?_
        obtain ⟨y3, qy3, h⟩ := bindE h
        have cy3 := v_X12_top hPy2 qy3
        refine C_V1r dX12_why_90 w9_200 i_X12_top (lk_69 hPy2) ⟨Nat.le_of_ble_eq_true rfl, Nat.le_of_ble_eq_true rfl⟩ rfl (Nat.le_of_ble_eq_true rfl) (Nat.le_of_ble_eq_true rfl) (Nat.le_of_ble_eq_true rfl) (cy3) ?_
        have hPy3 := cy3.1.1
        refine Y_istore (lv1 := [(5, .int y3.1), (4, .int b4), (3, .int b3), (2, .int b2), (1, .int b1), (0, .ref 69)]) dX12_why_93 (by decide) rfl ?_
        refine Y_iload_n (j := 2) dX12_why_95 rfl rfl ?_
        obtain ⟨y4, qy4, h⟩ := bindE h
        have cy4 := v_X12_isPair hPy3 qy4
        refine C_S1r dX12_why_96 w9_129 i_X12_isPair (Nat.le_of_ble_eq_true rfl) (Nat.le_of_ble_eq_true rfl) (Nat.le_of_ble_eq_true rfl) (cy4) ?_
        have hPy4 := cy4.1.1
        refine Y_if_eq (tgt := 139) dX12_why_99 (by decide) (fun hc4 => ?_) (fun hc4 => ?_)
        · replace h := ifT hc4 h
          refine VV.sub [5, 2, 1, 0] rfl ?_
          exact b_X12_why_139  hPy4 h
        · replace h := ifF hc4 h
          refine Y_iload_n (j := 2) dX12_why_102 rfl rfl ?_
          refine Y_bipush (v := (61 : Int32)) dX12_why_103 rfl ?_
          refine Y_icmp_eq (tgt := 139) dX12_why_105 (by decide) (fun hc5 => ?_) (fun hc5 => ?_)
          · replace h := ifT hc5 h
            refine VV.sub [5, 2, 1, 0] rfl ?_
            exact b_X12_why_139  hPy4 h
          · replace h := ifF hc5 h
            refine Y_aload_n (j := 5) dX12_why_108 rfl rfl ?_
            refine Z_getr dX12_why_109 w8_110 (lk_69 hPy4) fr_12_44 (lr_69_44 hPy4) ?_
            refine Y_iload (j := 0) dX12_why_112 rfl ?_
            obtain ⟨hb7, h⟩ := okE h
            refine Y_cald dX12_why_114 (lk_105 hPy4) (ln_105 hPy4) hb7 ?_
            obtain ⟨y5, qy5, h⟩ := bindE h
            have cy5 := v_X12_isNumber hPy4 qy5
            refine C_S1r dX12_why_115 w9_204 i_X12_isNumber (Nat.le_of_ble_eq_true rfl) (Nat.le_of_ble_eq_true rfl) (Nat.le_of_ble_eq_true rfl) (cy5) ?_
            have hPy5 := cy5.1.1
            refine Y_if_eq (tgt := 136) dX12_why_118 (by decide) (fun hc6 => ?_) (fun hc6 => ?_)
            · replace h := ifT hc6 h
              refine Y_bipush (v := (107 : Int32)) dX12_why_136 rfl ?_
              cases h
              exact Y_iret rfl (nar_ch (by decide)) dX12_why_138 hPy5 ⟨rfl, rfl⟩
            · replace h := ifF hc6 h
              refine Y_aload_n (j := 5) dX12_why_121 rfl rfl ?_
              refine Z_getr dX12_why_122 w8_110 (lk_69 hPy5) fr_12_44 (lr_69_44 hPy5) ?_
              refine Y_iload (j := 0) dX12_why_125 rfl ?_
              refine Y_iconst (v := (1 : Int32)) dX12_why_127 rfl ?_
              refine Y_isub dX12_why_128 ?_
              obtain ⟨hb8, h⟩ := okE h
              refine Y_cald dX12_why_129 (lk_105 hPy5) (ln_105 hPy5) hb8 ?_
              obtain ⟨y6, qy6, h⟩ := bindE h
              have cy6 := v_X12_isNumber hPy5 qy6
              refine C_S1r dX12_why_130 w9_204 i_X12_isNumber (Nat.le_of_ble_eq_true rfl) (Nat.le_of_ble_eq_true rfl) (Nat.le_of_ble_eq_true rfl) (cy6) ?_
              have hPy6 := cy6.1.1
              refine Y_if_ne (tgt := 139) dX12_why_133 (by decide) (fun hc7 => ?_) (fun hc7 => ?_)
              · replace h := ifF hc7 h
                refine VV.sub [5, 2, 1, 0] rfl ?_
                exact b_X12_why_139  hPy6 h
              · replace h := ifT hc7 h
                refine Y_bipush (v := (107 : Int32)) dX12_why_136 rfl ?_
                cases h
                exact Y_iret rfl (nar_ch (by decide)) dX12_why_138 hPy6 ⟨rfl, rfl⟩
      · replace h := ifF hc3 h
        refine Y_bipush (v := (115 : Int32)) dX12_why_85 rfl ?_
        cases h
        exact Y_iret rfl (nar_ch (by decide)) dX12_why_87 hPy2 ⟨rfl, rfl⟩
  · replace h := ifF hc1 h
    refine Y_bipush (v := (101 : Int32)) dX12_why_30 rfl ?_
    cases h
    exact Y_iret rfl (nar_ch (by decide)) dX12_why_32 hP ⟨rfl, rfl⟩
theorem v_X12_why {M z} (hP : Lay M) (h : d_X12_why M = some z) : CC Lay k_X12_why [.ref 69] M z.2 (Qv (some (.int z.1)) z.2) xF :=
  CC.ofVV (by decide) rfl (Nat.le_of_ble_eq_true rfl) (b_X12_why hP h)
noncomputable def d_X12_calls_166 (k79 : (Int32) → Mem → Option (Unit × Mem)) (x2 : Int32) (x3 : Int32) (x4 : Int32) (M : Mem) : Option (Unit × Mem) :=
  bnd ((x4 + (1 : Int32))) fun b1 =>
  k79 (b1) M
theorem b_X12_calls_166 {k79 : (Int32) → Mem → Option (Unit × Mem)} {x2 : Int32} {x3 : Int32} {x4 : Int32} {M z} (hk79 : ∀ (a : (Int32)) (M : Mem) (z : Unit × Mem), Lay M → k79 a M = some z → VV Lay k_X12_calls 79 [(0, .ref 69), (2, .int x2), (3, .int x3), (4, .int a)] [] M z.2 (Qv (none) z.2) xF) (hP : Lay M) (h : d_X12_calls_166 k79 x2 x3 x4 M = some z) : VV Lay k_X12_calls 166 [(0, .ref 69), (2, .int x2), (3, .int x3), (4, .int x4)] [] M z.2 (Qv (none) z.2) xF := by
  unfold d_X12_calls_166 at h
  obtain ⟨b1, eb1, h⟩ := bndE h
  refine Y_iinc (j := 3) (v := b1) (lv1 := [(4, .int b1), (0, .ref 69), (2, .int x2), (3, .int x3)]) dX12_calls_166 rfl eb1.symm (by decide) rfl ?_
  refine Y_goto (tgt := 79) dX12_calls_169 (by decide) ?_
  refine VV.sub [1, 2, 3, 0] rfl ?_
  exact hk79 _ _ _ hP h
noncomputable def d_X12_calls_165 (k79 : (Int32) → Mem → Option (Unit × Mem)) (x2 : Int32) (x3 : Int32) (x4 : Int32) (s1 : Int32) (s2 : Int32) (M : Mem) : Option (Unit × Mem) :=
  okk (vp_in s1 168) <|
  bnd (sI M ? s1.toNatClampNeg s2) fun M1 =>
  d_X12_calls_166 k79 x2 x3 x4 M1
theorem b_X12_calls_165 {k79 : (Int32) → Mem → Option (Unit × Mem)} {x2 : Int32} {x3 : Int32} {x4 : Int32} {s1 : Int32} {s2 : Int32} {M z} (hk79 : ∀ (a : (Int32)) (M : Mem) (z : Unit × Mem), Lay M → k79 a M = some z → VV Lay k_X12_calls 79 [(0, .ref 69), (2, .int x2), (3, .int x3), (4, .int a)] [] M z.2 (Qv (none) z.2) xF) (hP : Lay M) (h : d_X12_calls_165 k79 x2 x3 x4 s1 s2 M = some z) : VV Lay k_X12_calls 165 [(0, .ref 69), (2, .int x2), (3, .int x3), (4, .int x4)] [.int s2, .int s1, .ref ?] M z.2 (Qv (none) z.2) xF := by
  unfold d_X12_calls_165 at h
  obtain ⟨hb1, h⟩ := okE h
  refine Y_iast dX12_calls_165 (lk_108 hP) (ln_108 hP) hb1 ?_
  obtain ⟨M1, eM1, h⟩ := bndE h
  refine VV.mem eM1 ?_
  have hP1 := hP.wI eM1
  refine VV.sub [0, 1, 2, 3] rfl ?_
  exact b_X12_calls_166 hk79 hP1 h
noncomputable def d_X12_calls_79b (k79 : (Int32) → Mem → Option (Unit × Mem)) (x2 : Int32) (x3 : Int32) (x4 : Int32) (M : Mem) : Option (Unit × Mem) :=
  if (6 : Int32) ≤ x4 then (
    some ((), M))
  else (
    bnd ((((14 : Int32) * (mI M 69 48)) + x4)) fun b1 =>
    if x2 ≤ x4 then (
      okk (vp_in b1 168) <|
      bnd (sI M 105 b1.toNatClampNeg (110 : Int32)) fun M1 =>
      okk (vp_in b1 168) <|
      bnd (sI M1 106 b1.toNatClampNeg (0 : Int32)) fun M2 =>
      okk (vp_in b1 168) <|
      bnd (sD M2 107 b1.toNatClampNeg FP.dconst0) fun M3 =>
      if (mI M3 69 71) = 0 then (
        d_X12_calls_165 k79 x2 x3 x4 b1 (0 : Int32) M3)
      else (
        (d_X12_valueOf (110 : Int32) M3).bind fun y1 =>
        d_X12_calls_165 k79 x2 x3 x4 b1 y1.1 y1.2))
    else (
      (d_X12_copies (x3 + x4) b1 M).bind fun y2 =>
      d_X12_calls_166 k79 x2 x3 x4 y2.2))
theorem b_X12_calls_79b {k79 : (Int32) → Mem → Option (Unit × Mem)} {x2 : Int32} {x3 : Int32} {x4 : Int32} {M z} (hk79 : ∀ (a : (Int32)) (M : Mem) (z : Unit × Mem), Lay M → k79 a M = some z → VV Lay k_X12_calls 79 [(0, .ref 69), (2, .int x2), (3, .int x3), (4, .int a)] [] M z.2 (Qv (none) z.2) xF) (hP : Lay M) (h : d_X12_calls_79b k79 x2 x3 x4 M = some z) : VV Lay k_X12_calls 79 [(0, .ref 69), (2, .int x2), (3, .int x3), (4, .int x4)] [] M z.2 (Qv (none) z.2) xF := by
  unfold d_X12_calls_79b at h
  refine Y_iload (j := 3) dX12_calls_79 rfl ?_
  refine Y_bipush (v := (6 : Int32)) dX12_calls_81 rfl ?_
  refine Y_icmp_ge (tgt := 172) dX12_calls_83 (by decide) (fun hc1 => ?_) (fun hc1 => ?_)
  · replace h := ifT hc1 h
    cases h
    exact Y_vret rfl dX12_calls_172 hP ⟨rfl, rfl⟩
  · replace h := ifF hc1 h
    refine Y_bipush (v := (14 : Int32)) dX12_calls_86 rfl ?_
    refine Y_aload_n (j := 0) dX12_calls_88 rfl rfl ?_
    refine Z_geti dX12_calls_89 w8_114 (lk_69 hP) fi_12_48 ?_
    refine Y_imul dX12_calls_92 ?_
    refine Y_iload (j := 3) dX12_calls_93 rfl ?_
    refine Y_iadd dX12_calls_95 ?_
    obtain ⟨b1, eb1, h⟩ := bndE h
    refine VV.topI eb1 ?_
    refine Y_istore (lv1 := [(5, .int b1), (0, .ref 69), (2, .int x2), (3, .int x3), (4, .int x4)]) dX12_calls_96 (by decide) rfl ?_
    refine Y_iload (j := 4) dX12_calls_98 rfl ?_
    refine Y_iload_n (j := 2) dX12_calls_100 rfl rfl ?_
    refine Y_icmp_ge (tgt := 117) dX12_calls_101 (by decide) (fun hc2 => ?_) (fun hc2 => ?_)
    · replace h := ifT hc2 h
      refine Y_aload_n (j := 1) dX12_calls_117 rfl rfl ?_
      refine Z_getr dX12_calls_118 w8_110 (lk_69 hP) fr_12_44 (lr_69_44 hP) ?_
      refine Y_iload (j := 0) dX12_calls_121 rfl ?_
      refine Y_bipush (v := (110 : Int32)) dX12_calls_123 rfl ?_
      obtain ⟨hb1, h⟩ := okE h
      refine Y_cast dX12_calls_125 (lk_105 hP) (ln_105 hP) hb1 (nar_ch (by decide)) ?_
      obtain ⟨M1, eM1, h⟩ := bndE h
      refine VV.mem eM1 ?_
      have hP1 := hP.wI eM1
      refine Y_aload_n (j := 1) dX12_calls_126 rfl rfl ?_
      refine Z_getr dX12_calls_127 w8_111 (lk_69 hP1) fr_12_45 (lr_69_45 hP1) ?_
      refine Y_iload (j := 0) dX12_calls_130 rfl ?_
      refine Y_iconst (v := (0 : Int32)) dX12_calls_132 rfl ?_
      obtain ⟨hb2, h⟩ := okE h
      refine Y_iast dX12_calls_133 (lk_106 hP1) (ln_106 hP1) hb2 ?_
      obtain ⟨M2, eM2, h⟩ := bndE h
      refine VV.mem eM2 ?_
      have hP2 := hP1.wI eM2
      refine Y_aload_n (j := 1) dX12_calls_134 rfl rfl ?_
      refine Z_getr dX12_calls_135 w8_112 (lk_69 hP2) fr_12_46 (lr_69_46 hP2) ?_
      refine Y_iload (j := 0) dX12_calls_138 rfl ?_
      refine Y_dconst0 dX12_calls_140 ?_
      obtain ⟨hb3, h⟩ := okE h
      refine Y_dast dX12_calls_141 (lk_107 hP2) (ln_107 hP2) hb3 ?_
      obtain ⟨M3, eM3, h⟩ := bndE h
      refine VV.mem eM3 ?_
      have hP3 := hP2.wD eM3
      refine Y_aload_n (j := 1) dX12_calls_142 rfl rfl ?_
      refine Z_getr dX12_calls_143 w8_113 (lk_69 hP3) fr_12_47 (lr_69_47 hP3) ?_
      refine Y_iload (j := 0) dX12_calls_146 rfl ?_
      refine Y_aload_n (j := 1) dX12_calls_148 rfl rfl ?_
      refine Z_geti dX12_calls_149 w8_137 (lk_69 hP3) fi_12_71 ?_
      refine Y_if_eq (tgt := 164) dX12_calls_152 (by decide) (fun hc3 => ?_) (fun hc3 => ?_)
      · replace h := ifT hc3 h
        refine Y_iconst (v := (0 : Int32)) dX12_calls_164 rfl ?_
        refine VV.sub [1, 2, 3, 4] rfl ?_
        exact b_X12_calls_165 hk79 hP3 h
      · replace h := ifF hc3 h
        refine Y_aload_n (j := 1) dX12_calls_155 rfl rfl ?_
        refine Y_bipush (v := (110 : Int32)) dX12_calls_156 rfl ?_
        obtain ⟨y1, qy1, h⟩ := bindE h
        have cy1 := v_X12_valueOf hP3 qy1
        refine C_V1r dX12_calls_158 w10_47 i_X12_valueOf (lk_69 hP3) ⟨Nat.le_of_ble_eq_true rfl, Nat.le_of_ble_eq_true rfl⟩ rfl (Nat.le_of_ble_eq_true rfl) (Nat.le_of_ble_eq_true rfl) (Nat.le_of_ble_eq_true rfl) (cy1) ?_
        have hPy1 := cy1.1.1
        refine Y_goto (tgt := 165) dX12_calls_161 (by decide) ?_
        refine VV.sub [1, 2, 3, 4] rfl ?_
        exact b_X12_calls_165 hk79 hPy1 h
    · replace h := ifF hc2 h
      refine Y_aload_n (j := 1) dX12_calls_104 rfl rfl ?_
      refine Y_iload_n (j := 3) dX12_calls_105 rfl rfl ?_
      refine Y_iload (j := 4) dX12_calls_106 rfl ?_
      refine Y_iadd dX12_calls_108 ?_
      refine Y_iload (j := 0) dX12_calls_109 rfl ?_
      obtain ⟨y2, qy2, h⟩ := bindE h
      have cy2 := v_X12_copies hP qy2
      refine C_V2o dX12_calls_111 w10_55 i_X12_copies (lk_69 hP) ⟨Nat.le_of_ble_eq_true rfl, Nat.le_of_ble_eq_true rfl⟩ rfl (Nat.le_of_ble_eq_true rfl) (Nat.le_of_ble_eq_true rfl) (Nat.le_of_ble_eq_true rfl) (cy2) ?_
      have hPy2 := cy2.1.1
      refine Y_goto (tgt := 166) dX12_calls_114 (by decide) ?_
      refine VV.sub [1, 2, 3, 4] rfl ?_
      exact b_X12_calls_166 hk79 hPy2 h
noncomputable def d_X12_calls_79 (x2 : Int32) (x3 : Int32) : Nat → (Int32) → Mem → Option (Unit × Mem) := lp fun k a M => d_X12_calls_79b k x2 x3 a M
theorem b_X12_calls_79 {x2 : Int32} {x3 : Int32} (n : Nat) : ∀ (a : (Int32)) (M : Mem) (z : Unit × Mem), d_X12_calls_79 x2 x3 n a M = some z → Lay M → VV Lay k_X12_calls 79 [(0, .ref 69), (2, .int x2), (3, .int x3), (4, .int a)] [] M z.2 (Qv (none) z.2) xF :=
  lp_ind (fun k hk a M z h hP => b_X12_calls_79b  (fun a M z hP h => hk a M z h hP) hP h) n
noncomputable def d_X12_calls (x1 : Int32) (x2 : Int32) (M : Mem) : Option (Unit × Mem) :=
  (d_X12_top (0 : Int32) M).bind fun y1 =>
  bnd (((y1.1 - x2) + (1 : Int32))) fun b1 =>
  okk (vp_in (mI y1.2 69 48) 12) <|
  okk (vp_in (mI y1.2 69 48) 12) <|
  bnd (sI y1.2 111 (mI y1.2 69 48).toNatClampNeg ((mI y1.2 111 (mI y1.2 69 48).toNatClampNeg) - x2)) fun M1 =>
  okk (vp_in (mI M1 69 48) 12) <|
  okk (vp_in (mI M1 69 48) 12) <|
  bnd (sI M1 110 (mI M1 69 48).toNatClampNeg ((mI M1 110 (mI M1 69 48).toNatClampNeg) + (1 : Int32))) fun M2 =>
  bnd (sI M2 69 48 ((mI M2 69 48) + (1 : Int32))) fun M3 =>
  okk (vp_in (mI M3 69 48) 12) <|
  bnd (sI M3 109 (mI M3 69 48).toNatClampNeg x1) fun M4 =>
  okk (vp_in (mI M4 69 48) 12) <|
  bnd (sI M4 110 (mI M4 69 48).toNatClampNeg (0 : Int32)) fun M5 =>
  okk (vp_in (mI M5 69 48) 12) <|
  bnd (sI M5 111 (mI M5 69 48).toNatClampNeg (0 : Int32)) fun M6 =>
  d_X12_calls_79 x2 b1 fuel ((0 : Int32)) M6
theorem b_X12_calls {x1 : Int32} {x2 : Int32} {M z} (hP : Lay M) (h : d_X12_calls x1 x2 M = some z) : VV Lay k_X12_calls 0 [(0, .ref 69), (1, .int x1), (2, .int x2)] [] M z.2 (Qv (none) z.2) xF := by
  unfold d_X12_calls at h
  refine Y_aload_n (j := 0) dX12_calls_0 rfl rfl ?_
  refine Y_iconst (v := (0 : Int32)) dX12_calls_1 rfl ?_
  obtain ⟨y1, qy1, h⟩ := bindE h
  have cy1 := v_X12_top hP qy1
  refine C_V1r dX12_calls_2 w9_200 i_X12_top (lk_69 hP) ⟨Nat.le_of_ble_eq_true rfl, Nat.le_of_ble_eq_true rfl⟩ rfl (Nat.le_of_ble_eq_true rfl) (Nat.le_of_ble_eq_true rfl) (Nat.le_of_ble_eq_true rfl) (cy1) ?_
  have hPy1 := cy1.1.1
  refine Y_iload_n (j := 2) dX12_calls_5 rfl rfl ?_
  refine Y_isub dX12_calls_6 ?_
  refine Y_iconst (v := (1 : Int32)) dX12_calls_7 rfl ?_
  refine Y_iadd dX12_calls_8 ?_
  obtain ⟨b1, eb1, h⟩ := bndE h
  refine VV.topI eb1 ?_
  refine Y_istore_n (lv1 := [(3, .int b1), (0, .ref 69), (1, .int x1), (2, .int x2)]) dX12_calls_9 rfl (by decide) rfl ?_
  refine Y_aload_n (j := 1) dX12_calls_10 rfl rfl ?_
  refine Z_getr dX12_calls_11 w8_117 (lk_69 hPy1) fr_12_51 (lr_69_51 hPy1) ?_
  refine Y_aload_n (j := 1) dX12_calls_14 rfl rfl ?_
  refine Z_geti dX12_calls_15 w8_114 (lk_69 hPy1) fi_12_48 ?_
  refine Y_dup2 dX12_calls_18 rfl rfl ?_
  obtain ⟨hb1, h⟩ := okE h
  refine Y_iald dX12_calls_19 (lk_111 hPy1) (ln_111 hPy1) hb1 ?_
  refine Y_iload_n (j := 3) dX12_calls_20 rfl rfl ?_
  refine Y_isub dX12_calls_21 ?_
  obtain ⟨hb2, h⟩ := okE h
  refine Y_iast dX12_calls_22 (lk_111 hPy1) (ln_111 hPy1) hb2 ?_
  obtain ⟨M1, eM1, h⟩ := bndE h
  refine VV.mem eM1 ?_
  have hP1 := hPy1.wI eM1
  refine Y_aload_n (j := 1) dX12_calls_23 rfl rfl ?_
  refine Z_getr dX12_calls_24 w8_116 (lk_69 hP1) fr_12_50 (lr_69_50 hP1) ?_
  refine Y_aload_n (j := 1) dX12_calls_27 rfl rfl ?_
  refine Z_geti dX12_calls_28 w8_114 (lk_69 hP1) fi_12_48 ?_
  refine Y_dup2 dX12_calls_31 rfl rfl ?_
  obtain ⟨hb3, h⟩ := okE h
  refine Y_iald dX12_calls_32 (lk_110 hP1) (ln_110 hP1) hb3 ?_
  refine Y_iconst (v := (1 : Int32)) dX12_calls_33 rfl ?_
  refine Y_iadd dX12_calls_34 ?_
  obtain ⟨hb4, h⟩ := okE h
  refine Y_iast dX12_calls_35 (lk_110 hP1) (ln_110 hP1) hb4 ?_
  obtain ⟨M2, eM2, h⟩ := bndE h
  refine VV.mem eM2 ?_
  have hP2 := hP1.wI eM2
  refine Y_aload_n (j := 1) dX12_calls_36 rfl rfl ?_
  refine Y_dup dX12_calls_37 rfl ?_
  refine Z_geti dX12_calls_38 w8_114 (lk_69 hP2) fi_12_48 ?_
  refine Y_iconst (v := (1 : Int32)) dX12_calls_41 rfl ?_
  refine Y_iadd dX12_calls_42 ?_
  refine Z_puti dX12_calls_43 w8_114 (lk_69 hP2) fi_12_48 (Or.inl rfl) rfl ?_
  obtain ⟨M3, eM3, h⟩ := bndE h
  refine VV.mem eM3 ?_
  have hP3 := hP2.wI eM3
  refine Y_aload_n (j := 1) dX12_calls_46 rfl rfl ?_
  refine Z_getr dX12_calls_47 w8_115 (lk_69 hP3) fr_12_49 (lr_69_49 hP3) ?_
  refine Y_aload_n (j := 1) dX12_calls_50 rfl rfl ?_
  refine Z_geti dX12_calls_51 w8_114 (lk_69 hP3) fi_12_48 ?_
  refine Y_iload_n (j := 2) dX12_calls_54 rfl rfl ?_
  obtain ⟨hb5, h⟩ := okE h
  refine Y_iast dX12_calls_55 (lk_109 hP3) (ln_109 hP3) hb5 ?_
  obtain ⟨M4, eM4, h⟩ := bndE h
  refine VV.mem eM4 ?_
  have hP4 := hP3.wI eM4
  refine Y_aload_n (j := 1) dX12_calls_56 rfl rfl ?_
  refine Z_getr dX12_calls_57 w8_116 (lk_69 hP4) fr_12_50 (lr_69_50 hP4) ?_
  refine Y_aload_n (j := 1) dX12_calls_60 rfl rfl ?_
  refine Z_geti dX12_calls_61 w8_114 (lk_69 hP4) fi_12_48 ?_
  refine Y_iconst (v := (0 : Int32)) dX12_calls_64 rfl ?_
  obtain ⟨hb6, h⟩ := okE h
  refine Y_iast dX12_calls_65 (lk_110 hP4) (ln_110 hP4) hb6 ?_
  obtain ⟨M5, eM5, h⟩ := bndE h
  refine VV.mem eM5 ?_
  have hP5 := hP4.wI eM5
  refine Y_aload_n (j := 1) dX12_calls_66 rfl rfl ?_
  refine Z_getr dX12_calls_67 w8_117 (lk_69 hP5) fr_12_51 (lr_69_51 hP5) ?_
  refine Y_aload_n (j := 1) dX12_calls_70 rfl rfl ?_
  refine Z_geti dX12_calls_71 w8_114 (lk_69 hP5) fi_12_48 ?_
  refine Y_iconst (v := (0 : Int32)) dX12_calls_74 rfl ?_
  obtain ⟨hb7, h⟩ := okE h
  refine Y_iast dX12_calls_75 (lk_111 hP5) (ln_111 hP5) hb7 ?_
  obtain ⟨M6, eM6, h⟩ := bndE h
  refine VV.mem eM6 ?_
  have hP6 := hP5.wI eM6
  refine Y_iconst (v := (0 : Int32)) dX12_calls_76 rfl ?_
  refine Y_istore (lv1 := [(4, .int (0 : Int32)), (3, .int b1), (0, .ref 69), (1, .int x1), (2, .int x2)]) dX12_calls_77 (by decide) rfl ?_
  refine VV.sub [2, 4, 1, 0] rfl ?_
  exact b_X12_calls_79  fuel _ _ _ h hP6
theorem v_X12_calls {x1 : Int32} {x2 : Int32} {M z} (hP : Lay M) (h : d_X12_calls x1 x2 M = some z) : CC Lay k_X12_calls [.ref 69, .int x1, .int x2] M z.2 (Qv (none) z.2) xF :=
  CC.ofVV (by decide) rfl (Nat.le_of_ble_eq_true rfl) (b_X12_calls hP h)
noncomputable def d_X12_puts_152 (M : Mem) : Option (Unit × Mem) :=
  okk (vp_in (mI M 69 48) 12) <|
  okk (vp_in (mI M 69 48) 12) <|
  bnd (sI M 111 (mI M 69 48).toNatClampNeg ((mI M 111 (mI M 69 48).toNatClampNeg) - (2 : Int32))) fun M1 =>
  okk (vp_in (mI M1 69 48) 12) <|
  okk (vp_in (mI M1 69 48) 12) <|
  bnd (sI M1 110 (mI M1 69 48).toNatClampNeg ((mI M1 110 (mI M1 69 48).toNatClampNeg) + (1 : Int32))) fun M2 =>
  some ((), M2)
theorem b_X12_puts_152 {M z} (hP : Lay M) (h : d_X12_puts_152 M = some z) : VV Lay k_X12_puts 152 [(0, .ref 69)] [] M z.2 (Qv (none) z.2) xF := by
  unfold d_X12_puts_152 at h
  refine Y_aload_n (j := 0) dX12_puts_152 rfl rfl ?_
  refine Z_getr dX12_puts_153 w8_117 (lk_69 hP) fr_12_51 (lr_69_51 hP) ?_
  refine Y_aload_n (j := 0) dX12_puts_156 rfl rfl ?_
  refine Z_geti dX12_puts_157 w8_114 (lk_69 hP) fi_12_48 ?_
  refine Y_dup2 dX12_puts_160 rfl rfl ?_
  obtain ⟨hb1, h⟩ := okE h
  refine Y_iald dX12_puts_161 (lk_111 hP) (ln_111 hP) hb1 ?_
  refine Y_iconst (v := (2 : Int32)) dX12_puts_162 rfl ?_
  refine Y_isub dX12_puts_163 ?_
  obtain ⟨hb2, h⟩ := okE h
  refine Y_iast dX12_puts_164 (lk_111 hP) (ln_111 hP) hb2 ?_
  obtain ⟨M1, eM1, h⟩ := bndE h
  refine VV.mem eM1 ?_
  have hP1 := hP.wI eM1
  refine Y_aload_n (j := 0) dX12_puts_165 rfl rfl ?_
  refine Z_getr dX12_puts_166 w8_116 (lk_69 hP1) fr_12_50 (lr_69_50 hP1) ?_
  refine Y_aload_n (j := 0) dX12_puts_169 rfl rfl ?_
  refine Z_geti dX12_puts_170 w8_114 (lk_69 hP1) fi_12_48 ?_
  refine Y_dup2 dX12_puts_173 rfl rfl ?_
  obtain ⟨hb3, h⟩ := okE h
  refine Y_iald dX12_puts_174 (lk_110 hP1) (ln_110 hP1) hb3 ?_
  refine Y_iconst (v := (1 : Int32)) dX12_puts_175 rfl ?_
  refine Y_iadd dX12_puts_176 ?_
  obtain ⟨hb4, h⟩ := okE h
  refine Y_iast dX12_puts_177 (lk_110 hP1) (ln_110 hP1) hb4 ?_
  obtain ⟨M2, eM2, h⟩ := bndE h
  refine VV.mem eM2 ?_
  have hP2 := hP1.wI eM2
  cases h
  exact Y_vret rfl dX12_puts_178 hP2 ⟨rfl, rfl⟩
noncomputable def d_X12_puts_116b (k116 : (Int32) → Mem → Option (Unit × Mem)) (x2 : Int32) (x6 : Int32) (x7 : Int32) (M : Mem) : Option (Unit × Mem) :=
  if (mI M 69 83) ≤ x7 then (
    okk (vp_in x2 168) <|
    okk (vp_in (mI M 108 x2.toNatClampNeg) 600) <|
    bnd (sI M 125 (mI M 108 x2.toNatClampNeg).toNatClampNeg x6) fun M1 =>
    d_X12_puts_152 M1)
  else (
    okk (vp_in x7 600) <|
    bnd (sI M 125 x7.toNatClampNeg (-1 : Int32)) fun M2 =>
    bnd ((x7 + (1 : Int32))) fun b1 =>
    k116 (b1) M2)
theorem b_X12_puts_116b {k116 : (Int32) → Mem → Option (Unit × Mem)} {x2 : Int32} {x6 : Int32} {x7 : Int32} {M z} (hk116 : ∀ (a : (Int32)) (M : Mem) (z : Unit × Mem), Lay M → k116 a M = some z → VV Lay k_X12_puts 116 [(0, .ref 69), (2, .int x2), (6, .int x6), (7, .int a)] [] M z.2 (Qv (none) z.2) xF) (hP : Lay M) (h : d_X12_puts_116b k116 x2 x6 x7 M = some z) : VV Lay k_X12_puts 116 [(0, .ref 69), (2, .int x2), (6, .int x6), (7, .int x7)] [] M z.2 (Qv (none) z.2) xF := by
  unfold d_X12_puts_116b at h
  refine Y_iload (j := 3) dX12_puts_116 rfl ?_
  refine Y_aload_n (j := 0) dX12_puts_118 rfl rfl ?_
  refine Z_geti dX12_puts_119 w8_149 (lk_69 hP) fi_12_83 ?_
  refine Y_icmp_ge (tgt := 139) dX12_puts_122 (by decide) (fun hc1 => ?_) (fun hc1 => ?_)
  · replace h := ifT hc1 h
    refine Y_aload_n (j := 0) dX12_puts_139 rfl rfl ?_
    refine Z_getr dX12_puts_140 w8_152 (lk_69 hP) fr_12_86 (lr_69_86 hP) ?_
    refine Y_aload_n (j := 0) dX12_puts_143 rfl rfl ?_
    refine Z_getr dX12_puts_144 w8_113 (lk_69 hP) fr_12_47 (lr_69_47 hP) ?_
    refine Y_iload_n (j := 1) dX12_puts_147 rfl rfl ?_
    obtain ⟨hb1, h⟩ := okE h
    refine Y_iald dX12_puts_148 (lk_108 hP) (ln_108 hP) hb1 ?_
    refine Y_iload (j := 2) dX12_puts_149 rfl ?_
    obtain ⟨hb2, h⟩ := okE h
    refine Y_iast dX12_puts_151 (lk_125 hP) (ln_125 hP) hb2 ?_
    obtain ⟨M1, eM1, h⟩ := bndE h
    refine VV.mem eM1 ?_
    have hP1 := hP.wI eM1
    refine VV.sub [0] rfl ?_
    exact b_X12_puts_152  hP1 h
  · replace h := ifF hc1 h
    refine Y_aload_n (j := 0) dX12_puts_125 rfl rfl ?_
    refine Z_getr dX12_puts_126 w8_152 (lk_69 hP) fr_12_86 (lr_69_86 hP) ?_
    refine Y_iload (j := 3) dX12_puts_129 rfl ?_
    refine Y_iconst (v := (-1 : Int32)) dX12_puts_131 rfl ?_
    obtain ⟨hb3, h⟩ := okE h
    refine Y_iast dX12_puts_132 (lk_125 hP) (ln_125 hP) hb3 ?_
    obtain ⟨M2, eM2, h⟩ := bndE h
    refine VV.mem eM2 ?_
    have hP2 := hP.wI eM2
    obtain ⟨b1, eb1, h⟩ := bndE h
    refine Y_iinc (j := 3) (v := b1) (lv1 := [(7, .int b1), (0, .ref 69), (2, .int x2), (6, .int x6)]) dX12_puts_133 rfl eb1.symm (by decide) rfl ?_
    refine Y_goto (tgt := 116) dX12_puts_136 (by decide) ?_
    refine VV.sub [1, 2, 3, 0] rfl ?_
    exact hk116 _ _ _ hP2 h
noncomputable def d_X12_puts_116 (x2 : Int32) (x6 : Int32) : Nat → (Int32) → Mem → Option (Unit × Mem) := lp fun k a M => d_X12_puts_116b k x2 x6 a M
theorem b_X12_puts_116 {x2 : Int32} {x6 : Int32} (n : Nat) : ∀ (a : (Int32)) (M : Mem) (z : Unit × Mem), d_X12_puts_116 x2 x6 n a M = some z → Lay M → VV Lay k_X12_puts 116 [(0, .ref 69), (2, .int x2), (6, .int x6), (7, .int a)] [] M z.2 (Qv (none) z.2) xF :=
  lp_ind (fun k hk a M z h hP => b_X12_puts_116b  (fun a M z hP h => hk a M z h hP) hP h) n
noncomputable def d_X12_puts (x1 : Int32) (M : Mem) : Option (Unit × Mem) :=
  (d_X12_top (1 : Int32) M).bind fun y1 =>
  okk (vp_in y1.1 168) <|
  bnd ((mI y1.2 106 y1.1.toNatClampNeg)) fun b1 =>
  (d_X12_top (0 : Int32) y1.2).bind fun y2 =>
  okk (vp_in b1 60) <|
  bnd ((mI y2.2 112 b1.toNatClampNeg)) fun b2 =>
  (d_X12_shapeBehind b2 x1 y2.2).bind fun y3 =>
  okk (vp_in b1 60) <|
  bnd (sI y3.2 112 b1.toNatClampNeg y3.1) fun M1 =>
  okk (vp_in y2.1 168) <|
  okk (vp_in (((6 : Int32) * b1) + x1) 360) <|
  okk (isCh (mI M1 105 y2.1.toNatClampNeg)) <|
  bnd (sI M1 113 (((6 : Int32) * b1) + x1).toNatClampNeg (mI M1 105 y2.1.toNatClampNeg)) fun M2 =>
  okk (vp_in y2.1 168) <|
  okk (vp_in (((6 : Int32) * b1) + x1) 360) <|
  bnd (sI M2 114 (((6 : Int32) * b1) + x1).toNatClampNeg (mI M2 106 y2.1.toNatClampNeg)) fun M3 =>
  okk (vp_in y2.1 168) <|
  okk (vp_in (((6 : Int32) * b1) + x1) 360) <|
  bnd (sD M3 115 (((6 : Int32) * b1) + x1).toNatClampNeg (mD M3 107 y2.1.toNatClampNeg)) fun M4 =>
  if (mI M4 69 71) = 0 then (
    d_X12_puts_152 M4)
  else (
    if y3.1 = b2 then (
      d_X12_puts_152 M4)
    else (
      d_X12_puts_116 y1.1 y3.1 fuel ((0 : Int32)) M4))
theorem b_X12_puts {x1 : Int32} {M z} (hP : Lay M) (h : d_X12_puts x1 M = some z) : VV Lay k_X12_puts 0 [(0, .ref 69), (1, .int x1)] [] M z.2 (Qv (none) z.2) xF := by
  unfold d_X12_puts at h
  refine Y_aload_n (j := 0) dX12_puts_0 rfl rfl ?_
  refine Y_iconst (v := (1 : Int32)) dX12_puts_1 rfl ?_
  obtain ⟨y1, qy1, h⟩ := bindE h
  have cy1 := v_X12_top hP qy1
  refine C_V1r dX12_puts_2 w9_200 i_X12_top (lk_69 hP) ⟨Nat.le_of_ble_eq_true rfl, Nat.le_of_ble_eq_true rfl⟩ rfl (Nat.le_of_ble_eq_true rfl) (Nat.le_of_ble_eq_true rfl) (Nat.le_of_ble_eq_true rfl) (cy1) ?_
  have hPy1 := cy1.1.1
  refine Y_istore_n (lv1 := [(2, .int y1.1), (0, .ref 69), (1, .int x1)]) dX12_puts_5 rfl (by decide) rfl ?_
  refine Y_aload_n (j := 1) dX12_puts_6 rfl rfl ?_
  refine Z_getr dX12_puts_7 w8_111 (lk_69 hPy1) fr_12_45 (lr_69_45 hPy1) ?_
  refine Y_iload_n (j := 0) dX12_puts_10 rfl rfl ?_
  obtain ⟨hb1, h⟩ := okE h
  refine Y_iald dX12_puts_11 (lk_106 hPy1) (ln_106 hPy1) hb1 ?_
  obtain ⟨b1, eb1, h⟩ := bndE h
  refine VV.topI eb1 ?_
  refine Y_istore_n (lv1 := [(3, .int b1), (2, .int y1.1), (0, .ref 69), (1, .int x1)]) dX12_puts_12 rfl (by decide) rfl ?_
  refine Y_aload_n (j := 2) dX12_puts_13 rfl rfl ?_
  refine Y_iconst (v := (0 : Int32)) dX12_puts_14 rfl ?_
  obtain ⟨y2, qy2, h⟩ := bindE h
  have cy2 := v_X12_top hPy1 qy2
  refine C_V1r dX12_puts_15 w9_200 i_X12_top (lk_69 hPy1) ⟨Nat.le_of_ble_eq_true rfl, Nat.le_of_ble_eq_true rfl⟩ rfl (Nat.le_of_ble_eq_true rfl) (Nat.le_of_ble_eq_true rfl) (Nat.le_of_ble_eq_true rfl) (cy2) ?_
  have hPy2 := cy2.1.1
  refine Y_istore (lv1 := [(4, .int y2.1), (3, .int b1), (2, .int y1.1), (0, .ref 69), (1, .int x1)]) dX12_puts_18 (by decide) rfl ?_
  refine Y_aload_n (j := 3) dX12_puts_20 rfl rfl ?_
  refine Z_getr dX12_puts_21 w8_119 (lk_69 hPy2) fr_12_53 (lr_69_53 hPy2) ?_
  refine Y_iload_n (j := 1) dX12_puts_24 rfl rfl ?_
  obtain ⟨hb2, h⟩ := okE h
  refine Y_iald dX12_puts_25 (lk_112 hPy2) (ln_112 hPy2) hb2 ?_
  obtain ⟨b2, eb2, h⟩ := bndE h
  refine VV.topI eb2 ?_
  refine Y_istore (lv1 := [(5, .int b2), (4, .int y2.1), (3, .int b1), (2, .int y1.1), (0, .ref 69), (1, .int x1)]) dX12_puts_26 (by decide) rfl ?_
  refine Y_aload_n (j := 4) dX12_puts_28 rfl rfl ?_
  refine Y_iload (j := 0) dX12_puts_29 rfl ?_
  refine Y_iload_n (j := 5) dX12_puts_31 rfl rfl ?_
  obtain ⟨y3, qy3, h⟩ := bindE h
  have cy3 := v_X12_shapeBehind hPy2 qy3
  refine C_V2r dX12_puts_32 w10_75 i_X12_shapeBehind (lk_69 hPy2) ⟨Nat.le_of_ble_eq_true rfl, Nat.le_of_ble_eq_true rfl⟩ rfl (Nat.le_of_ble_eq_true rfl) (Nat.le_of_ble_eq_true rfl) (Nat.le_of_ble_eq_true rfl) (cy3) ?_
  have hPy3 := cy3.1.1
  refine Y_istore (lv1 := [(6, .int y3.1), (5, .int b2), (4, .int y2.1), (3, .int b1), (2, .int y1.1), (0, .ref 69), (1, .int x1)]) dX12_puts_35 (by decide) rfl ?_
  refine Y_aload_n (j := 5) dX12_puts_37 rfl rfl ?_
  refine Z_getr dX12_puts_38 w8_119 (lk_69 hPy3) fr_12_53 (lr_69_53 hPy3) ?_
  refine Y_iload_n (j := 3) dX12_puts_41 rfl rfl ?_
  refine Y_iload (j := 0) dX12_puts_42 rfl ?_
  obtain ⟨hb3, h⟩ := okE h
  refine Y_iast dX12_puts_44 (lk_112 hPy3) (ln_112 hPy3) hb3 ?_
  obtain ⟨M1, eM1, h⟩ := bndE h
  refine VV.mem eM1 ?_
  have hP1 := hPy3.wI eM1
  refine Y_aload_n (j := 5) dX12_puts_45 rfl rfl ?_
  refine Z_getr dX12_puts_46 w8_120 (lk_69 hP1) fr_12_54 (lr_69_54 hP1) ?_
  refine Y_bipush (v := (6 : Int32)) dX12_puts_49 rfl ?_
  refine Y_iload_n (j := 3) dX12_puts_51 rfl rfl ?_
  refine Y_imul dX12_puts_52 ?_
  refine Y_iload_n (j := 6) dX12_puts_53 rfl rfl ?_
  refine Y_iadd dX12_puts_54 ?_
  refine Y_aload_n (j := 5) dX12_puts_55 rfl rfl ?_
  refine Z_getr dX12_puts_56 w8_110 (lk_69 hP1) fr_12_44 (lr_69_44 hP1) ?_
  refine Y_iload (j := 2) dX12_puts_59 rfl ?_
  obtain ⟨hb4, h⟩ := okE h
  refine Y_cald dX12_puts_61 (lk_105 hP1) (ln_105 hP1) hb4 ?_
  obtain ⟨hb5, h⟩ := okE h
  obtain ⟨hb6, h⟩ := okE h
  refine Y_cast dX12_puts_62 (lk_113 hP1) (ln_113 hP1) hb5 (nar_ch hb6) ?_
  obtain ⟨M2, eM2, h⟩ := bndE h
  refine VV.mem eM2 ?_
  have hP2 := hP1.wI eM2
  refine Y_aload_n (j := 5) dX12_puts_63 rfl rfl ?_
  refine Z_getr dX12_puts_64 w8_121 (lk_69 hP2) fr_12_55 (lr_69_55 hP2) ?_
  refine Y_bipush (v := (6 : Int32)) dX12_puts_67 rfl ?_
  refine Y_iload_n (j := 3) dX12_puts_69 rfl rfl ?_
  refine Y_imul dX12_puts_70 ?_
  refine Y_iload_n (j := 6) dX12_puts_71 rfl rfl ?_
  refine Y_iadd dX12_puts_72 ?_
  refine Y_aload_n (j := 5) dX12_puts_73 rfl rfl ?_
  refine Z_getr dX12_puts_74 w8_111 (lk_69 hP2) fr_12_45 (lr_69_45 hP2) ?_
  refine Y_iload (j := 2) dX12_puts_77 rfl ?_
  obtain ⟨hb7, h⟩ := okE h
  refine Y_iald dX12_puts_79 (lk_106 hP2) (ln_106 hP2) hb7 ?_
  obtain ⟨hb8, h⟩ := okE h
  refine Y_iast dX12_puts_80 (lk_114 hP2) (ln_114 hP2) hb8 ?_
  obtain ⟨M3, eM3, h⟩ := bndE h
  refine VV.mem eM3 ?_
  have hP3 := hP2.wI eM3
  refine Y_aload_n (j := 5) dX12_puts_81 rfl rfl ?_
  refine Z_getr dX12_puts_82 w8_122 (lk_69 hP3) fr_12_56 (lr_69_56 hP3) ?_
  refine Y_bipush (v := (6 : Int32)) dX12_puts_85 rfl ?_
  refine Y_iload_n (j := 3) dX12_puts_87 rfl rfl ?_
  refine Y_imul dX12_puts_88 ?_
  refine Y_iload_n (j := 6) dX12_puts_89 rfl rfl ?_
  refine Y_iadd dX12_puts_90 ?_
  refine Y_aload_n (j := 5) dX12_puts_91 rfl rfl ?_
  refine Z_getr dX12_puts_92 w8_112 (lk_69 hP3) fr_12_46 (lr_69_46 hP3) ?_
  refine Y_iload (j := 2) dX12_puts_95 rfl ?_
  obtain ⟨hb9, h⟩ := okE h
  refine Y_dald dX12_puts_97 (lk_107 hP3) (ln_107 hP3) hb9 ?_
  obtain ⟨hb10, h⟩ := okE h
  refine Y_dast dX12_puts_98 (lk_115 hP3) (ln_115 hP3) hb10 ?_
  obtain ⟨M4, eM4, h⟩ := bndE h
  refine VV.mem eM4 ?_
  have hP4 := hP3.wD eM4
  refine Y_aload_n (j := 5) dX12_puts_99 rfl rfl ?_
  refine Z_geti dX12_puts_100 w8_137 (lk_69 hP4) fi_12_71 ?_
  refine Y_if_eq (tgt := 152) dX12_puts_103 (by decide) (fun hc1 => ?_) (fun hc1 => ?_)
  · replace h := ifT hc1 h
    refine VV.sub [5] rfl ?_
    exact b_X12_puts_152  hP4 h
  · replace h := ifF hc1 h
    refine Y_iload (j := 0) dX12_puts_106 rfl ?_
    refine Y_iload (j := 1) dX12_puts_108 rfl ?_
    refine Y_icmp_eq (tgt := 152) dX12_puts_110 (by decide) (fun hc2 => ?_) (fun hc2 => ?_)
    · replace h := ifT hc2 h
      refine VV.sub [5] rfl ?_
      exact b_X12_puts_152  hP4 h
    · replace h := ifF hc2 h
      refine Y_iconst (v := (0 : Int32)) dX12_puts_113 rfl ?_
      refine Y_istore (lv1 := [(7, .int (0 : Int32)), (6, .int y3.1), (5, .int b2), (4, .int y2.1), (3, .int b1), (2, .int y1.1), (0, .ref 69), (1, .int x1)]) dX12_puts_114 (by decide) rfl ?_
      refine VV.sub [6, 5, 1, 0] rfl ?_
      exact b_X12_puts_116  fuel _ _ _ h hP4
theorem v_X12_puts {x1 : Int32} {M z} (hP : Lay M) (h : d_X12_puts x1 M = some z) : CC Lay k_X12_puts [.ref 69, .int x1] M z.2 (Qv (none) z.2) xF :=
  CC.ofVV (by decide) rfl (Nat.le_of_ble_eq_true rfl) (b_X12_puts hP h)
noncomputable def d_X12_returns (M : Mem) : Option (Unit × Mem) :=
  (d_X12_top (0 : Int32) M).bind fun y1 =>
  if (mI y1.2 69 48) = 0 then (
    bnd (sI y1.2 69 67 (0 : Int32)) fun M3 =>
    bnd (sI M3 69 62 (118 : Int32)) fun M4 =>
    okk (vp_in y1.1 168) <|
    okk (isCh (mI M4 105 y1.1.toNatClampNeg)) <|
    bnd (sI M4 69 63 (mI M4 105 y1.1.toNatClampNeg)) fun M5 =>
    okk (vp_in y1.1 168) <|
    okk (vp_in y1.1 168) <|
    okk (vp_in y1.1 168) <|
    (d_X12_told (mI M5 105 y1.1.toNatClampNeg) (mI M5 106 y1.1.toNatClampNeg) (mD M5 107 y1.1.toNatClampNeg) M5).bind fun y4 =>
    bnd (sL y4.2 69 64 y4.1) fun M6 =>
    some ((), M6))
  else (
    bnd (sI y1.2 69 48 ((mI y1.2 69 48) - (1 : Int32))) fun M1 =>
    okk (vp_in (mI M1 69 48) 12) <|
    okk (vp_in (mI M1 69 48) 12) <|
    bnd (sI M1 111 (mI M1 69 48).toNatClampNeg ((mI M1 111 (mI M1 69 48).toNatClampNeg) + (1 : Int32))) fun M2 =>
    (d_X12_top (0 : Int32) M2).bind fun y2 =>
    (d_X12_copies y1.1 y2.1 y2.2).bind fun y3 =>
    some ((), y3.2))
theorem b_X12_returns {M z} (hP : Lay M) (h : d_X12_returns M = some z) : VV Lay k_X12_returns 0 [(0, .ref 69)] [] M z.2 (Qv (none) z.2) xF := by
  unfold d_X12_returns at h
  refine Y_aload_n (j := 0) dX12_returns_0 rfl rfl ?_
  refine Y_iconst (v := (0 : Int32)) dX12_returns_1 rfl ?_
  obtain ⟨y1, qy1, h⟩ := bindE h
  have cy1 := v_X12_top hP qy1
  refine C_V1r dX12_returns_2 w9_200 i_X12_top (lk_69 hP) ⟨Nat.le_of_ble_eq_true rfl, Nat.le_of_ble_eq_true rfl⟩ rfl (Nat.le_of_ble_eq_true rfl) (Nat.le_of_ble_eq_true rfl) (Nat.le_of_ble_eq_true rfl) (cy1) ?_
  have hPy1 := cy1.1.1
  refine Y_istore_n (lv1 := [(1, .int y1.1), (0, .ref 69)]) dX12_returns_5 rfl (by decide) rfl ?_
  refine Y_aload_n (j := 1) dX12_returns_6 rfl rfl ?_
  refine Z_geti dX12_returns_7 w8_114 (lk_69 hPy1) fi_12_48 ?_
  refine Y_if_ne (tgt := 60) dX12_returns_10 (by decide) (fun hc1 => ?_) (fun hc1 => ?_)
  · replace h := ifF hc1 h
    refine Y_aload_n (j := 1) dX12_returns_60 rfl rfl ?_
    refine Y_dup dX12_returns_61 rfl ?_
    refine Z_geti dX12_returns_62 w8_114 (lk_69 hPy1) fi_12_48 ?_
    refine Y_iconst (v := (1 : Int32)) dX12_returns_65 rfl ?_
    refine Y_isub dX12_returns_66 ?_
    refine Z_puti dX12_returns_67 w8_114 (lk_69 hPy1) fi_12_48 (Or.inl rfl) rfl ?_
    obtain ⟨M1, eM1, h⟩ := bndE h
    refine VV.mem eM1 ?_
    have hP1 := hPy1.wI eM1
    refine Y_aload_n (j := 1) dX12_returns_70 rfl rfl ?_
    refine Z_getr dX12_returns_71 w8_117 (lk_69 hP1) fr_12_51 (lr_69_51 hP1) ?_
    refine Y_aload_n (j := 1) dX12_returns_74 rfl rfl ?_
    refine Z_geti dX12_returns_75 w8_114 (lk_69 hP1) fi_12_48 ?_
    refine Y_dup2 dX12_returns_78 rfl rfl ?_
    obtain ⟨hb1, h⟩ := okE h
    refine Y_iald dX12_returns_79 (lk_111 hP1) (ln_111 hP1) hb1 ?_
    refine Y_iconst (v := (1 : Int32)) dX12_returns_80 rfl ?_
    refine Y_iadd dX12_returns_81 ?_
    obtain ⟨hb2, h⟩ := okE h
    refine Y_iast dX12_returns_82 (lk_111 hP1) (ln_111 hP1) hb2 ?_
    obtain ⟨M2, eM2, h⟩ := bndE h
    refine VV.mem eM2 ?_
    have hP2 := hP1.wI eM2
    refine Y_aload_n (j := 1) dX12_returns_83 rfl rfl ?_
    refine Y_iload_n (j := 0) dX12_returns_84 rfl rfl ?_
    refine Y_aload_n (j := 1) dX12_returns_85 rfl rfl ?_
    refine Y_iconst (v := (0 : Int32)) dX12_returns_86 rfl ?_
    obtain ⟨y2, qy2, h⟩ := bindE h
    have cy2 := v_X12_top hP2 qy2
    refine C_V1r dX12_returns_87 w9_200 i_X12_top (lk_69 hP2) ⟨Nat.le_of_ble_eq_true rfl, Nat.le_of_ble_eq_true rfl⟩ rfl (Nat.le_of_ble_eq_true rfl) (Nat.le_of_ble_eq_true rfl) (Nat.le_of_ble_eq_true rfl) (cy2) ?_
    have hPy2 := cy2.1.1
    obtain ⟨y3, qy3, h⟩ := bindE h
    have cy3 := v_X12_copies hPy2 qy3
    refine C_V2o dX12_returns_90 w10_55 i_X12_copies (lk_69 hPy2) ⟨Nat.le_of_ble_eq_true rfl, Nat.le_of_ble_eq_true rfl⟩ rfl (Nat.le_of_ble_eq_true rfl) (Nat.le_of_ble_eq_true rfl) (Nat.le_of_ble_eq_true rfl) (cy3) ?_
    have hPy3 := cy3.1.1
    cases h
    exact Y_vret rfl dX12_returns_93 hPy3 ⟨rfl, rfl⟩
  · replace h := ifT hc1 h
    refine Y_aload_n (j := 1) dX12_returns_13 rfl rfl ?_
    refine Y_iconst (v := (0 : Int32)) dX12_returns_14 rfl ?_
    refine Z_putz dX12_returns_15 w8_133 (lk_69 hPy1) fi_12_67 (Or.inl rfl) rfl (by decide) ?_
    obtain ⟨M3, eM3, h⟩ := bndE h
    refine VV.mem eM3 ?_
    have hP3 := hPy1.wI eM3
    refine Y_aload_n (j := 1) dX12_returns_18 rfl rfl ?_
    refine Y_bipush (v := (118 : Int32)) dX12_returns_19 rfl ?_
    refine Z_putc dX12_returns_21 w8_128 (lk_69 hP3) fi_12_62 (Or.inl rfl) rfl (by decide) ?_
    obtain ⟨M4, eM4, h⟩ := bndE h
    refine VV.mem eM4 ?_
    have hP4 := hP3.wI eM4
    refine Y_aload_n (j := 1) dX12_returns_24 rfl rfl ?_
    refine Y_aload_n (j := 1) dX12_returns_25 rfl rfl ?_
    refine Z_getr dX12_returns_26 w8_110 (lk_69 hP4) fr_12_44 (lr_69_44 hP4) ?_
    refine Y_iload_n (j := 0) dX12_returns_29 rfl rfl ?_
    obtain ⟨hb3, h⟩ := okE h
    refine Y_cald dX12_returns_30 (lk_105 hP4) (ln_105 hP4) hb3 ?_
    obtain ⟨hb4, h⟩ := okE h
    refine Z_putc dX12_returns_31 w8_129 (lk_69 hP4) fi_12_63 (Or.inl rfl) rfl hb4 ?_
    obtain ⟨M5, eM5, h⟩ := bndE h
    refine VV.mem eM5 ?_
    have hP5 := hP4.wI eM5
    refine Y_aload_n (j := 1) dX12_returns_34 rfl rfl ?_
    refine Y_aload_n (j := 1) dX12_returns_35 rfl rfl ?_
    refine Z_getr dX12_returns_36 w8_110 (lk_69 hP5) fr_12_44 (lr_69_44 hP5) ?_
    refine Y_iload_n (j := 0) dX12_returns_39 rfl rfl ?_
    obtain ⟨hb5, h⟩ := okE h
    refine Y_cald dX12_returns_40 (lk_105 hP5) (ln_105 hP5) hb5 ?_
    refine Y_aload_n (j := 1) dX12_returns_41 rfl rfl ?_
    refine Z_getr dX12_returns_42 w8_111 (lk_69 hP5) fr_12_45 (lr_69_45 hP5) ?_
    refine Y_iload_n (j := 0) dX12_returns_45 rfl rfl ?_
    obtain ⟨hb6, h⟩ := okE h
    refine Y_iald dX12_returns_46 (lk_106 hP5) (ln_106 hP5) hb6 ?_
    refine Y_aload_n (j := 1) dX12_returns_47 rfl rfl ?_
    refine Z_getr dX12_returns_48 w8_112 (lk_69 hP5) fr_12_46 (lr_69_46 hP5) ?_
    refine Y_iload_n (j := 0) dX12_returns_51 rfl rfl ?_
    obtain ⟨hb7, h⟩ := okE h
    refine Y_dald dX12_returns_52 (lk_107 hP5) (ln_107 hP5) hb7 ?_
    obtain ⟨y4, qy4, h⟩ := bindE h
    have cy4 := v_X12_told hP5 qy4
    refine C_S3r dX12_returns_53 w10_87 i_X12_told (Nat.le_of_ble_eq_true rfl) (Nat.le_of_ble_eq_true rfl) (Nat.le_of_ble_eq_true rfl) (cy4) ?_
    have hPy4 := cy4.1.1
    refine Z_putl dX12_returns_56 w8_130 (lk_69 hPy4) fl_12_64 (Or.inl rfl) rfl ?_
    obtain ⟨M6, eM6, h⟩ := bndE h
    refine VV.mem eM6 ?_
    have hP6 := hPy4.wL eM6
    cases h
    exact Y_vret rfl dX12_returns_59 hP6 ⟨rfl, rfl⟩
theorem v_X12_returns {M z} (hP : Lay M) (h : d_X12_returns M = some z) : CC Lay k_X12_returns [.ref 69] M z.2 (Qv (none) z.2) xF :=
  CC.ofVV (by decide) rfl (Nat.le_of_ble_eq_true rfl) (b_X12_returns hP h)
noncomputable def d_X12_tells_70 (M : Mem) : Option (Unit × Mem) :=
  okk (vp_in (mI M 69 48) 12) <|
  okk (vp_in (mI M 69 48) 12) <|
  bnd (sI M 111 (mI M 69 48).toNatClampNeg ((mI M 111 (mI M 69 48).toNatClampNeg) - (1 : Int32))) fun M1 =>
  okk (vp_in (mI M1 69 48) 12) <|
  okk (vp_in (mI M1 69 48) 12) <|
  bnd (sI M1 110 (mI M1 69 48).toNatClampNeg ((mI M1 110 (mI M1 69 48).toNatClampNeg) + (1 : Int32))) fun M2 =>
  some ((), M2)
theorem b_X12_tells_70 {M z} (hP : Lay M) (h : d_X12_tells_70 M = some z) : VV Lay k_X12_tells 70 [(0, .ref 69)] [] M z.2 (Qv (none) z.2) xF := by
  unfold d_X12_tells_70 at h
  refine Y_aload_n (j := 0) dX12_tells_70 rfl rfl ?_
  refine Z_getr dX12_tells_71 w8_117 (lk_69 hP) fr_12_51 (lr_69_51 hP) ?_
  refine Y_aload_n (j := 0) dX12_tells_74 rfl rfl ?_
  refine Z_geti dX12_tells_75 w8_114 (lk_69 hP) fi_12_48 ?_
  refine Y_dup2 dX12_tells_78 rfl rfl ?_
  obtain ⟨hb1, h⟩ := okE h
  refine Y_iald dX12_tells_79 (lk_111 hP) (ln_111 hP) hb1 ?_
  refine Y_iconst (v := (1 : Int32)) dX12_tells_80 rfl ?_
  refine Y_isub dX12_tells_81 ?_
  obtain ⟨hb2, h⟩ := okE h
  refine Y_iast dX12_tells_82 (lk_111 hP) (ln_111 hP) hb2 ?_
  obtain ⟨M1, eM1, h⟩ := bndE h
  refine VV.mem eM1 ?_
  have hP1 := hP.wI eM1
  refine Y_aload_n (j := 0) dX12_tells_83 rfl rfl ?_
  refine Z_getr dX12_tells_84 w8_116 (lk_69 hP1) fr_12_50 (lr_69_50 hP1) ?_
  refine Y_aload_n (j := 0) dX12_tells_87 rfl rfl ?_
  refine Z_geti dX12_tells_88 w8_114 (lk_69 hP1) fi_12_48 ?_
  refine Y_dup2 dX12_tells_91 rfl rfl ?_
  obtain ⟨hb3, h⟩ := okE h
  refine Y_iald dX12_tells_92 (lk_110 hP1) (ln_110 hP1) hb3 ?_
  refine Y_iconst (v := (1 : Int32)) dX12_tells_93 rfl ?_
  refine Y_iadd dX12_tells_94 ?_
  obtain ⟨hb4, h⟩ := okE h
  refine Y_iast dX12_tells_95 (lk_110 hP1) (ln_110 hP1) hb4 ?_
  obtain ⟨M2, eM2, h⟩ := bndE h
  refine VV.mem eM2 ?_
  have hP2 := hP1.wI eM2
  cases h
  exact Y_vret rfl dX12_tells_96 hP2 ⟨rfl, rfl⟩
noncomputable def d_X12_tells (M : Mem) : Option (Unit × Mem) :=
  (d_X12_top (0 : Int32) M).bind fun y1 =>
  if (20 : Int32) ≤ (mI y1.2 69 59) then (
    d_X12_tells_70 y1.2)
  else (
    okk (vp_in y1.1 168) <|
    okk (vp_in (mI y1.2 69 59) 20) <|
    okk (isCh (mI y1.2 105 y1.1.toNatClampNeg)) <|
    bnd (sI y1.2 116 (mI y1.2 69 59).toNatClampNeg (mI y1.2 105 y1.1.toNatClampNeg)) fun M1 =>
    okk (vp_in y1.1 168) <|
    okk (vp_in y1.1 168) <|
    okk (vp_in y1.1 168) <|
    (d_X12_told (mI M1 105 y1.1.toNatClampNeg) (mI M1 106 y1.1.toNatClampNeg) (mD M1 107 y1.1.toNatClampNeg) M1).bind fun y2 =>
    okk (vp_in (mI M1 69 59) 20) <|
    bnd (sL y2.2 117 (mI M1 69 59).toNatClampNeg y2.1) fun M2 =>
    bnd (sI M2 69 59 ((mI M2 69 59) + (1 : Int32))) fun M3 =>
    d_X12_tells_70 M3)
theorem b_X12_tells {M z} (hP : Lay M) (h : d_X12_tells M = some z) : VV Lay k_X12_tells 0 [(0, .ref 69)] [] M z.2 (Qv (none) z.2) xF := by
  unfold d_X12_tells at h
  refine Y_aload_n (j := 0) dX12_tells_0 rfl rfl ?_
  refine Y_iconst (v := (0 : Int32)) dX12_tells_1 rfl ?_
  obtain ⟨y1, qy1, h⟩ := bindE h
  have cy1 := v_X12_top hP qy1
  refine C_V1r dX12_tells_2 w9_200 i_X12_top (lk_69 hP) ⟨Nat.le_of_ble_eq_true rfl, Nat.le_of_ble_eq_true rfl⟩ rfl (Nat.le_of_ble_eq_true rfl) (Nat.le_of_ble_eq_true rfl) (Nat.le_of_ble_eq_true rfl) (cy1) ?_
  have hPy1 := cy1.1.1
  refine Y_istore_n (lv1 := [(1, .int y1.1), (0, .ref 69)]) dX12_tells_5 rfl (by decide) rfl ?_
  refine Y_aload_n (j := 1) dX12_tells_6 rfl rfl ?_
  refine Z_geti dX12_tells_7 w8_125 (lk_69 hPy1) fi_12_59 ?_
  refine Y_bipush (v := (20 : Int32)) dX12_tells_10 rfl ?_
  refine Y_icmp_ge (tgt := 70) dX12_tells_12 (by decide) (fun hc1 => ?_) (fun hc1 => ?_)
  · replace h := ifT hc1 h
    refine VV.sub [1] rfl ?_
    exact b_X12_tells_70  hPy1 h
  · replace h := ifF hc1 h
    refine Y_aload_n (j := 1) dX12_tells_15 rfl rfl ?_
    refine Z_getr dX12_tells_16 w8_126 (lk_69 hPy1) fr_12_60 (lr_69_60 hPy1) ?_
    refine Y_aload_n (j := 1) dX12_tells_19 rfl rfl ?_
    refine Z_geti dX12_tells_20 w8_125 (lk_69 hPy1) fi_12_59 ?_
    refine Y_aload_n (j := 1) dX12_tells_23 rfl rfl ?_
    refine Z_getr dX12_tells_24 w8_110 (lk_69 hPy1) fr_12_44 (lr_69_44 hPy1) ?_
    refine Y_iload_n (j := 0) dX12_tells_27 rfl rfl ?_
    obtain ⟨hb1, h⟩ := okE h
    refine Y_cald dX12_tells_28 (lk_105 hPy1) (ln_105 hPy1) hb1 ?_
    obtain ⟨hb2, h⟩ := okE h
    obtain ⟨hb3, h⟩ := okE h
    refine Y_cast dX12_tells_29 (lk_116 hPy1) (ln_116 hPy1) hb2 (nar_ch hb3) ?_
    obtain ⟨M1, eM1, h⟩ := bndE h
    refine VV.mem eM1 ?_
    have hP1 := hPy1.wI eM1
    refine Y_aload_n (j := 1) dX12_tells_30 rfl rfl ?_
    refine Z_getr dX12_tells_31 w8_127 (lk_69 hP1) fr_12_61 (lr_69_61 hP1) ?_
    refine Y_aload_n (j := 1) dX12_tells_34 rfl rfl ?_
    refine Z_geti dX12_tells_35 w8_125 (lk_69 hP1) fi_12_59 ?_
    refine Y_aload_n (j := 1) dX12_tells_38 rfl rfl ?_
    refine Z_getr dX12_tells_39 w8_110 (lk_69 hP1) fr_12_44 (lr_69_44 hP1) ?_
    refine Y_iload_n (j := 0) dX12_tells_42 rfl rfl ?_
    obtain ⟨hb4, h⟩ := okE h
    refine Y_cald dX12_tells_43 (lk_105 hP1) (ln_105 hP1) hb4 ?_
    refine Y_aload_n (j := 1) dX12_tells_44 rfl rfl ?_
    refine Z_getr dX12_tells_45 w8_111 (lk_69 hP1) fr_12_45 (lr_69_45 hP1) ?_
    refine Y_iload_n (j := 0) dX12_tells_48 rfl rfl ?_
    obtain ⟨hb5, h⟩ := okE h
    refine Y_iald dX12_tells_49 (lk_106 hP1) (ln_106 hP1) hb5 ?_
    refine Y_aload_n (j := 1) dX12_tells_50 rfl rfl ?_
    refine Z_getr dX12_tells_51 w8_112 (lk_69 hP1) fr_12_46 (lr_69_46 hP1) ?_
    refine Y_iload_n (j := 0) dX12_tells_54 rfl rfl ?_
    obtain ⟨hb6, h⟩ := okE h
    refine Y_dald dX12_tells_55 (lk_107 hP1) (ln_107 hP1) hb6 ?_
    obtain ⟨y2, qy2, h⟩ := bindE h
    have cy2 := v_X12_told hP1 qy2
    refine C_S3r dX12_tells_56 w10_87 i_X12_told (Nat.le_of_ble_eq_true rfl) (Nat.le_of_ble_eq_true rfl) (Nat.le_of_ble_eq_true rfl) (cy2) ?_
    have hPy2 := cy2.1.1
    obtain ⟨hb7, h⟩ := okE h
    refine Y_last dX12_tells_59 (lk_117 hPy2) (ln_117 hPy2) hb7 ?_
    obtain ⟨M2, eM2, h⟩ := bndE h
    refine VV.mem eM2 ?_
    have hP2 := hPy2.wL eM2
    refine Y_aload_n (j := 1) dX12_tells_60 rfl rfl ?_
    refine Y_dup dX12_tells_61 rfl ?_
    refine Z_geti dX12_tells_62 w8_125 (lk_69 hP2) fi_12_59 ?_
    refine Y_iconst (v := (1 : Int32)) dX12_tells_65 rfl ?_
    refine Y_iadd dX12_tells_66 ?_
    refine Z_puti dX12_tells_67 w8_125 (lk_69 hP2) fi_12_59 (Or.inl rfl) rfl ?_
    obtain ⟨M3, eM3, h⟩ := bndE h
    refine VV.mem eM3 ?_
    have hP3 := hP2.wI eM3
    refine VV.sub [1] rfl ?_
    exact b_X12_tells_70  hP3 h
theorem v_X12_tells {M z} (hP : Lay M) (h : d_X12_tells M = some z) : CC Lay k_X12_tells [.ref 69] M z.2 (Qv (none) z.2) xF :=
  CC.ofVV (by decide) rfl (Nat.le_of_ble_eq_true rfl) (b_X12_tells hP h)
noncomputable def d_X12_made_64 (x1 : Int32) (x2 : Int32) (s0 : Int32) (M : Mem) : Option (Int32 × Mem) :=
  if x1 = 0 then (
    okk (vp_in x2 600) <|
    bnd (sI M 126 x2.toNatClampNeg (0 : Int32)) fun M3 =>
    some (x2, M3))
  else (
    if s0 = 0 then (
      okk (vp_in x2 600) <|
      bnd (sI M 126 x2.toNatClampNeg (2 : Int32)) fun M1 =>
      some (x2, M1))
    else (
      okk (vp_in x2 600) <|
      bnd (sI M 126 x2.toNatClampNeg (1 : Int32)) fun M2 =>
      some (x2, M2)))
theorem b_X12_made_64 {x1 : Int32} {x2 : Int32} {s0 : Int32} {M z} (hP : Lay M) (h : d_X12_made_64 x1 x2 s0 M = some z) : VV Lay k_X12_made 64 [(0, .ref 69), (1, .int x1), (2, .int x2)] [.int s0] M z.2 (Qv (some (.int z.1)) z.2) xF := by
  unfold d_X12_made_64 at h
  refine Y_istore_n (lv1 := [(3, .int s0), (0, .ref 69), (1, .int x1), (2, .int x2)]) dX12_made_64 rfl (by decide) rfl ?_
  refine Y_aload_n (j := 1) dX12_made_65 rfl rfl ?_
  refine Z_getr dX12_made_66 w8_153 (lk_69 hP) fr_12_87 (lr_69_87 hP) ?_
  refine Y_iload_n (j := 3) dX12_made_69 rfl rfl ?_
  refine Y_iload_n (j := 2) dX12_made_70 rfl rfl ?_
  refine Y_if_ne (tgt := 78) dX12_made_71 (by decide) (fun hc1 => ?_) (fun hc1 => ?_)
  · replace h := ifF hc1 h
    refine Y_iload_n (j := 0) dX12_made_78 rfl rfl ?_
    refine Y_if_eq (tgt := 86) dX12_made_79 (by decide) (fun hc2 => ?_) (fun hc2 => ?_)
    · replace h := ifT hc2 h
      refine Y_iconst (v := (2 : Int32)) dX12_made_86 rfl ?_
      obtain ⟨hb1, h⟩ := okE h
      refine Y_iast dX12_made_87 (lk_126 hP) (ln_126 hP) hb1 ?_
      obtain ⟨M1, eM1, h⟩ := bndE h
      refine VV.mem eM1 ?_
      have hP1 := hP.wI eM1
      refine Y_iload_n (j := 3) dX12_made_88 rfl rfl ?_
      cases h
      exact Y_iret rfl rfl dX12_made_89 hP1 ⟨rfl, rfl⟩
    · replace h := ifF hc2 h
      refine Y_iconst (v := (1 : Int32)) dX12_made_82 rfl ?_
      refine Y_goto (tgt := 87) dX12_made_83 (by decide) ?_
      obtain ⟨hb2, h⟩ := okE h
      refine Y_iast dX12_made_87 (lk_126 hP) (ln_126 hP) hb2 ?_
      obtain ⟨M2, eM2, h⟩ := bndE h
      refine VV.mem eM2 ?_
      have hP2 := hP.wI eM2
      refine Y_iload_n (j := 3) dX12_made_88 rfl rfl ?_
      cases h
      exact Y_iret rfl rfl dX12_made_89 hP2 ⟨rfl, rfl⟩
  · replace h := ifT hc1 h
    refine Y_iconst (v := (0 : Int32)) dX12_made_74 rfl ?_
    refine Y_goto (tgt := 87) dX12_made_75 (by decide) ?_
    obtain ⟨hb3, h⟩ := okE h
    refine Y_iast dX12_made_87 (lk_126 hP) (ln_126 hP) hb3 ?_
    obtain ⟨M3, eM3, h⟩ := bndE h
    refine VV.mem eM3 ?_
    have hP3 := hP.wI eM3
    refine Y_iload_n (j := 3) dX12_made_88 rfl rfl ?_
    cases h
    exact Y_iret rfl rfl dX12_made_89 hP3 ⟨rfl, rfl⟩
noncomputable def d_X12_made_63 (x1 : Int32) (x2 : Int32) (M : Mem) : Option (Int32 × Mem) :=
  d_X12_made_64 x1 x2 (0 : Int32) M
theorem b_X12_made_63 {x1 : Int32} {x2 : Int32} {M z} (hP : Lay M) (h : d_X12_made_63 x1 x2 M = some z) : VV Lay k_X12_made 63 [(0, .ref 69), (1, .int x1), (2, .int x2)] [] M z.2 (Qv (some (.int z.1)) z.2) xF := by
  unfold d_X12_made_63 at h
  refine Y_iconst (v := (0 : Int32)) dX12_made_63 rfl ?_
  refine VV.sub [0, 1, 2] rfl ?_
  exact b_X12_made_64  hP h
noncomputable def d_X12_made_59 (x1 : Int32) (x2 : Int32) (M : Mem) : Option (Int32 × Mem) :=
  d_X12_made_64 x1 x2 (1 : Int32) M
theorem b_X12_made_59 {x1 : Int32} {x2 : Int32} {M z} (hP : Lay M) (h : d_X12_made_59 x1 x2 M = some z) : VV Lay k_X12_made 59 [(0, .ref 69), (1, .int x1), (2, .int x2)] [] M z.2 (Qv (some (.int z.1)) z.2) xF := by
  unfold d_X12_made_59 at h
  refine Y_iconst (v := (1 : Int32)) dX12_made_59 rfl ?_
  refine Y_goto (tgt := 64) dX12_made_60 (by decide) ?_
  refine VV.sub [0, 1, 2] rfl ?_
  exact b_X12_made_64  hP h
noncomputable def d_X12_made_41 (x1 : Int32) (x2 : Int32) (M : Mem) : Option (Int32 × Mem) :=
  if (mI M 69 88) = (102 : Int32) then (
    if (Op.cmpValue (FP.dcmp (mD M 69 90) FP.dconst0) .l) = 0 then (
      d_X12_made_59 x1 x2 M)
    else (
      d_X12_made_63 x1 x2 M))
  else (
    d_X12_made_63 x1 x2 M)
theorem b_X12_made_41 {x1 : Int32} {x2 : Int32} {M z} (hP : Lay M) (h : d_X12_made_41 x1 x2 M = some z) : VV Lay k_X12_made 41 [(0, .ref 69), (1, .int x1), (2, .int x2)] [] M z.2 (Qv (some (.int z.1)) z.2) xF := by
  unfold d_X12_made_41 at h
  refine Y_aload_n (j := 0) dX12_made_41 rfl rfl ?_
  refine Z_geti dX12_made_42 w8_154 (lk_69 hP) fi_12_88 ?_
  refine Y_bipush (v := (102 : Int32)) dX12_made_45 rfl ?_
  refine Y_icmp_ne (tgt := 63) dX12_made_47 (by decide) (fun hc1 => ?_) (fun hc1 => ?_)
  · replace h := ifF hc1 h
    refine VV.sub [0, 1, 2] rfl ?_
    exact b_X12_made_63  hP h
  · replace h := ifT hc1 h
    refine Y_aload_n (j := 0) dX12_made_50 rfl rfl ?_
    refine Z_getd dX12_made_51 w8_156 (lk_69 hP) fd_12_90 ?_
    refine Y_dconst0 dX12_made_54 ?_
    refine Y_dcmp dX12_made_55 ?_
    refine Y_if_ne (tgt := 63) dX12_made_56 (by decide) (fun hc2 => ?_) (fun hc2 => ?_)
    · replace h := ifF hc2 h
      refine VV.sub [0, 1, 2] rfl ?_
      exact b_X12_made_63  hP h
    · replace h := ifT hc2 h
      refine VV.sub [0, 1, 2] rfl ?_
      exact b_X12_made_59  hP h
noncomputable def d_X12_made (x1 : Int32) (M : Mem) : Option (Int32 × Mem) :=
  if (mI M 69 71) = 0 then (
    some ((0 : Int32), M))
  else (
    (d_X12_valueOf (mI M 69 88) M).bind fun y1 =>
    okk (vp_in y1.1 600) <|
    okk (isBo x1) <|
    bnd (sI y1.2 124 y1.1.toNatClampNeg x1) fun M1 =>
    if (mI M1 69 88) = (105 : Int32) then (
      if (mI M1 69 89) = 0 then (
        d_X12_made_59 x1 y1.1 M1)
      else (
        d_X12_made_41 x1 y1.1 M1))
    else (
      d_X12_made_41 x1 y1.1 M1))
theorem b_X12_made {x1 : Int32} {M z} (hP : Lay M) (h : d_X12_made x1 M = some z) : VV Lay k_X12_made 0 [(0, .ref 69), (1, .int x1)] [] M z.2 (Qv (some (.int z.1)) z.2) xF := by
  unfold d_X12_made at h
  refine Y_aload_n (j := 0) dX12_made_0 rfl rfl ?_
  refine Z_geti dX12_made_1 w8_137 (lk_69 hP) fi_12_71 ?_
  refine Y_if_ne (tgt := 9) dX12_made_4 (by decide) (fun hc1 => ?_) (fun hc1 => ?_)
  · replace h := ifF hc1 h
    refine Y_aload_n (j := 0) dX12_made_9 rfl rfl ?_
    refine Y_aload_n (j := 0) dX12_made_10 rfl rfl ?_
    refine Z_geti dX12_made_11 w8_154 (lk_69 hP) fi_12_88 ?_
    obtain ⟨y1, qy1, h⟩ := bindE h
    have cy1 := v_X12_valueOf hP qy1
    refine C_V1r dX12_made_14 w10_47 i_X12_valueOf (lk_69 hP) ⟨Nat.le_of_ble_eq_true rfl, Nat.le_of_ble_eq_true rfl⟩ rfl (Nat.le_of_ble_eq_true rfl) (Nat.le_of_ble_eq_true rfl) (Nat.le_of_ble_eq_true rfl) (cy1) ?_
    have hPy1 := cy1.1.1
    refine Y_istore_n (lv1 := [(2, .int y1.1), (0, .ref 69), (1, .int x1)]) dX12_made_17 rfl (by decide) rfl ?_
    refine Y_aload_n (j := 1) dX12_made_18 rfl rfl ?_
    refine Z_getr dX12_made_19 w8_151 (lk_69 hPy1) fr_12_85 (lr_69_85 hPy1) ?_
    refine Y_iload_n (j := 0) dX12_made_22 rfl rfl ?_
    refine Y_iload_n (j := 2) dX12_made_23 rfl rfl ?_
    obtain ⟨hb1, h⟩ := okE h
    obtain ⟨hb2, h⟩ := okE h
    refine Y_zast dX12_made_24 (lk_124 hPy1) (ln_124 hPy1) hb1 (nar_bo hb2) ?_
    obtain ⟨M1, eM1, h⟩ := bndE h
    refine VV.mem eM1 ?_
    have hP1 := hPy1.wI eM1
    refine Y_aload_n (j := 1) dX12_made_25 rfl rfl ?_
    refine Z_geti dX12_made_26 w8_154 (lk_69 hP1) fi_12_88 ?_
    refine Y_bipush (v := (105 : Int32)) dX12_made_29 rfl ?_
    refine Y_icmp_ne (tgt := 41) dX12_made_31 (by decide) (fun hc2 => ?_) (fun hc2 => ?_)
    · replace h := ifF hc2 h
      refine VV.sub [1, 2, 0] rfl ?_
      exact b_X12_made_41  hP1 h
    · replace h := ifT hc2 h
      refine Y_aload_n (j := 1) dX12_made_34 rfl rfl ?_
      refine Z_geti dX12_made_35 w8_155 (lk_69 hP1) fi_12_89 ?_
      refine Y_if_eq (tgt := 59) dX12_made_38 (by decide) (fun hc3 => ?_) (fun hc3 => ?_)
      · replace h := ifT hc3 h
        refine VV.sub [1, 2, 0] rfl ?_
        exact b_X12_made_59  hP1 h
      · replace h := ifF hc3 h
        refine VV.sub [1, 2, 0] rfl ?_
        exact b_X12_made_41  hP1 h
  · replace h := ifT hc1 h
    refine Y_iconst (v := (0 : Int32)) dX12_made_7 rfl ?_
    cases h
    exact Y_iret rfl rfl dX12_made_8 hP ⟨rfl, rfl⟩
theorem v_X12_made {x1 : Int32} {M z} (hP : Lay M) (h : d_X12_made x1 M = some z) : CC Lay k_X12_made [.ref 69, .int x1] M z.2 (Qv (some (.int z.1)) z.2) xF :=
  CC.ofVV (by decide) rfl (Nat.le_of_ble_eq_true rfl) (b_X12_made hP h)
noncomputable def d_X12_reckonsOn_194 (x2 : Int32) (M : Mem) : Option (Unit × Mem) :=
  (d_X12_pushes x2 M).bind fun y1 =>
  okk (vp_in (mI y1.2 69 48) 12) <|
  okk (vp_in (mI y1.2 69 48) 12) <|
  bnd (sI y1.2 110 (mI y1.2 69 48).toNatClampNeg ((mI y1.2 110 (mI y1.2 69 48).toNatClampNeg) + (1 : Int32))) fun M1 =>
  some ((), M1)
theorem b_X12_reckonsOn_194 {x2 : Int32} {M z} (hP : Lay M) (h : d_X12_reckonsOn_194 x2 M = some z) : VV Lay k_X12_reckonsOn 194 [(0, .ref 69), (2, .int x2)] [] M z.2 (Qv (none) z.2) xF := by
  unfold d_X12_reckonsOn_194 at h
  refine Y_aload_n (j := 0) dX12_reckonsOn_194 rfl rfl ?_
  refine Y_iload_n (j := 1) dX12_reckonsOn_195 rfl rfl ?_
  obtain ⟨y1, qy1, h⟩ := bindE h
  have cy1 := v_X12_pushes hP qy1
  refine C_V1o dX12_reckonsOn_196 w10_51 i_X12_pushes (lk_69 hP) ⟨Nat.le_of_ble_eq_true rfl, Nat.le_of_ble_eq_true rfl⟩ rfl (Nat.le_of_ble_eq_true rfl) (Nat.le_of_ble_eq_true rfl) (Nat.le_of_ble_eq_true rfl) (cy1) ?_
  have hPy1 := cy1.1.1
  refine Y_aload_n (j := 0) dX12_reckonsOn_199 rfl rfl ?_
  refine Z_getr dX12_reckonsOn_200 w8_116 (lk_69 hPy1) fr_12_50 (lr_69_50 hPy1) ?_
  refine Y_aload_n (j := 0) dX12_reckonsOn_203 rfl rfl ?_
  refine Z_geti dX12_reckonsOn_204 w8_114 (lk_69 hPy1) fi_12_48 ?_
  refine Y_dup2 dX12_reckonsOn_207 rfl rfl ?_
  obtain ⟨hb1, h⟩ := okE h
  refine Y_iald dX12_reckonsOn_208 (lk_110 hPy1) (ln_110 hPy1) hb1 ?_
  refine Y_iconst (v := (1 : Int32)) dX12_reckonsOn_209 rfl ?_
  refine Y_iadd dX12_reckonsOn_210 ?_
  obtain ⟨hb2, h⟩ := okE h
  refine Y_iast dX12_reckonsOn_211 (lk_110 hPy1) (ln_110 hPy1) hb2 ?_
  obtain ⟨M1, eM1, h⟩ := bndE h
  refine VV.mem eM1 ?_
  have hP1 := hPy1.wI eM1
  cases h
  exact Y_vret rfl dX12_reckonsOn_212 hP1 ⟨rfl, rfl⟩
noncomputable def d_X12_reckonsOn_171 (x3 : Int32) (s1 : Int32) (s2 : Int32) (M : Mem) : Option (Unit × Mem) :=
  (d_X12_gives s1 s2 FP.dconst0 M).bind fun y1 =>
  okk (vp_in (mI y1.2 69 48) 12) <|
  okk (vp_in (mI y1.2 69 48) 12) <|
  bnd (sI y1.2 111 (mI y1.2 69 48).toNatClampNeg ((mI y1.2 111 (mI y1.2 69 48).toNatClampNeg) - (1 : Int32))) fun M1 =>
  (d_X12_made x3 M1).bind fun y2 =>
  d_X12_reckonsOn_194 y2.1 y2.2
theorem b_X12_reckonsOn_171 {x3 : Int32} {s1 : Int32} {s2 : Int32} {M z} (hP : Lay M) (h : d_X12_reckonsOn_171 x3 s1 s2 M = some z) : VV Lay k_X12_reckonsOn 171 [(0, .ref 69), (3, .int x3)] [.int s2, .int s1, .ref 69] M z.2 (Qv (none) z.2) xF := by
  unfold d_X12_reckonsOn_171 at h
  refine Y_dconst0 dX12_reckonsOn_171 ?_
  obtain ⟨y1, qy1, h⟩ := bindE h
  have cy1 := v_X12_gives hP qy1
  refine C_V3o dX12_reckonsOn_172 w10_17 i_X12_gives (lk_69 hP) ⟨Nat.le_of_ble_eq_true rfl, Nat.le_of_ble_eq_true rfl⟩ rfl (Nat.le_of_ble_eq_true rfl) (Nat.le_of_ble_eq_true rfl) (Nat.le_of_ble_eq_true rfl) (cy1) ?_
  have hPy1 := cy1.1.1
  refine Y_aload_n (j := 0) dX12_reckonsOn_175 rfl rfl ?_
  refine Z_getr dX12_reckonsOn_176 w8_117 (lk_69 hPy1) fr_12_51 (lr_69_51 hPy1) ?_
  refine Y_aload_n (j := 0) dX12_reckonsOn_179 rfl rfl ?_
  refine Z_geti dX12_reckonsOn_180 w8_114 (lk_69 hPy1) fi_12_48 ?_
  refine Y_dup2 dX12_reckonsOn_183 rfl rfl ?_
  obtain ⟨hb1, h⟩ := okE h
  refine Y_iald dX12_reckonsOn_184 (lk_111 hPy1) (ln_111 hPy1) hb1 ?_
  refine Y_iconst (v := (1 : Int32)) dX12_reckonsOn_185 rfl ?_
  refine Y_isub dX12_reckonsOn_186 ?_
  obtain ⟨hb2, h⟩ := okE h
  refine Y_iast dX12_reckonsOn_187 (lk_111 hPy1) (ln_111 hPy1) hb2 ?_
  obtain ⟨M1, eM1, h⟩ := bndE h
  refine VV.mem eM1 ?_
  have hP1 := hPy1.wI eM1
  refine Y_aload_n (j := 0) dX12_reckonsOn_188 rfl rfl ?_
  refine Y_iload_n (j := 1) dX12_reckonsOn_189 rfl rfl ?_
  obtain ⟨y2, qy2, h⟩ := bindE h
  have cy2 := v_X12_made hP1 qy2
  refine C_V1r dX12_reckonsOn_190 w10_43 i_X12_made (lk_69 hP1) ⟨Nat.le_of_ble_eq_true rfl, Nat.le_of_ble_eq_true rfl⟩ rfl (Nat.le_of_ble_eq_true rfl) (Nat.le_of_ble_eq_true rfl) (Nat.le_of_ble_eq_true rfl) (cy2) ?_
  have hPy2 := cy2.1.1
  refine Y_istore_n (lv1 := [(2, .int y2.1), (0, .ref 69), (3, .int x3)]) dX12_reckonsOn_193 rfl (by decide) rfl ?_
  refine VV.sub [1, 0] rfl ?_
  exact b_X12_reckonsOn_194  hPy2 h
noncomputable def d_X12_reckonsOn_125 (s0 : Int32) (M : Mem) : Option (Unit × Mem) :=
  (d_X12_top (0 : Int32) M).bind fun y1 =>
  okk (vp_in y1.1 168) <|
  if (mI y1.2 105 y1.1.toNatClampNeg) = (105 : Int32) then (
    (d_X12_top (0 : Int32) y1.2).bind fun y4 =>
    okk (vp_in y4.1 168) <|
    d_X12_reckonsOn_171 s0 (105 : Int32) (mI y4.2 106 y4.1.toNatClampNeg) y4.2)
  else (
    (d_X12_top (0 : Int32) y1.2).bind fun y2 =>
    okk (vp_in y2.1 168) <|
    (d_X12_rounded (mD y2.2 107 y2.1.toNatClampNeg) y2.2).bind fun y3 =>
    d_X12_reckonsOn_171 s0 (105 : Int32) (FP.d2i y3.1) y3.2)
theorem b_X12_reckonsOn_125 {s0 : Int32} {M z} (hP : Lay M) (h : d_X12_reckonsOn_125 s0 M = some z) : VV Lay k_X12_reckonsOn 125 [(0, .ref 69)] [.int s0] M z.2 (Qv (none) z.2) xF := by
  unfold d_X12_reckonsOn_125 at h
  refine Y_istore_n (lv1 := [(3, .int s0), (0, .ref 69)]) dX12_reckonsOn_125 rfl (by decide) rfl ?_
  refine Y_aload_n (j := 1) dX12_reckonsOn_126 rfl rfl ?_
  refine Y_bipush (v := (105 : Int32)) dX12_reckonsOn_127 rfl ?_
  refine Y_aload_n (j := 1) dX12_reckonsOn_129 rfl rfl ?_
  refine Z_getr dX12_reckonsOn_130 w8_110 (lk_69 hP) fr_12_44 (lr_69_44 hP) ?_
  refine Y_aload_n (j := 1) dX12_reckonsOn_133 rfl rfl ?_
  refine Y_iconst (v := (0 : Int32)) dX12_reckonsOn_134 rfl ?_
  obtain ⟨y1, qy1, h⟩ := bindE h
  have cy1 := v_X12_top hP qy1
  refine C_V1r dX12_reckonsOn_135 w9_200 i_X12_top (lk_69 hP) ⟨Nat.le_of_ble_eq_true rfl, Nat.le_of_ble_eq_true rfl⟩ rfl (Nat.le_of_ble_eq_true rfl) (Nat.le_of_ble_eq_true rfl) (Nat.le_of_ble_eq_true rfl) (cy1) ?_
  have hPy1 := cy1.1.1
  obtain ⟨hb1, h⟩ := okE h
  refine Y_cald dX12_reckonsOn_138 (lk_105 hPy1) (ln_105 hPy1) hb1 ?_
  refine Y_bipush (v := (105 : Int32)) dX12_reckonsOn_139 rfl ?_
  refine Y_icmp_ne (tgt := 157) dX12_reckonsOn_141 (by decide) (fun hc1 => ?_) (fun hc1 => ?_)
  · replace h := ifF hc1 h
    refine Y_aload_n (j := 1) dX12_reckonsOn_157 rfl rfl ?_
    refine Z_getr dX12_reckonsOn_158 w8_112 (lk_69 hPy1) fr_12_46 (lr_69_46 hPy1) ?_
    refine Y_aload_n (j := 1) dX12_reckonsOn_161 rfl rfl ?_
    refine Y_iconst (v := (0 : Int32)) dX12_reckonsOn_162 rfl ?_
    obtain ⟨y2, qy2, h⟩ := bindE h
    have cy2 := v_X12_top hPy1 qy2
    refine C_V1r dX12_reckonsOn_163 w9_200 i_X12_top (lk_69 hPy1) ⟨Nat.le_of_ble_eq_true rfl, Nat.le_of_ble_eq_true rfl⟩ rfl (Nat.le_of_ble_eq_true rfl) (Nat.le_of_ble_eq_true rfl) (Nat.le_of_ble_eq_true rfl) (cy2) ?_
    have hPy2 := cy2.1.1
    obtain ⟨hb2, h⟩ := okE h
    refine Y_dald dX12_reckonsOn_166 (lk_107 hPy2) (ln_107 hPy2) hb2 ?_
    obtain ⟨y3, qy3, h⟩ := bindE h
    have cy3 := v_X12_rounded hPy2 qy3
    refine C_S1r dX12_reckonsOn_167 w9_207 i_X12_rounded (Nat.le_of_ble_eq_true rfl) (Nat.le_of_ble_eq_true rfl) (Nat.le_of_ble_eq_true rfl) (cy3) ?_
    have hPy3 := cy3.1.1
    refine Y_d2i dX12_reckonsOn_170 ?_
    refine VV.sub [1, 0] rfl ?_
    exact b_X12_reckonsOn_171  hPy3 h
  · replace h := ifT hc1 h
    refine Y_aload_n (j := 1) dX12_reckonsOn_144 rfl rfl ?_
    refine Z_getr dX12_reckonsOn_145 w8_111 (lk_69 hPy1) fr_12_45 (lr_69_45 hPy1) ?_
    refine Y_aload_n (j := 1) dX12_reckonsOn_148 rfl rfl ?_
    refine Y_iconst (v := (0 : Int32)) dX12_reckonsOn_149 rfl ?_
    obtain ⟨y4, qy4, h⟩ := bindE h
    have cy4 := v_X12_top hPy1 qy4
    refine C_V1r dX12_reckonsOn_150 w9_200 i_X12_top (lk_69 hPy1) ⟨Nat.le_of_ble_eq_true rfl, Nat.le_of_ble_eq_true rfl⟩ rfl (Nat.le_of_ble_eq_true rfl) (Nat.le_of_ble_eq_true rfl) (Nat.le_of_ble_eq_true rfl) (cy4) ?_
    have hPy4 := cy4.1.1
    obtain ⟨hb3, h⟩ := okE h
    refine Y_iald dX12_reckonsOn_153 (lk_106 hPy4) (ln_106 hPy4) hb3 ?_
    refine Y_goto (tgt := 171) dX12_reckonsOn_154 (by decide) ?_
    refine VV.sub [1, 0] rfl ?_
    exact b_X12_reckonsOn_171  hPy4 h
noncomputable def d_X12_reckonsOn_124 (M : Mem) : Option (Unit × Mem) :=
  d_X12_reckonsOn_125 (0 : Int32) M
theorem b_X12_reckonsOn_124 {M z} (hP : Lay M) (h : d_X12_reckonsOn_124 M = some z) : VV Lay k_X12_reckonsOn 124 [(0, .ref 69)] [] M z.2 (Qv (none) z.2) xF := by
  unfold d_X12_reckonsOn_124 at h
  refine Y_iconst (v := (0 : Int32)) dX12_reckonsOn_124 rfl ?_
  refine VV.sub [0] rfl ?_
  exact b_X12_reckonsOn_125  hP h
noncomputable def d_X12_reckonsOn_57 (x1 : Int32) (s0 : Int32) (M : Mem) : Option (Unit × Mem) :=
  (d_X12_top (1 : Int32) M).bind fun y1 =>
  (d_X12_top (0 : Int32) y1.2).bind fun y2 =>
  (d_X12_reckons x1 y1.1 y2.1 y2.2).bind fun y3 =>
  okk (vp_in (mI y3.2 69 48) 12) <|
  okk (vp_in (mI y3.2 69 48) 12) <|
  bnd (sI y3.2 111 (mI y3.2 69 48).toNatClampNeg ((mI y3.2 111 (mI y3.2 69 48).toNatClampNeg) - (2 : Int32))) fun M1 =>
  (d_X12_made s0 M1).bind fun y4 =>
  d_X12_reckonsOn_194 y4.1 y4.2
theorem b_X12_reckonsOn_57 {x1 : Int32} {s0 : Int32} {M z} (hP : Lay M) (h : d_X12_reckonsOn_57 x1 s0 M = some z) : VV Lay k_X12_reckonsOn 57 [(0, .ref 69), (1, .int x1)] [.int s0] M z.2 (Qv (none) z.2) xF := by
  unfold d_X12_reckonsOn_57 at h
  refine Y_istore_n (lv1 := [(3, .int s0), (0, .ref 69), (1, .int x1)]) dX12_reckonsOn_57 rfl (by decide) rfl ?_
  refine Y_aload_n (j := 1) dX12_reckonsOn_58 rfl rfl ?_
  refine Y_iload_n (j := 2) dX12_reckonsOn_59 rfl rfl ?_
  refine Y_aload_n (j := 1) dX12_reckonsOn_60 rfl rfl ?_
  refine Y_iconst (v := (1 : Int32)) dX12_reckonsOn_61 rfl ?_
  obtain ⟨y1, qy1, h⟩ := bindE h
  have cy1 := v_X12_top hP qy1
  refine C_V1r dX12_reckonsOn_62 w9_200 i_X12_top (lk_69 hP) ⟨Nat.le_of_ble_eq_true rfl, Nat.le_of_ble_eq_true rfl⟩ rfl (Nat.le_of_ble_eq_true rfl) (Nat.le_of_ble_eq_true rfl) (Nat.le_of_ble_eq_true rfl) (cy1) ?_
  have hPy1 := cy1.1.1
  refine Y_aload_n (j := 1) dX12_reckonsOn_65 rfl rfl ?_
  refine Y_iconst (v := (0 : Int32)) dX12_reckonsOn_66 rfl ?_
  obtain ⟨y2, qy2, h⟩ := bindE h
  have cy2 := v_X12_top hPy1 qy2
  refine C_V1r dX12_reckonsOn_67 w9_200 i_X12_top (lk_69 hPy1) ⟨Nat.le_of_ble_eq_true rfl, Nat.le_of_ble_eq_true rfl⟩ rfl (Nat.le_of_ble_eq_true rfl) (Nat.le_of_ble_eq_true rfl) (Nat.le_of_ble_eq_true rfl) (cy2) ?_
  have hPy2 := cy2.1.1
  obtain ⟨y3, qy3, h⟩ := bindE h
  have cy3 := v_X12_reckons hPy2 qy3
  refine C_V3o dX12_reckonsOn_70 w10_9 i_X12_reckons (lk_69 hPy2) ⟨Nat.le_of_ble_eq_true rfl, Nat.le_of_ble_eq_true rfl⟩ rfl (Nat.le_of_ble_eq_true rfl) (Nat.le_of_ble_eq_true rfl) (Nat.le_of_ble_eq_true rfl) (cy3) ?_
  have hPy3 := cy3.1.1
  refine Y_aload_n (j := 1) dX12_reckonsOn_73 rfl rfl ?_
  refine Z_getr dX12_reckonsOn_74 w8_117 (lk_69 hPy3) fr_12_51 (lr_69_51 hPy3) ?_
  refine Y_aload_n (j := 1) dX12_reckonsOn_77 rfl rfl ?_
  refine Z_geti dX12_reckonsOn_78 w8_114 (lk_69 hPy3) fi_12_48 ?_
  refine Y_dup2 dX12_reckonsOn_81 rfl rfl ?_
  obtain ⟨hb1, h⟩ := okE h
  refine Y_iald dX12_reckonsOn_82 (lk_111 hPy3) (ln_111 hPy3) hb1 ?_
  refine Y_iconst (v := (2 : Int32)) dX12_reckonsOn_83 rfl ?_
  refine Y_isub dX12_reckonsOn_84 ?_
  obtain ⟨hb2, h⟩ := okE h
  refine Y_iast dX12_reckonsOn_85 (lk_111 hPy3) (ln_111 hPy3) hb2 ?_
  obtain ⟨M1, eM1, h⟩ := bndE h
  refine VV.mem eM1 ?_
  have hP1 := hPy3.wI eM1
  refine Y_aload_n (j := 1) dX12_reckonsOn_86 rfl rfl ?_
  refine Y_iload_n (j := 0) dX12_reckonsOn_87 rfl rfl ?_
  obtain ⟨y4, qy4, h⟩ := bindE h
  have cy4 := v_X12_made hP1 qy4
  refine C_V1r dX12_reckonsOn_88 w10_43 i_X12_made (lk_69 hP1) ⟨Nat.le_of_ble_eq_true rfl, Nat.le_of_ble_eq_true rfl⟩ rfl (Nat.le_of_ble_eq_true rfl) (Nat.le_of_ble_eq_true rfl) (Nat.le_of_ble_eq_true rfl) (cy4) ?_
  have hPy4 := cy4.1.1
  refine Y_istore_n (lv1 := [(2, .int y4.1), (3, .int s0), (0, .ref 69), (1, .int x1)]) dX12_reckonsOn_91 rfl (by decide) rfl ?_
  refine Y_goto (tgt := 194) dX12_reckonsOn_92 (by decide) ?_
  refine VV.sub [2, 0] rfl ?_
  exact b_X12_reckonsOn_194  hPy4 h
noncomputable def d_X12_reckonsOn_56 (x1 : Int32) (M : Mem) : Option (Unit × Mem) :=
  d_X12_reckonsOn_57 x1 (0 : Int32) M
theorem b_X12_reckonsOn_56 {x1 : Int32} {M z} (hP : Lay M) (h : d_X12_reckonsOn_56 x1 M = some z) : VV Lay k_X12_reckonsOn 56 [(0, .ref 69), (1, .int x1)] [] M z.2 (Qv (none) z.2) xF := by
  unfold d_X12_reckonsOn_56 at h
  refine Y_iconst (v := (0 : Int32)) dX12_reckonsOn_56 rfl ?_
  refine VV.sub [0, 1] rfl ?_
  exact b_X12_reckonsOn_57  hP h
noncomputable def d_X12_reckonsOn (x1 : Int32) (M : Mem) : Option (Unit × Mem) :=
  (d_X12_isPair x1 M).bind fun y1 =>
  if y1.1 = 0 then (
    if (mI y1.2 69 71) = 0 then (
      d_X12_reckonsOn_124 y1.2)
    else (
      (d_X12_top (0 : Int32) y1.2).bind fun y2 =>
      okk (vp_in y2.1 168) <|
      okk (vp_in (mI y2.2 108 y2.1.toNatClampNeg) 600) <|
      if (mI y2.2 124 (mI y2.2 108 y2.1.toNatClampNeg).toNatClampNeg) = 0 then (
        d_X12_reckonsOn_124 y2.2)
      else (
        d_X12_reckonsOn_125 (1 : Int32) y2.2)))
  else (
    if (mI y1.2 69 71) = 0 then (
      d_X12_reckonsOn_56 x1 y1.2)
    else (
      (d_X12_top (1 : Int32) y1.2).bind fun y3 =>
      okk (vp_in y3.1 168) <|
      okk (vp_in (mI y3.2 108 y3.1.toNatClampNeg) 600) <|
      if (mI y3.2 124 (mI y3.2 108 y3.1.toNatClampNeg).toNatClampNeg) = 0 then (
        d_X12_reckonsOn_56 x1 y3.2)
      else (
        (d_X12_top (0 : Int32) y3.2).bind fun y4 =>
        okk (vp_in y4.1 168) <|
        okk (vp_in (mI y4.2 108 y4.1.toNatClampNeg) 600) <|
        if (mI y4.2 124 (mI y4.2 108 y4.1.toNatClampNeg).toNatClampNeg) = 0 then (
          d_X12_reckonsOn_56 x1 y4.2)
        else (
          d_X12_reckonsOn_57 x1 (1 : Int32) y4.2))))
theorem b_X12_reckonsOn {x1 : Int32} {M z} (hP : Lay M) (h : d_X12_reckonsOn x1 M = some z) : VV Lay k_X12_reckonsOn 0 [(0, .ref 69), (1, .int x1)] [] M z.2 (Qv (none) z.2) xF := by
  unfold d_X12_reckonsOn at h
  refine Y_iconst (v := (0 : Int32)) dX12_reckonsOn_0 rfl ?_
  refine Y_istore_n (lv1 := [(2, .int (0 : Int32)), (0, .ref 69), (1, .int x1)]) dX12_reckonsOn_1 rfl (by decide) rfl ?_
  refine Y_iload_n (j := 2) dX12_reckonsOn_2 rfl rfl ?_
  obtain ⟨y1, qy1, h⟩ := bindE h
  have cy1 := v_X12_isPair hP qy1
  refine C_S1r dX12_reckonsOn_3 w9_129 i_X12_isPair (Nat.le_of_ble_eq_true rfl) (Nat.le_of_ble_eq_true rfl) (Nat.le_of_ble_eq_true rfl) (cy1) ?_
  have hPy1 := cy1.1.1
  refine Y_if_eq (tgt := 95) dX12_reckonsOn_6 (by decide) (fun hc1 => ?_) (fun hc1 => ?_)
  · replace h := ifT hc1 h
    refine Y_aload_n (j := 1) dX12_reckonsOn_95 rfl rfl ?_
    refine Z_geti dX12_reckonsOn_96 w8_137 (lk_69 hPy1) fi_12_71 ?_
    refine Y_if_eq (tgt := 124) dX12_reckonsOn_99 (by decide) (fun hc2 => ?_) (fun hc2 => ?_)
    · replace h := ifT hc2 h
      refine VV.sub [1] rfl ?_
      exact b_X12_reckonsOn_124  hPy1 h
    · replace h := ifF hc2 h
      refine Y_aload_n (j := 1) dX12_reckonsOn_102 rfl rfl ?_
      refine Z_getr dX12_reckonsOn_103 w8_151 (lk_69 hPy1) fr_12_85 (lr_69_85 hPy1) ?_
      refine Y_aload_n (j := 1) dX12_reckonsOn_106 rfl rfl ?_
      refine Z_getr dX12_reckonsOn_107 w8_113 (lk_69 hPy1) fr_12_47 (lr_69_47 hPy1) ?_
      refine Y_aload_n (j := 1) dX12_reckonsOn_110 rfl rfl ?_
      refine Y_iconst (v := (0 : Int32)) dX12_reckonsOn_111 rfl ?_
      obtain ⟨y2, qy2, h⟩ := bindE h
      have cy2 := v_X12_top hPy1 qy2
      refine C_V1r dX12_reckonsOn_112 w9_200 i_X12_top (lk_69 hPy1) ⟨Nat.le_of_ble_eq_true rfl, Nat.le_of_ble_eq_true rfl⟩ rfl (Nat.le_of_ble_eq_true rfl) (Nat.le_of_ble_eq_true rfl) (Nat.le_of_ble_eq_true rfl) (cy2) ?_
      have hPy2 := cy2.1.1
      obtain ⟨hb1, h⟩ := okE h
      refine Y_iald dX12_reckonsOn_115 (lk_108 hPy2) (ln_108 hPy2) hb1 ?_
      obtain ⟨hb2, h⟩ := okE h
      refine Y_zald dX12_reckonsOn_116 (lk_124 hPy2) (ln_124 hPy2) hb2 ?_
      refine Y_if_eq (tgt := 124) dX12_reckonsOn_117 (by decide) (fun hc3 => ?_) (fun hc3 => ?_)
      · replace h := ifT hc3 h
        refine VV.sub [1] rfl ?_
        exact b_X12_reckonsOn_124  hPy2 h
      · replace h := ifF hc3 h
        refine Y_iconst (v := (1 : Int32)) dX12_reckonsOn_120 rfl ?_
        refine Y_goto (tgt := 125) dX12_reckonsOn_121 (by decide) ?_
        refine VV.sub [1] rfl ?_
        exact b_X12_reckonsOn_125  hPy2 h
  · replace h := ifF hc1 h
    refine Y_aload_n (j := 1) dX12_reckonsOn_9 rfl rfl ?_
    refine Z_geti dX12_reckonsOn_10 w8_137 (lk_69 hPy1) fi_12_71 ?_
    refine Y_if_eq (tgt := 56) dX12_reckonsOn_13 (by decide) (fun hc4 => ?_) (fun hc4 => ?_)
    · replace h := ifT hc4 h
      refine VV.sub [1, 2] rfl ?_
      exact b_X12_reckonsOn_56  hPy1 h
    · replace h := ifF hc4 h
      refine Y_aload_n (j := 1) dX12_reckonsOn_16 rfl rfl ?_
      refine Z_getr dX12_reckonsOn_17 w8_151 (lk_69 hPy1) fr_12_85 (lr_69_85 hPy1) ?_
      refine Y_aload_n (j := 1) dX12_reckonsOn_20 rfl rfl ?_
      refine Z_getr dX12_reckonsOn_21 w8_113 (lk_69 hPy1) fr_12_47 (lr_69_47 hPy1) ?_
      refine Y_aload_n (j := 1) dX12_reckonsOn_24 rfl rfl ?_
      refine Y_iconst (v := (1 : Int32)) dX12_reckonsOn_25 rfl ?_
      obtain ⟨y3, qy3, h⟩ := bindE h
      have cy3 := v_X12_top hPy1 qy3
      refine C_V1r dX12_reckonsOn_26 w9_200 i_X12_top (lk_69 hPy1) ⟨Nat.le_of_ble_eq_true rfl, Nat.le_of_ble_eq_true rfl⟩ rfl (Nat.le_of_ble_eq_true rfl) (Nat.le_of_ble_eq_true rfl) (Nat.le_of_ble_eq_true rfl) (cy3) ?_
      have hPy3 := cy3.1.1
      obtain ⟨hb3, h⟩ := okE h
      refine Y_iald dX12_reckonsOn_29 (lk_108 hPy3) (ln_108 hPy3) hb3 ?_
      obtain ⟨hb4, h⟩ := okE h
      refine Y_zald dX12_reckonsOn_30 (lk_124 hPy3) (ln_124 hPy3) hb4 ?_
      refine Y_if_eq (tgt := 56) dX12_reckonsOn_31 (by decide) (fun hc5 => ?_) (fun hc5 => ?_)
      · replace h := ifT hc5 h
        refine VV.sub [1, 2] rfl ?_
        exact b_X12_reckonsOn_56  hPy3 h
      · replace h := ifF hc5 h
        refine Y_aload_n (j := 1) dX12_reckonsOn_34 rfl rfl ?_
        refine Z_getr dX12_reckonsOn_35 w8_151 (lk_69 hPy3) fr_12_85 (lr_69_85 hPy3) ?_
        refine Y_aload_n (j := 1) dX12_reckonsOn_38 rfl rfl ?_
        refine Z_getr dX12_reckonsOn_39 w8_113 (lk_69 hPy3) fr_12_47 (lr_69_47 hPy3) ?_
        refine Y_aload_n (j := 1) dX12_reckonsOn_42 rfl rfl ?_
        refine Y_iconst (v := (0 : Int32)) dX12_reckonsOn_43 rfl ?_
        obtain ⟨y4, qy4, h⟩ := bindE h
        have cy4 := v_X12_top hPy3 qy4
        refine C_V1r dX12_reckonsOn_44 w9_200 i_X12_top (lk_69 hPy3) ⟨Nat.le_of_ble_eq_true rfl, Nat.le_of_ble_eq_true rfl⟩ rfl (Nat.le_of_ble_eq_true rfl) (Nat.le_of_ble_eq_true rfl) (Nat.le_of_ble_eq_true rfl) (cy4) ?_
        have hPy4 := cy4.1.1
        obtain ⟨hb5, h⟩ := okE h
        refine Y_iald dX12_reckonsOn_47 (lk_108 hPy4) (ln_108 hPy4) hb5 ?_
        obtain ⟨hb6, h⟩ := okE h
        refine Y_zald dX12_reckonsOn_48 (lk_124 hPy4) (ln_124 hPy4) hb6 ?_
        refine Y_if_eq (tgt := 56) dX12_reckonsOn_49 (by decide) (fun hc6 => ?_) (fun hc6 => ?_)
        · replace h := ifT hc6 h
          refine VV.sub [1, 2] rfl ?_
          exact b_X12_reckonsOn_56  hPy4 h
        · replace h := ifF hc6 h
          refine Y_iconst (v := (1 : Int32)) dX12_reckonsOn_52 rfl ?_
          refine Y_goto (tgt := 57) dX12_reckonsOn_53 (by decide) ?_
          refine VV.sub [1, 2] rfl ?_
          exact b_X12_reckonsOn_57  hPy4 h
theorem v_X12_reckonsOn {x1 : Int32} {M z} (hP : Lay M) (h : d_X12_reckonsOn x1 M = some z) : CC Lay k_X12_reckonsOn [.ref 69, .int x1] M z.2 (Qv (none) z.2) xF :=
  CC.ofVV (by decide) rfl (Nat.le_of_ble_eq_true rfl) (b_X12_reckonsOn hP h)
noncomputable def d_X12_makes_61 (x3 : Int32) (M : Mem) : Option (Unit × Mem) :=
  (d_X12_pushes x3 M).bind fun y1 =>
  okk (vp_in (mI y1.2 69 48) 12) <|
  okk (vp_in (mI y1.2 69 48) 12) <|
  bnd (sI y1.2 110 (mI y1.2 69 48).toNatClampNeg ((mI y1.2 110 (mI y1.2 69 48).toNatClampNeg) + (1 : Int32))) fun M1 =>
  some ((), M1)
theorem b_X12_makes_61 {x3 : Int32} {M z} (hP : Lay M) (h : d_X12_makes_61 x3 M = some z) : VV Lay k_X12_makes 61 [(0, .ref 69), (3, .int x3)] [] M z.2 (Qv (none) z.2) xF := by
  unfold d_X12_makes_61 at h
  refine Y_aload_n (j := 0) dX12_makes_61 rfl rfl ?_
  refine Y_iload_n (j := 1) dX12_makes_62 rfl rfl ?_
  obtain ⟨y1, qy1, h⟩ := bindE h
  have cy1 := v_X12_pushes hP qy1
  refine C_V1o dX12_makes_63 w10_51 i_X12_pushes (lk_69 hP) ⟨Nat.le_of_ble_eq_true rfl, Nat.le_of_ble_eq_true rfl⟩ rfl (Nat.le_of_ble_eq_true rfl) (Nat.le_of_ble_eq_true rfl) (Nat.le_of_ble_eq_true rfl) (cy1) ?_
  have hPy1 := cy1.1.1
  refine Y_aload_n (j := 0) dX12_makes_66 rfl rfl ?_
  refine Z_getr dX12_makes_67 w8_116 (lk_69 hPy1) fr_12_50 (lr_69_50 hPy1) ?_
  refine Y_aload_n (j := 0) dX12_makes_70 rfl rfl ?_
  refine Z_geti dX12_makes_71 w8_114 (lk_69 hPy1) fi_12_48 ?_
  refine Y_dup2 dX12_makes_74 rfl rfl ?_
  obtain ⟨hb1, h⟩ := okE h
  refine Y_iald dX12_makes_75 (lk_110 hPy1) (ln_110 hPy1) hb1 ?_
  refine Y_iconst (v := (1 : Int32)) dX12_makes_76 rfl ?_
  refine Y_iadd dX12_makes_77 ?_
  obtain ⟨hb2, h⟩ := okE h
  refine Y_iast dX12_makes_78 (lk_110 hPy1) (ln_110 hPy1) hb2 ?_
  obtain ⟨M1, eM1, h⟩ := bndE h
  refine VV.mem eM1 ?_
  have hP1 := hPy1.wI eM1
  cases h
  exact Y_vret rfl dX12_makes_79 hP1 ⟨rfl, rfl⟩
noncomputable def d_X12_makes (x1 : Int32) (M : Mem) : Option (Unit × Mem) :=
  okk (vp_in x1 5) <|
  bnd ((mI M 78 x1.toNatClampNeg)) fun b1 =>
  okk (vp_in (mI M 69 52) 60) <|
  bnd (sI M 112 (mI M 69 52).toNatClampNeg b1) fun M1 =>
  (d_X12_gives (111 : Int32) (mI M1 69 52) FP.dconst0 M1).bind fun y1 =>
  bnd (sI y1.2 69 52 ((mI y1.2 69 52) + (1 : Int32))) fun M2 =>
  if (mI M2 69 71) = 0 then (
    d_X12_makes_61 (0 : Int32) M2)
  else (
    (d_X12_valueOf (111 : Int32) M2).bind fun y2 =>
    okk (vp_in y2.1 600) <|
    bnd (sI y2.2 125 y2.1.toNatClampNeg b1) fun M3 =>
    d_X12_makes_61 y2.1 M3)
theorem b_X12_makes {x1 : Int32} {M z} (hP : Lay M) (h : d_X12_makes x1 M = some z) : VV Lay k_X12_makes 0 [(0, .ref 69), (1, .int x1)] [] M z.2 (Qv (none) z.2) xF := by
  unfold d_X12_makes at h
  refine Y_aload_n (j := 0) dX12_makes_0 rfl rfl ?_
  refine Z_getr dX12_makes_1 w8_77 (lk_69 hP) fr_12_11 (lr_69_11 hP) ?_
  refine Y_iload_n (j := 1) dX12_makes_4 rfl rfl ?_
  obtain ⟨hb1, h⟩ := okE h
  refine Y_iald dX12_makes_5 (lk_78 hP) (ln_78 hP) hb1 ?_
  obtain ⟨b1, eb1, h⟩ := bndE h
  refine VV.topI eb1 ?_
  refine Y_istore_n (lv1 := [(2, .int b1), (0, .ref 69), (1, .int x1)]) dX12_makes_6 rfl (by decide) rfl ?_
  refine Y_aload_n (j := 1) dX12_makes_7 rfl rfl ?_
  refine Z_getr dX12_makes_8 w8_119 (lk_69 hP) fr_12_53 (lr_69_53 hP) ?_
  refine Y_aload_n (j := 1) dX12_makes_11 rfl rfl ?_
  refine Z_geti dX12_makes_12 w8_118 (lk_69 hP) fi_12_52 ?_
  refine Y_iload_n (j := 0) dX12_makes_15 rfl rfl ?_
  obtain ⟨hb2, h⟩ := okE h
  refine Y_iast dX12_makes_16 (lk_112 hP) (ln_112 hP) hb2 ?_
  obtain ⟨M1, eM1, h⟩ := bndE h
  refine VV.mem eM1 ?_
  have hP1 := hP.wI eM1
  refine Y_aload_n (j := 1) dX12_makes_17 rfl rfl ?_
  refine Y_bipush (v := (111 : Int32)) dX12_makes_18 rfl ?_
  refine Y_aload_n (j := 1) dX12_makes_20 rfl rfl ?_
  refine Z_geti dX12_makes_21 w8_118 (lk_69 hP1) fi_12_52 ?_
  refine Y_dconst0 dX12_makes_24 ?_
  obtain ⟨y1, qy1, h⟩ := bindE h
  have cy1 := v_X12_gives hP1 qy1
  refine C_V3o dX12_makes_25 w10_17 i_X12_gives (lk_69 hP1) ⟨Nat.le_of_ble_eq_true rfl, Nat.le_of_ble_eq_true rfl⟩ rfl (Nat.le_of_ble_eq_true rfl) (Nat.le_of_ble_eq_true rfl) (Nat.le_of_ble_eq_true rfl) (cy1) ?_
  have hPy1 := cy1.1.1
  refine Y_aload_n (j := 1) dX12_makes_28 rfl rfl ?_
  refine Y_dup dX12_makes_29 rfl ?_
  refine Z_geti dX12_makes_30 w8_118 (lk_69 hPy1) fi_12_52 ?_
  refine Y_iconst (v := (1 : Int32)) dX12_makes_33 rfl ?_
  refine Y_iadd dX12_makes_34 ?_
  refine Z_puti dX12_makes_35 w8_118 (lk_69 hPy1) fi_12_52 (Or.inl rfl) rfl ?_
  obtain ⟨M2, eM2, h⟩ := bndE h
  refine VV.mem eM2 ?_
  have hP2 := hPy1.wI eM2
  refine Y_iconst (v := (0 : Int32)) dX12_makes_38 rfl ?_
  refine Y_istore_n (lv1 := [(3, .int (0 : Int32)), (2, .int b1), (0, .ref 69), (1, .int x1)]) dX12_makes_39 rfl (by decide) rfl ?_
  refine Y_aload_n (j := 2) dX12_makes_40 rfl rfl ?_
  refine Z_geti dX12_makes_41 w8_137 (lk_69 hP2) fi_12_71 ?_
  refine Y_if_eq (tgt := 61) dX12_makes_44 (by decide) (fun hc1 => ?_) (fun hc1 => ?_)
  · replace h := ifT hc1 h
    refine VV.sub [2, 0] rfl ?_
    exact b_X12_makes_61  hP2 h
  · replace h := ifF hc1 h
    refine Y_aload_n (j := 2) dX12_makes_47 rfl rfl ?_
    refine Y_bipush (v := (111 : Int32)) dX12_makes_48 rfl ?_
    obtain ⟨y2, qy2, h⟩ := bindE h
    have cy2 := v_X12_valueOf hP2 qy2
    refine C_V1r dX12_makes_50 w10_47 i_X12_valueOf (lk_69 hP2) ⟨Nat.le_of_ble_eq_true rfl, Nat.le_of_ble_eq_true rfl⟩ rfl (Nat.le_of_ble_eq_true rfl) (Nat.le_of_ble_eq_true rfl) (Nat.le_of_ble_eq_true rfl) (cy2) ?_
    have hPy2 := cy2.1.1
    refine Y_istore_n (lv1 := [(3, .int y2.1), (2, .int b1), (0, .ref 69), (1, .int x1)]) dX12_makes_53 rfl (by decide) rfl ?_
    refine Y_aload_n (j := 2) dX12_makes_54 rfl rfl ?_
    refine Z_getr dX12_makes_55 w8_152 (lk_69 hPy2) fr_12_86 (lr_69_86 hPy2) ?_
    refine Y_iload_n (j := 0) dX12_makes_58 rfl rfl ?_
    refine Y_iload_n (j := 1) dX12_makes_59 rfl rfl ?_
    obtain ⟨hb3, h⟩ := okE h
    refine Y_iast dX12_makes_60 (lk_125 hPy2) (ln_125 hPy2) hb3 ?_
    obtain ⟨M3, eM3, h⟩ := bndE h
    refine VV.mem eM3 ?_
    have hP3 := hPy2.wI eM3
    refine VV.sub [2, 0] rfl ?_
    exact b_X12_makes_61  hP3 h
theorem v_X12_makes {x1 : Int32} {M z} (hP : Lay M) (h : d_X12_makes x1 M = some z) : CC Lay k_X12_makes [.ref 69, .int x1] M z.2 (Qv (none) z.2) xF :=
  CC.ofVV (by decide) rfl (Nat.le_of_ble_eq_true rfl) (b_X12_makes hP h)
noncomputable def d_X12_fetches_77 (s1 : Int32) (M : Mem) : Option (Unit × Mem) :=
  (d_X12_pushes s1 M).bind fun y1 =>
  okk (vp_in (mI y1.2 69 48) 12) <|
  okk (vp_in (mI y1.2 69 48) 12) <|
  bnd (sI y1.2 110 (mI y1.2 69 48).toNatClampNeg ((mI y1.2 110 (mI y1.2 69 48).toNatClampNeg) + (1 : Int32))) fun M1 =>
  some ((), M1)
theorem b_X12_fetches_77 {s1 : Int32} {M z} (hP : Lay M) (h : d_X12_fetches_77 s1 M = some z) : VV Lay k_X12_fetches 77 [(0, .ref 69)] [.int s1, .ref 69] M z.2 (Qv (none) z.2) xF := by
  unfold d_X12_fetches_77 at h
  obtain ⟨y1, qy1, h⟩ := bindE h
  have cy1 := v_X12_pushes hP qy1
  refine C_V1o dX12_fetches_77 w10_51 i_X12_pushes (lk_69 hP) ⟨Nat.le_of_ble_eq_true rfl, Nat.le_of_ble_eq_true rfl⟩ rfl (Nat.le_of_ble_eq_true rfl) (Nat.le_of_ble_eq_true rfl) (Nat.le_of_ble_eq_true rfl) (cy1) ?_
  have hPy1 := cy1.1.1
  refine Y_aload_n (j := 0) dX12_fetches_80 rfl rfl ?_
  refine Z_getr dX12_fetches_81 w8_116 (lk_69 hPy1) fr_12_50 (lr_69_50 hPy1) ?_
  refine Y_aload_n (j := 0) dX12_fetches_84 rfl rfl ?_
  refine Z_geti dX12_fetches_85 w8_114 (lk_69 hPy1) fi_12_48 ?_
  refine Y_dup2 dX12_fetches_88 rfl rfl ?_
  obtain ⟨hb1, h⟩ := okE h
  refine Y_iald dX12_fetches_89 (lk_110 hPy1) (ln_110 hPy1) hb1 ?_
  refine Y_iconst (v := (1 : Int32)) dX12_fetches_90 rfl ?_
  refine Y_iadd dX12_fetches_91 ?_
  obtain ⟨hb2, h⟩ := okE h
  refine Y_iast dX12_fetches_92 (lk_110 hPy1) (ln_110 hPy1) hb2 ?_
  obtain ⟨M1, eM1, h⟩ := bndE h
  refine VV.mem eM1 ?_
  have hP1 := hPy1.wI eM1
  cases h
  exact Y_vret rfl dX12_fetches_93 hP1 ⟨rfl, rfl⟩
noncomputable def d_X12_fetches (x1 : Int32) (M : Mem) : Option (Unit × Mem) :=
  (d_X12_top (0 : Int32) M).bind fun y1 =>
  okk (vp_in y1.1 168) <|
  bnd ((mI y1.2 106 y1.1.toNatClampNeg)) fun b1 =>
  okk (vp_in (((6 : Int32) * b1) + x1) 360) <|
  okk (vp_in (((6 : Int32) * b1) + x1) 360) <|
  okk (vp_in (((6 : Int32) * b1) + x1) 360) <|
  (d_X12_gives (mI y1.2 113 (((6 : Int32) * b1) + x1).toNatClampNeg) (mI y1.2 114 (((6 : Int32) * b1) + x1).toNatClampNeg) (mD y1.2 115 (((6 : Int32) * b1) + x1).toNatClampNeg) y1.2).bind fun y2 =>
  okk (vp_in (mI y2.2 69 48) 12) <|
  okk (vp_in (mI y2.2 69 48) 12) <|
  bnd (sI y2.2 111 (mI y2.2 69 48).toNatClampNeg ((mI y2.2 111 (mI y2.2 69 48).toNatClampNeg) - (1 : Int32))) fun M1 =>
  if (mI M1 69 71) = 0 then (
    d_X12_fetches_77 (0 : Int32) M1)
  else (
    (d_X12_newValue M1).bind fun y3 =>
    d_X12_fetches_77 y3.1 y3.2)
theorem b_X12_fetches {x1 : Int32} {M z} (hP : Lay M) (h : d_X12_fetches x1 M = some z) : VV Lay k_X12_fetches 0 [(0, .ref 69), (1, .int x1)] [] M z.2 (Qv (none) z.2) xF := by
  unfold d_X12_fetches at h
  refine Y_aload_n (j := 0) dX12_fetches_0 rfl rfl ?_
  refine Z_getr dX12_fetches_1 w8_111 (lk_69 hP) fr_12_45 (lr_69_45 hP) ?_
  refine Y_aload_n (j := 0) dX12_fetches_4 rfl rfl ?_
  refine Y_iconst (v := (0 : Int32)) dX12_fetches_5 rfl ?_
  obtain ⟨y1, qy1, h⟩ := bindE h
  have cy1 := v_X12_top hP qy1
  refine C_V1r dX12_fetches_6 w9_200 i_X12_top (lk_69 hP) ⟨Nat.le_of_ble_eq_true rfl, Nat.le_of_ble_eq_true rfl⟩ rfl (Nat.le_of_ble_eq_true rfl) (Nat.le_of_ble_eq_true rfl) (Nat.le_of_ble_eq_true rfl) (cy1) ?_
  have hPy1 := cy1.1.1
  obtain ⟨hb1, h⟩ := okE h
  refine Y_iald dX12_fetches_9 (lk_106 hPy1) (ln_106 hPy1) hb1 ?_
  obtain ⟨b1, eb1, h⟩ := bndE h
  refine VV.topI eb1 ?_
  refine Y_istore_n (lv1 := [(2, .int b1), (0, .ref 69), (1, .int x1)]) dX12_fetches_10 rfl (by decide) rfl ?_
  refine Y_aload_n (j := 1) dX12_fetches_11 rfl rfl ?_
  refine Y_aload_n (j := 1) dX12_fetches_12 rfl rfl ?_
  refine Z_getr dX12_fetches_13 w8_120 (lk_69 hPy1) fr_12_54 (lr_69_54 hPy1) ?_
  refine Y_bipush (v := (6 : Int32)) dX12_fetches_16 rfl ?_
  refine Y_iload_n (j := 0) dX12_fetches_18 rfl rfl ?_
  refine Y_imul dX12_fetches_19 ?_
  refine Y_iload_n (j := 2) dX12_fetches_20 rfl rfl ?_
  refine Y_iadd dX12_fetches_21 ?_
  obtain ⟨hb2, h⟩ := okE h
  refine Y_cald dX12_fetches_22 (lk_113 hPy1) (ln_113 hPy1) hb2 ?_
  refine Y_aload_n (j := 1) dX12_fetches_23 rfl rfl ?_
  refine Z_getr dX12_fetches_24 w8_121 (lk_69 hPy1) fr_12_55 (lr_69_55 hPy1) ?_
  refine Y_bipush (v := (6 : Int32)) dX12_fetches_27 rfl ?_
  refine Y_iload_n (j := 0) dX12_fetches_29 rfl rfl ?_
  refine Y_imul dX12_fetches_30 ?_
  refine Y_iload_n (j := 2) dX12_fetches_31 rfl rfl ?_
  refine Y_iadd dX12_fetches_32 ?_
  obtain ⟨hb3, h⟩ := okE h
  refine Y_iald dX12_fetches_33 (lk_114 hPy1) (ln_114 hPy1) hb3 ?_
  refine Y_aload_n (j := 1) dX12_fetches_34 rfl rfl ?_
  refine Z_getr dX12_fetches_35 w8_122 (lk_69 hPy1) fr_12_56 (lr_69_56 hPy1) ?_
  refine Y_bipush (v := (6 : Int32)) dX12_fetches_38 rfl ?_
  refine Y_iload_n (j := 0) dX12_fetches_40 rfl rfl ?_
  refine Y_imul dX12_fetches_41 ?_
  refine Y_iload_n (j := 2) dX12_fetches_42 rfl rfl ?_
  refine Y_iadd dX12_fetches_43 ?_
  obtain ⟨hb4, h⟩ := okE h
  refine Y_dald dX12_fetches_44 (lk_115 hPy1) (ln_115 hPy1) hb4 ?_
  obtain ⟨y2, qy2, h⟩ := bindE h
  have cy2 := v_X12_gives hPy1 qy2
  refine C_V3o dX12_fetches_45 w10_17 i_X12_gives (lk_69 hPy1) ⟨Nat.le_of_ble_eq_true rfl, Nat.le_of_ble_eq_true rfl⟩ rfl (Nat.le_of_ble_eq_true rfl) (Nat.le_of_ble_eq_true rfl) (Nat.le_of_ble_eq_true rfl) (cy2) ?_
  have hPy2 := cy2.1.1
  refine Y_aload_n (j := 1) dX12_fetches_48 rfl rfl ?_
  refine Z_getr dX12_fetches_49 w8_117 (lk_69 hPy2) fr_12_51 (lr_69_51 hPy2) ?_
  refine Y_aload_n (j := 1) dX12_fetches_52 rfl rfl ?_
  refine Z_geti dX12_fetches_53 w8_114 (lk_69 hPy2) fi_12_48 ?_
  refine Y_dup2 dX12_fetches_56 rfl rfl ?_
  obtain ⟨hb5, h⟩ := okE h
  refine Y_iald dX12_fetches_57 (lk_111 hPy2) (ln_111 hPy2) hb5 ?_
  refine Y_iconst (v := (1 : Int32)) dX12_fetches_58 rfl ?_
  refine Y_isub dX12_fetches_59 ?_
  obtain ⟨hb6, h⟩ := okE h
  refine Y_iast dX12_fetches_60 (lk_111 hPy2) (ln_111 hPy2) hb6 ?_
  obtain ⟨M1, eM1, h⟩ := bndE h
  refine VV.mem eM1 ?_
  have hP1 := hPy2.wI eM1
  refine Y_aload_n (j := 1) dX12_fetches_61 rfl rfl ?_
  refine Y_aload_n (j := 1) dX12_fetches_62 rfl rfl ?_
  refine Z_geti dX12_fetches_63 w8_137 (lk_69 hP1) fi_12_71 ?_
  refine Y_if_eq (tgt := 76) dX12_fetches_66 (by decide) (fun hc1 => ?_) (fun hc1 => ?_)
  · replace h := ifT hc1 h
    refine Y_iconst (v := (0 : Int32)) dX12_fetches_76 rfl ?_
    refine VV.sub [1] rfl ?_
    exact b_X12_fetches_77  hP1 h
  · replace h := ifF hc1 h
    refine Y_aload_n (j := 1) dX12_fetches_69 rfl rfl ?_
    obtain ⟨y3, qy3, h⟩ := bindE h
    have cy3 := v_X12_newValue hP1 qy3
    refine C_V0r dX12_fetches_70 w10_35 i_X12_newValue (lk_69 hP1) ⟨Nat.le_of_ble_eq_true rfl, Nat.le_of_ble_eq_true rfl⟩ rfl (Nat.le_of_ble_eq_true rfl) (Nat.le_of_ble_eq_true rfl) (Nat.le_of_ble_eq_true rfl) (cy3) ?_
    have hPy3 := cy3.1.1
    refine Y_goto (tgt := 77) dX12_fetches_73 (by decide) ?_
    refine VV.sub [1] rfl ?_
    exact b_X12_fetches_77  hPy3 h
theorem v_X12_fetches {x1 : Int32} {M z} (hP : Lay M) (h : d_X12_fetches x1 M = some z) : CC Lay k_X12_fetches [.ref 69, .int x1] M z.2 (Qv (none) z.2) xF :=
  CC.ofVV (by decide) rfl (Nat.le_of_ble_eq_true rfl) (b_X12_fetches hP h)
noncomputable def d_X12_executes_78 (s1 : Int32) (s2 : Int32) (M : Mem) : Option (Unit × Mem) :=
  (d_X12_gives s1 s2 FP.dconst0 M).bind fun y1 =>
  (d_X12_made (1 : Int32) y1.2).bind fun y2 =>
  (d_X12_pushes y2.1 y2.2).bind fun y3 =>
  okk (vp_in (mI y3.2 69 48) 12) <|
  okk (vp_in (mI y3.2 69 48) 12) <|
  bnd (sI y3.2 110 (mI y3.2 69 48).toNatClampNeg ((mI y3.2 110 (mI y3.2 69 48).toNatClampNeg) + (1 : Int32))) fun M1 =>
  some ((), M1)
theorem b_X12_executes_78 {s1 : Int32} {s2 : Int32} {M z} (hP : Lay M) (h : d_X12_executes_78 s1 s2 M = some z) : VV Lay k_X12_executes 78 [(0, .ref 69)] [.int s2, .int s1, .ref 69] M z.2 (Qv (none) z.2) xF := by
  unfold d_X12_executes_78 at h
  refine Y_dconst0 dX12_executes_78 ?_
  obtain ⟨y1, qy1, h⟩ := bindE h
  have cy1 := v_X12_gives hP qy1
  refine C_V3o dX12_executes_79 w10_17 i_X12_gives (lk_69 hP) ⟨Nat.le_of_ble_eq_true rfl, Nat.le_of_ble_eq_true rfl⟩ rfl (Nat.le_of_ble_eq_true rfl) (Nat.le_of_ble_eq_true rfl) (Nat.le_of_ble_eq_true rfl) (cy1) ?_
  have hPy1 := cy1.1.1
  refine Y_aload_n (j := 0) dX12_executes_82 rfl rfl ?_
  refine Y_aload_n (j := 0) dX12_executes_83 rfl rfl ?_
  refine Y_iconst (v := (1 : Int32)) dX12_executes_84 rfl ?_
  obtain ⟨y2, qy2, h⟩ := bindE h
  have cy2 := v_X12_made hPy1 qy2
  refine C_V1r dX12_executes_85 w10_43 i_X12_made (lk_69 hPy1) ⟨Nat.le_of_ble_eq_true rfl, Nat.le_of_ble_eq_true rfl⟩ rfl (Nat.le_of_ble_eq_true rfl) (Nat.le_of_ble_eq_true rfl) (Nat.le_of_ble_eq_true rfl) (cy2) ?_
  have hPy2 := cy2.1.1
  obtain ⟨y3, qy3, h⟩ := bindE h
  have cy3 := v_X12_pushes hPy2 qy3
  refine C_V1o dX12_executes_88 w10_51 i_X12_pushes (lk_69 hPy2) ⟨Nat.le_of_ble_eq_true rfl, Nat.le_of_ble_eq_true rfl⟩ rfl (Nat.le_of_ble_eq_true rfl) (Nat.le_of_ble_eq_true rfl) (Nat.le_of_ble_eq_true rfl) (cy3) ?_
  have hPy3 := cy3.1.1
  refine Y_aload_n (j := 0) dX12_executes_91 rfl rfl ?_
  refine Z_getr dX12_executes_92 w8_116 (lk_69 hPy3) fr_12_50 (lr_69_50 hPy3) ?_
  refine Y_aload_n (j := 0) dX12_executes_95 rfl rfl ?_
  refine Z_geti dX12_executes_96 w8_114 (lk_69 hPy3) fi_12_48 ?_
  refine Y_dup2 dX12_executes_99 rfl rfl ?_
  obtain ⟨hb1, h⟩ := okE h
  refine Y_iald dX12_executes_100 (lk_110 hPy3) (ln_110 hPy3) hb1 ?_
  refine Y_iconst (v := (1 : Int32)) dX12_executes_101 rfl ?_
  refine Y_iadd dX12_executes_102 ?_
  obtain ⟨hb2, h⟩ := okE h
  refine Y_iast dX12_executes_103 (lk_110 hPy3) (ln_110 hPy3) hb2 ?_
  obtain ⟨M1, eM1, h⟩ := bndE h
  refine VV.mem eM1 ?_
  have hP1 := hPy3.wI eM1
  refine Y_goto (tgt := 517) dX12_executes_104 (by decide) ?_
  cases h
  exact Y_vret rfl dX12_executes_517 hP1 ⟨rfl, rfl⟩
noncomputable def d_X12_executes_59 (x2 : Int32) (x3 : Int32) (M : Mem) : Option (Unit × Mem) :=
  if x2 = (105 : Int32) then (
    d_X12_executes_78 (105 : Int32) x3 M)
  else (
    okk (vp_in x3 8) <|
    d_X12_executes_78 (105 : Int32) (mI M 75 x3.toNatClampNeg) M)
theorem b_X12_executes_59 {x2 : Int32} {x3 : Int32} {M z} (hP : Lay M) (h : d_X12_executes_59 x2 x3 M = some z) : VV Lay k_X12_executes 59 [(0, .ref 69), (2, .int x2), (3, .int x3)] [] M z.2 (Qv (none) z.2) xF := by
  unfold d_X12_executes_59 at h
  refine Y_aload_n (j := 0) dX12_executes_59 rfl rfl ?_
  refine Y_bipush (v := (105 : Int32)) dX12_executes_60 rfl ?_
  refine Y_iload_n (j := 1) dX12_executes_62 rfl rfl ?_
  refine Y_bipush (v := (105 : Int32)) dX12_executes_63 rfl ?_
  refine Y_icmp_ne (tgt := 72) dX12_executes_65 (by decide) (fun hc1 => ?_) (fun hc1 => ?_)
  · replace h := ifF hc1 h
    refine Y_aload_n (j := 0) dX12_executes_72 rfl rfl ?_
    refine Z_getr dX12_executes_73 w8_73 (lk_69 hP) fr_12_7 (lr_69_7 hP) ?_
    refine Y_iload_n (j := 2) dX12_executes_76 rfl rfl ?_
    obtain ⟨hb1, h⟩ := okE h
    refine Y_iald dX12_executes_77 (lk_75 hP) (ln_75 hP) hb1 ?_
    refine VV.sub [0] rfl ?_
    exact b_X12_executes_78  hP h
  · replace h := ifT hc1 h
    refine Y_iload_n (j := 2) dX12_executes_68 rfl rfl ?_
    refine Y_goto (tgt := 78) dX12_executes_69 (by decide) ?_
    refine VV.sub [0] rfl ?_
    exact b_X12_executes_78  hP h
noncomputable def d_X12_executes_310 (x2 : Int32) (M : Mem) : Option (Unit × Mem) :=
  (d_X12_reckonsOn x2 M).bind fun y1 =>
  some ((), y1.2)
theorem b_X12_executes_310 {x2 : Int32} {M z} (hP : Lay M) (h : d_X12_executes_310 x2 M = some z) : VV Lay k_X12_executes 310 [(0, .ref 69), (2, .int x2)] [] M z.2 (Qv (none) z.2) xF := by
  unfold d_X12_executes_310 at h
  refine Y_aload_n (j := 0) dX12_executes_310 rfl rfl ?_
  refine Y_iload_n (j := 1) dX12_executes_311 rfl rfl ?_
  obtain ⟨y1, qy1, h⟩ := bindE h
  have cy1 := v_X12_reckonsOn hP qy1
  refine C_V1o dX12_executes_312 w10_59 i_X12_reckonsOn (lk_69 hP) ⟨Nat.le_of_ble_eq_true rfl, Nat.le_of_ble_eq_true rfl⟩ rfl (Nat.le_of_ble_eq_true rfl) (Nat.le_of_ble_eq_true rfl) (Nat.le_of_ble_eq_true rfl) (cy1) ?_
  have hPy1 := cy1.1.1
  refine Y_goto (tgt := 517) dX12_executes_315 (by decide) ?_
  cases h
  exact Y_vret rfl dX12_executes_517 hPy1 ⟨rfl, rfl⟩
noncomputable def d_X12_executes (M : Mem) : Option (Unit × Mem) :=
  okk (vp_in (mI M 69 48) 12) <|
  okk (vp_in (mI M 69 48) 12) <|
  bnd ((((40 : Int32) * (mI M 109 (mI M 69 48).toNatClampNeg)) + (mI M 110 (mI M 69 48).toNatClampNeg))) fun b1 =>
  okk (vp_in b1 320) <|
  bnd ((mI M 72 b1.toNatClampNeg)) fun b2 =>
  okk (vp_in b1 320) <|
  bnd ((mI M 73 b1.toNatClampNeg)) fun b3 =>
  bnd (sI M 69 57 ((mI M 69 57) + (1 : Int32))) fun M1 =>
  if b2 = (105 : Int32) then (
    d_X12_executes_59 b2 b3 M1)
  else (
    if b2 = (107 : Int32) then (
      d_X12_executes_59 b2 b3 M1)
    else (
      if b2 = (108 : Int32) then (
        okk (vp_in (mI M1 69 48) 12) <|
        okk (vp_in (mI M1 69 48) 12) <|
        bnd (sI M1 111 (mI M1 69 48).toNatClampNeg ((mI M1 111 (mI M1 69 48).toNatClampNeg) + (1 : Int32))) fun M12 =>
        (d_X12_top (0 : Int32) M12).bind fun y18 =>
        (d_X12_copies (((14 : Int32) * (mI M12 69 48)) + b3) y18.1 y18.2).bind fun y19 =>
        okk (vp_in (mI y19.2 69 48) 12) <|
        okk (vp_in (mI y19.2 69 48) 12) <|
        bnd (sI y19.2 110 (mI y19.2 69 48).toNatClampNeg ((mI y19.2 110 (mI y19.2 69 48).toNatClampNeg) + (1 : Int32))) fun M13 =>
        some ((), M13))
      else (
        if b2 = (115 : Int32) then (
          (d_X12_top (0 : Int32) M1).bind fun y16 =>
          (d_X12_copies y16.1 (((14 : Int32) * (mI y16.2 69 48)) + b3) y16.2).bind fun y17 =>
          okk (vp_in (mI y17.2 69 48) 12) <|
          okk (vp_in (mI y17.2 69 48) 12) <|
          bnd (sI y17.2 111 (mI y17.2 69 48).toNatClampNeg ((mI y17.2 111 (mI y17.2 69 48).toNatClampNeg) - (1 : Int32))) fun M10 =>
          okk (vp_in (mI M10 69 48) 12) <|
          okk (vp_in (mI M10 69 48) 12) <|
          bnd (sI M10 110 (mI M10 69 48).toNatClampNeg ((mI M10 110 (mI M10 69 48).toNatClampNeg) + (1 : Int32))) fun M11 =>
          some ((), M11))
        else (
          if b2 = (117 : Int32) then (
            okk (vp_in (mI M1 69 48) 12) <|
            okk (vp_in (mI M1 69 48) 12) <|
            bnd (sI M1 111 (mI M1 69 48).toNatClampNeg ((mI M1 111 (mI M1 69 48).toNatClampNeg) + (1 : Int32))) fun M8 =>
            (d_X12_top (1 : Int32) M8).bind fun y13 =>
            (d_X12_top (0 : Int32) y13.2).bind fun y14 =>
            (d_X12_copies y13.1 y14.1 y14.2).bind fun y15 =>
            okk (vp_in (mI y15.2 69 48) 12) <|
            okk (vp_in (mI y15.2 69 48) 12) <|
            bnd (sI y15.2 110 (mI y15.2 69 48).toNatClampNeg ((mI y15.2 110 (mI y15.2 69 48).toNatClampNeg) + (1 : Int32))) fun M9 =>
            some ((), M9))
          else (
            if b2 = (100 : Int32) then (
              okk (vp_in (mI M1 69 48) 12) <|
              okk (vp_in (mI M1 69 48) 12) <|
              bnd (sI M1 111 (mI M1 69 48).toNatClampNeg ((mI M1 111 (mI M1 69 48).toNatClampNeg) - (1 : Int32))) fun M6 =>
              okk (vp_in (mI M6 69 48) 12) <|
              okk (vp_in (mI M6 69 48) 12) <|
              bnd (sI M6 110 (mI M6 69 48).toNatClampNeg ((mI M6 110 (mI M6 69 48).toNatClampNeg) + (1 : Int32))) fun M7 =>
              some ((), M7))
            else (
              (d_X12_isPair b2 M1).bind fun y1 =>
              if y1.1 = 0 then (
                if b2 = (119 : Int32) then (
                  d_X12_executes_310 b2 y1.2)
                else (
                  if b2 = (106 : Int32) then (
                    okk (vp_in (mI y1.2 69 48) 12) <|
                    bnd (sI y1.2 110 (mI y1.2 69 48).toNatClampNeg b3) fun M5 =>
                    some ((), M5))
                  else (
                    if b2 = (122 : Int32) then (
                      (d_X12_top (0 : Int32) y1.2).bind fun y11 =>
                      (d_X12_isNull y11.1 y11.2).bind fun y12 =>
                      okk (vp_in (mI y12.2 69 48) 12) <|
                      okk (vp_in (mI y12.2 69 48) 12) <|
                      bnd (sI y12.2 111 (mI y12.2 69 48).toNatClampNeg ((mI y12.2 111 (mI y12.2 69 48).toNatClampNeg) - (1 : Int32))) fun M2 =>
                      if y12.1 = 0 then (
                        okk (vp_in (mI M2 69 48) 12) <|
                        okk (vp_in (mI M2 69 48) 12) <|
                        bnd (sI M2 110 (mI M2 69 48).toNatClampNeg ((mI M2 110 (mI M2 69 48).toNatClampNeg) + (1 : Int32))) fun M3 =>
                        some ((), M3))
                      else (
                        okk (vp_in (mI M2 69 48) 12) <|
                        bnd (sI M2 110 (mI M2 69 48).toNatClampNeg b3) fun M4 =>
                        some ((), M4)))
                    else (
                      if b2 = (110 : Int32) then (
                        (d_X12_makes b3 y1.2).bind fun y10 =>
                        some ((), y10.2))
                      else (
                        if b2 = (103 : Int32) then (
                          (d_X12_fetches b3 y1.2).bind fun y9 =>
                          some ((), y9.2))
                        else (
                          if b2 = (112 : Int32) then (
                            (d_X12_puts b3 y1.2).bind fun y8 =>
                            some ((), y8.2))
                          else (
                            if b2 = (99 : Int32) then (
                              okk (vp_in b3 8) <|
                              (d_X12_calls b3 (mI y1.2 70 b3.toNatClampNeg) y1.2).bind fun y7 =>
                              some ((), y7.2))
                            else (
                              if b2 = (109 : Int32) then (
                                (d_X12_top (0 : Int32) y1.2).bind fun y4 =>
                                okk (vp_in y4.1 168) <|
                                okk (vp_in (mI y4.2 106 y4.1.toNatClampNeg) 60) <|
                                okk (vp_in (mI y4.2 112 (mI y4.2 106 y4.1.toNatClampNeg).toNatClampNeg) 60) <|
                                (d_X12_methodOf (mI y4.2 79 (mI y4.2 112 (mI y4.2 106 y4.1.toNatClampNeg).toNatClampNeg).toNatClampNeg) b3 y4.2).bind fun y5 =>
                                (d_X12_calls y5.1 (1 : Int32) y5.2).bind fun y6 =>
                                some ((), y6.2))
                              else (
                                if b2 = (114 : Int32) then (
                                  (d_X12_returns y1.2).bind fun y3 =>
                                  some ((), y3.2))
                                else (
                                  (d_X12_tells y1.2).bind fun y2 =>
                                  some ((), y2.2)))))))))))
              else (
                d_X12_executes_310 b2 y1.2)))))))
theorem b_X12_executes {M z} (hP : Lay M) (h : d_X12_executes M = some z) : VV Lay k_X12_executes 0 [(0, .ref 69)] [] M z.2 (Qv (none) z.2) xF := by
  unfold d_X12_executes at h
  refine Y_bipush (v := (40 : Int32)) dX12_executes_0 rfl ?_
  refine Y_aload_n (j := 0) dX12_executes_2 rfl rfl ?_
  refine Z_getr dX12_executes_3 w8_115 (lk_69 hP) fr_12_49 (lr_69_49 hP) ?_
  refine Y_aload_n (j := 0) dX12_executes_6 rfl rfl ?_
  refine Z_geti dX12_executes_7 w8_114 (lk_69 hP) fi_12_48 ?_
  obtain ⟨hb1, h⟩ := okE h
  refine Y_iald dX12_executes_10 (lk_109 hP) (ln_109 hP) hb1 ?_
  refine Y_imul dX12_executes_11 ?_
  refine Y_aload_n (j := 0) dX12_executes_12 rfl rfl ?_
  refine Z_getr dX12_executes_13 w8_116 (lk_69 hP) fr_12_50 (lr_69_50 hP) ?_
  refine Y_aload_n (j := 0) dX12_executes_16 rfl rfl ?_
  refine Z_geti dX12_executes_17 w8_114 (lk_69 hP) fi_12_48 ?_
  obtain ⟨hb2, h⟩ := okE h
  refine Y_iald dX12_executes_20 (lk_110 hP) (ln_110 hP) hb2 ?_
  refine Y_iadd dX12_executes_21 ?_
  obtain ⟨b1, eb1, h⟩ := bndE h
  refine VV.topI eb1 ?_
  refine Y_istore_n (lv1 := [(1, .int b1), (0, .ref 69)]) dX12_executes_22 rfl (by decide) rfl ?_
  refine Y_aload_n (j := 1) dX12_executes_23 rfl rfl ?_
  refine Z_getr dX12_executes_24 w8_70 (lk_69 hP) fr_12_4 (lr_69_4 hP) ?_
  refine Y_iload_n (j := 0) dX12_executes_27 rfl rfl ?_
  obtain ⟨hb3, h⟩ := okE h
  refine Y_cald dX12_executes_28 (lk_72 hP) (ln_72 hP) hb3 ?_
  obtain ⟨b2, eb2, h⟩ := bndE h
  refine VV.topI eb2 ?_
  refine Y_istore_n (lv1 := [(2, .int b2), (1, .int b1), (0, .ref 69)]) dX12_executes_29 rfl (by decide) rfl ?_
  refine Y_aload_n (j := 2) dX12_executes_30 rfl rfl ?_
  refine Z_getr dX12_executes_31 w8_71 (lk_69 hP) fr_12_5 (lr_69_5 hP) ?_
  refine Y_iload_n (j := 1) dX12_executes_34 rfl rfl ?_
  obtain ⟨hb4, h⟩ := okE h
  refine Y_iald dX12_executes_35 (lk_73 hP) (ln_73 hP) hb4 ?_
  obtain ⟨b3, eb3, h⟩ := bndE h
  refine VV.topI eb3 ?_
  refine Y_istore_n (lv1 := [(3, .int b3), (2, .int b2), (1, .int b1), (0, .ref 69)]) dX12_executes_36 rfl (by decide) rfl ?_
  refine Y_aload_n (j := 3) dX12_executes_37 rfl rfl ?_
  refine Y_dup dX12_executes_38 rfl ?_
  refine Z_geti dX12_executes_39 w8_123 (lk_69 hP) fi_12_57 ?_
  refine Y_iconst (v := (1 : Int32)) dX12_executes_42 rfl ?_
  refine Y_iadd dX12_executes_43 ?_
  refine Z_puti dX12_executes_44 w8_123 (lk_69 hP) fi_12_57 (Or.inl rfl) rfl ?_
  obtain ⟨M1, eM1, h⟩ := bndE h
  refine VV.mem eM1 ?_
  have hP1 := hP.wI eM1
  refine Y_iload_n (j := 1) dX12_executes_47 rfl rfl ?_
  refine Y_bipush (v := (105 : Int32)) dX12_executes_48 rfl ?_
  refine Y_icmp_eq (tgt := 59) dX12_executes_50 (by decide) (fun hc1 => ?_) (fun hc1 => ?_)
  · replace h := ifT hc1 h
    refine VV.sub [3, 1, 0] rfl ?_
    exact b_X12_executes_59  hP1 h
  · replace h := ifF hc1 h
    refine Y_iload_n (j := 1) dX12_executes_53 rfl rfl ?_
    refine Y_bipush (v := (107 : Int32)) dX12_executes_54 rfl ?_
    refine Y_icmp_ne (tgt := 107) dX12_executes_56 (by decide) (fun hc2 => ?_) (fun hc2 => ?_)
    · replace h := ifF hc2 h
      refine Y_iload_n (j := 1) dX12_executes_107 rfl rfl ?_
      refine Y_bipush (v := (108 : Int32)) dX12_executes_108 rfl ?_
      refine Y_icmp_ne (tgt := 160) dX12_executes_110 (by decide) (fun hc3 => ?_) (fun hc3 => ?_)
      · replace h := ifF hc3 h
        refine Y_iload_n (j := 1) dX12_executes_160 rfl rfl ?_
        refine Y_bipush (v := (115 : Int32)) dX12_executes_161 rfl ?_
        refine Y_icmp_ne (tgt := 213) dX12_executes_163 (by decide) (fun hc4 => ?_) (fun hc4 => ?_)
        · replace h := ifF hc4 h
          refine Y_iload_n (j := 1) dX12_executes_213 rfl rfl ?_
          refine Y_bipush (v := (117 : Int32)) dX12_executes_214 rfl ?_
          refine Y_icmp_ne (tgt := 262) dX12_executes_216 (by decide) (fun hc5 => ?_) (fun hc5 => ?_)
          · replace h := ifF hc5 h
            refine Y_iload_n (j := 1) dX12_executes_262 rfl rfl ?_
            refine Y_bipush (v := (100 : Int32)) dX12_executes_263 rfl ?_
            refine Y_icmp_ne (tgt := 297) dX12_executes_265 (by decide) (fun hc6 => ?_) (fun hc6 => ?_)
            · replace h := ifF hc6 h
              refine Y_iload_n (j := 1) dX12_executes_297 rfl rfl ?_
              obtain ⟨y1, qy1, h⟩ := bindE h
              have cy1 := v_X12_isPair hP1 qy1
              refine C_S1r dX12_executes_298 w9_129 i_X12_isPair (Nat.le_of_ble_eq_true rfl) (Nat.le_of_ble_eq_true rfl) (Nat.le_of_ble_eq_true rfl) (cy1) ?_
              have hPy1 := cy1.1.1
              refine Y_if_ne (tgt := 310) dX12_executes_301 (by decide) (fun hc7 => ?_) (fun hc7 => ?_)
              · replace h := ifF hc7 h
                refine VV.sub [3, 1] rfl ?_
                exact b_X12_executes_310  hPy1 h
              · replace h := ifT hc7 h
                refine Y_iload_n (j := 1) dX12_executes_304 rfl rfl ?_
                refine Y_bipush (v := (119 : Int32)) dX12_executes_305 rfl ?_
                refine Y_icmp_ne (tgt := 318) dX12_executes_307 (by decide) (fun hc8 => ?_) (fun hc8 => ?_)
                · replace h := ifF hc8 h
                  refine Y_iload_n (j := 1) dX12_executes_318 rfl rfl ?_
                  refine Y_bipush (v := (106 : Int32)) dX12_executes_319 rfl ?_
                  refine Y_icmp_ne (tgt := 337) dX12_executes_321 (by decide) (fun hc9 => ?_) (fun hc9 => ?_)
                  · replace h := ifF hc9 h
                    refine Y_iload_n (j := 1) dX12_executes_337 rfl rfl ?_
                    refine Y_bipush (v := (122 : Int32)) dX12_executes_338 rfl ?_
                    refine Y_icmp_ne (tgt := 399) dX12_executes_340 (by decide) (fun hc10 => ?_) (fun hc10 => ?_)
                    · replace h := ifF hc10 h
                      refine Y_iload_n (j := 1) dX12_executes_399 rfl rfl ?_
                      refine Y_bipush (v := (110 : Int32)) dX12_executes_400 rfl ?_
                      refine Y_icmp_ne (tgt := 413) dX12_executes_402 (by decide) (fun hc11 => ?_) (fun hc11 => ?_)
                      · replace h := ifF hc11 h
                        refine Y_iload_n (j := 1) dX12_executes_413 rfl rfl ?_
                        refine Y_bipush (v := (103 : Int32)) dX12_executes_414 rfl ?_
                        refine Y_icmp_ne (tgt := 427) dX12_executes_416 (by decide) (fun hc12 => ?_) (fun hc12 => ?_)
                        · replace h := ifF hc12 h
                          refine Y_iload_n (j := 1) dX12_executes_427 rfl rfl ?_
                          refine Y_bipush (v := (112 : Int32)) dX12_executes_428 rfl ?_
                          refine Y_icmp_ne (tgt := 441) dX12_executes_430 (by decide) (fun hc13 => ?_) (fun hc13 => ?_)
                          · replace h := ifF hc13 h
                            refine Y_iload_n (j := 1) dX12_executes_441 rfl rfl ?_
                            refine Y_bipush (v := (99 : Int32)) dX12_executes_442 rfl ?_
                            refine Y_icmp_ne (tgt := 461) dX12_executes_444 (by decide) (fun hc14 => ?_) (fun hc14 => ?_)
                            · replace h := ifF hc14 h
                              refine Y_iload_n (j := 1) dX12_executes_461 rfl rfl ?_
                              refine Y_bipush (v := (109 : Int32)) dX12_executes_462 rfl ?_
                              refine Y_icmp_ne (tgt := 500) dX12_executes_464 (by decide) (fun hc15 => ?_) (fun hc15 => ?_)
                              · replace h := ifF hc15 h
                                refine Y_iload_n (j := 1) dX12_executes_500 rfl rfl ?_
                                refine Y_bipush (v := (114 : Int32)) dX12_executes_501 rfl ?_
                                refine Y_icmp_ne (tgt := 513) dX12_executes_503 (by decide) (fun hc16 => ?_) (fun hc16 => ?_)
                                · replace h := ifF hc16 h
                                  refine Y_aload_n (j := 3) dX12_executes_513 rfl rfl ?_
                                  obtain ⟨y2, qy2, h⟩ := bindE h
                                  have cy2 := v_X12_tells hPy1 qy2
                                  refine C_V0o dX12_executes_514 w10_99 i_X12_tells (lk_69 hPy1) ⟨Nat.le_of_ble_eq_true rfl, Nat.le_of_ble_eq_true rfl⟩ rfl (Nat.le_of_ble_eq_true rfl) (Nat.le_of_ble_eq_true rfl) (Nat.le_of_ble_eq_true rfl) (cy2) ?_
                                  have hPy2 := cy2.1.1
                                  cases h
                                  exact Y_vret rfl dX12_executes_517 hPy2 ⟨rfl, rfl⟩
                                · replace h := ifT hc16 h
                                  refine Y_aload_n (j := 3) dX12_executes_506 rfl rfl ?_
                                  obtain ⟨y3, qy3, h⟩ := bindE h
                                  have cy3 := v_X12_returns hPy1 qy3
                                  refine C_V0o dX12_executes_507 w10_83 i_X12_returns (lk_69 hPy1) ⟨Nat.le_of_ble_eq_true rfl, Nat.le_of_ble_eq_true rfl⟩ rfl (Nat.le_of_ble_eq_true rfl) (Nat.le_of_ble_eq_true rfl) (Nat.le_of_ble_eq_true rfl) (cy3) ?_
                                  have hPy3 := cy3.1.1
                                  refine Y_goto (tgt := 517) dX12_executes_510 (by decide) ?_
                                  cases h
                                  exact Y_vret rfl dX12_executes_517 hPy3 ⟨rfl, rfl⟩
                              · replace h := ifT hc15 h
                                refine Y_aload_n (j := 3) dX12_executes_467 rfl rfl ?_
                                refine Y_aload_n (j := 3) dX12_executes_468 rfl rfl ?_
                                refine Y_aload_n (j := 3) dX12_executes_469 rfl rfl ?_
                                refine Z_getr dX12_executes_470 w8_79 (lk_69 hPy1) fr_12_13 (lr_69_13 hPy1) ?_
                                refine Y_aload_n (j := 3) dX12_executes_473 rfl rfl ?_
                                refine Z_getr dX12_executes_474 w8_119 (lk_69 hPy1) fr_12_53 (lr_69_53 hPy1) ?_
                                refine Y_aload_n (j := 3) dX12_executes_477 rfl rfl ?_
                                refine Z_getr dX12_executes_478 w8_111 (lk_69 hPy1) fr_12_45 (lr_69_45 hPy1) ?_
                                refine Y_aload_n (j := 3) dX12_executes_481 rfl rfl ?_
                                refine Y_iconst (v := (0 : Int32)) dX12_executes_482 rfl ?_
                                obtain ⟨y4, qy4, h⟩ := bindE h
                                have cy4 := v_X12_top hPy1 qy4
                                refine C_V1r dX12_executes_483 w9_200 i_X12_top (lk_69 hPy1) ⟨Nat.le_of_ble_eq_true rfl, Nat.le_of_ble_eq_true rfl⟩ rfl (Nat.le_of_ble_eq_true rfl) (Nat.le_of_ble_eq_true rfl) (Nat.le_of_ble_eq_true rfl) (cy4) ?_
                                have hPy4 := cy4.1.1
                                obtain ⟨hb5, h⟩ := okE h
                                refine Y_iald dX12_executes_486 (lk_106 hPy4) (ln_106 hPy4) hb5 ?_
                                obtain ⟨hb6, h⟩ := okE h
                                refine Y_iald dX12_executes_487 (lk_112 hPy4) (ln_112 hPy4) hb6 ?_
                                obtain ⟨hb7, h⟩ := okE h
                                refine Y_iald dX12_executes_488 (lk_79 hPy4) (ln_79 hPy4) hb7 ?_
                                refine Y_iload_n (j := 0) dX12_executes_489 rfl rfl ?_
                                obtain ⟨y5, qy5, h⟩ := bindE h
                                have cy5 := v_X12_methodOf hPy4 qy5
                                refine C_V2r dX12_executes_490 w9_237 i_X12_methodOf (lk_69 hPy4) ⟨Nat.le_of_ble_eq_true rfl, Nat.le_of_ble_eq_true rfl⟩ rfl (Nat.le_of_ble_eq_true rfl) (Nat.le_of_ble_eq_true rfl) (Nat.le_of_ble_eq_true rfl) (cy5) ?_
                                have hPy5 := cy5.1.1
                                refine Y_iconst (v := (1 : Int32)) dX12_executes_493 rfl ?_
                                obtain ⟨y6, qy6, h⟩ := bindE h
                                have cy6 := v_X12_calls hPy5 qy6
                                refine C_V2o dX12_executes_494 w10_79 i_X12_calls (lk_69 hPy5) ⟨Nat.le_of_ble_eq_true rfl, Nat.le_of_ble_eq_true rfl⟩ rfl (Nat.le_of_ble_eq_true rfl) (Nat.le_of_ble_eq_true rfl) (Nat.le_of_ble_eq_true rfl) (cy6) ?_
                                have hPy6 := cy6.1.1
                                refine Y_goto (tgt := 517) dX12_executes_497 (by decide) ?_
                                cases h
                                exact Y_vret rfl dX12_executes_517 hPy6 ⟨rfl, rfl⟩
                            · replace h := ifT hc14 h
                              refine Y_aload_n (j := 3) dX12_executes_447 rfl rfl ?_
                              refine Y_iload_n (j := 0) dX12_executes_448 rfl rfl ?_
                              refine Y_aload_n (j := 3) dX12_executes_449 rfl rfl ?_
                              refine Z_getr dX12_executes_450 w8_68 (lk_69 hPy1) fr_12_2 (lr_69_2 hPy1) ?_
                              refine Y_iload_n (j := 0) dX12_executes_453 rfl rfl ?_
                              obtain ⟨hb8, h⟩ := okE h
                              refine Y_iald dX12_executes_454 (lk_70 hPy1) (ln_70 hPy1) hb8 ?_
                              obtain ⟨y7, qy7, h⟩ := bindE h
                              have cy7 := v_X12_calls hPy1 qy7
                              refine C_V2o dX12_executes_455 w10_79 i_X12_calls (lk_69 hPy1) ⟨Nat.le_of_ble_eq_true rfl, Nat.le_of_ble_eq_true rfl⟩ rfl (Nat.le_of_ble_eq_true rfl) (Nat.le_of_ble_eq_true rfl) (Nat.le_of_ble_eq_true rfl) (cy7) ?_
                              have hPy7 := cy7.1.1
                              refine Y_goto (tgt := 517) dX12_executes_458 (by decide) ?_
                              cases h
                              exact Y_vret rfl dX12_executes_517 hPy7 ⟨rfl, rfl⟩
                          · replace h := ifT hc13 h
                            refine Y_aload_n (j := 3) dX12_executes_433 rfl rfl ?_
                            refine Y_iload_n (j := 0) dX12_executes_434 rfl rfl ?_
                            obtain ⟨y8, qy8, h⟩ := bindE h
                            have cy8 := v_X12_puts hPy1 qy8
                            refine C_V1o dX12_executes_435 w10_71 i_X12_puts (lk_69 hPy1) ⟨Nat.le_of_ble_eq_true rfl, Nat.le_of_ble_eq_true rfl⟩ rfl (Nat.le_of_ble_eq_true rfl) (Nat.le_of_ble_eq_true rfl) (Nat.le_of_ble_eq_true rfl) (cy8) ?_
                            have hPy8 := cy8.1.1
                            refine Y_goto (tgt := 517) dX12_executes_438 (by decide) ?_
                            cases h
                            exact Y_vret rfl dX12_executes_517 hPy8 ⟨rfl, rfl⟩
                        · replace h := ifT hc12 h
                          refine Y_aload_n (j := 3) dX12_executes_419 rfl rfl ?_
                          refine Y_iload_n (j := 0) dX12_executes_420 rfl rfl ?_
                          obtain ⟨y9, qy9, h⟩ := bindE h
                          have cy9 := v_X12_fetches hPy1 qy9
                          refine C_V1o dX12_executes_421 w10_67 i_X12_fetches (lk_69 hPy1) ⟨Nat.le_of_ble_eq_true rfl, Nat.le_of_ble_eq_true rfl⟩ rfl (Nat.le_of_ble_eq_true rfl) (Nat.le_of_ble_eq_true rfl) (Nat.le_of_ble_eq_true rfl) (cy9) ?_
                          have hPy9 := cy9.1.1
                          refine Y_goto (tgt := 517) dX12_executes_424 (by decide) ?_
                          cases h
                          exact Y_vret rfl dX12_executes_517 hPy9 ⟨rfl, rfl⟩
                      · replace h := ifT hc11 h
                        refine Y_aload_n (j := 3) dX12_executes_405 rfl rfl ?_
                        refine Y_iload_n (j := 0) dX12_executes_406 rfl rfl ?_
                        obtain ⟨y10, qy10, h⟩ := bindE h
                        have cy10 := v_X12_makes hPy1 qy10
                        refine C_V1o dX12_executes_407 w10_63 i_X12_makes (lk_69 hPy1) ⟨Nat.le_of_ble_eq_true rfl, Nat.le_of_ble_eq_true rfl⟩ rfl (Nat.le_of_ble_eq_true rfl) (Nat.le_of_ble_eq_true rfl) (Nat.le_of_ble_eq_true rfl) (cy10) ?_
                        have hPy10 := cy10.1.1
                        refine Y_goto (tgt := 517) dX12_executes_410 (by decide) ?_
                        cases h
                        exact Y_vret rfl dX12_executes_517 hPy10 ⟨rfl, rfl⟩
                    · replace h := ifT hc10 h
                      refine Y_aload_n (j := 3) dX12_executes_343 rfl rfl ?_
                      refine Y_aload_n (j := 3) dX12_executes_344 rfl rfl ?_
                      refine Y_iconst (v := (0 : Int32)) dX12_executes_345 rfl ?_
                      obtain ⟨y11, qy11, h⟩ := bindE h
                      have cy11 := v_X12_top hPy1 qy11
                      refine C_V1r dX12_executes_346 w9_200 i_X12_top (lk_69 hPy1) ⟨Nat.le_of_ble_eq_true rfl, Nat.le_of_ble_eq_true rfl⟩ rfl (Nat.le_of_ble_eq_true rfl) (Nat.le_of_ble_eq_true rfl) (Nat.le_of_ble_eq_true rfl) (cy11) ?_
                      have hPy11 := cy11.1.1
                      obtain ⟨y12, qy12, h⟩ := bindE h
                      have cy12 := v_X12_isNull hPy11 qy12
                      refine C_V1r dX12_executes_349 w10_5 i_X12_isNull (lk_69 hPy11) ⟨Nat.le_of_ble_eq_true rfl, Nat.le_of_ble_eq_true rfl⟩ rfl (Nat.le_of_ble_eq_true rfl) (Nat.le_of_ble_eq_true rfl) (Nat.le_of_ble_eq_true rfl) (cy12) ?_
                      have hPy12 := cy12.1.1
                      refine Y_istore (lv1 := [(4, .int y12.1), (3, .int b3), (2, .int b2), (1, .int b1), (0, .ref 69)]) dX12_executes_352 (by decide) rfl ?_
                      refine Y_aload_n (j := 4) dX12_executes_354 rfl rfl ?_
                      refine Z_getr dX12_executes_355 w8_117 (lk_69 hPy12) fr_12_51 (lr_69_51 hPy12) ?_
                      refine Y_aload_n (j := 4) dX12_executes_358 rfl rfl ?_
                      refine Z_geti dX12_executes_359 w8_114 (lk_69 hPy12) fi_12_48 ?_
                      refine Y_dup2 dX12_executes_362 rfl rfl ?_
                      obtain ⟨hb9, h⟩ := okE h
                      refine Y_iald dX12_executes_363 (lk_111 hPy12) (ln_111 hPy12) hb9 ?_
                      refine Y_iconst (v := (1 : Int32)) dX12_executes_364 rfl ?_
                      refine Y_isub dX12_executes_365 ?_
                      obtain ⟨hb10, h⟩ := okE h
                      refine Y_iast dX12_executes_366 (lk_111 hPy12) (ln_111 hPy12) hb10 ?_
                      obtain ⟨M2, eM2, h⟩ := bndE h
                      refine VV.mem eM2 ?_
                      have hP2 := hPy12.wI eM2
                      refine Y_aload_n (j := 4) dX12_executes_367 rfl rfl ?_
                      refine Z_getr dX12_executes_368 w8_116 (lk_69 hP2) fr_12_50 (lr_69_50 hP2) ?_
                      refine Y_aload_n (j := 4) dX12_executes_371 rfl rfl ?_
                      refine Z_geti dX12_executes_372 w8_114 (lk_69 hP2) fi_12_48 ?_
                      refine Y_iload (j := 0) dX12_executes_375 rfl ?_
                      refine Y_if_eq (tgt := 384) dX12_executes_377 (by decide) (fun hc17 => ?_) (fun hc17 => ?_)
                      · replace h := ifT hc17 h
                        refine Y_aload_n (j := 4) dX12_executes_384 rfl rfl ?_
                        refine Z_getr dX12_executes_385 w8_116 (lk_69 hP2) fr_12_50 (lr_69_50 hP2) ?_
                        refine Y_aload_n (j := 4) dX12_executes_388 rfl rfl ?_
                        refine Z_geti dX12_executes_389 w8_114 (lk_69 hP2) fi_12_48 ?_
                        obtain ⟨hb11, h⟩ := okE h
                        refine Y_iald dX12_executes_392 (lk_110 hP2) (ln_110 hP2) hb11 ?_
                        refine Y_iconst (v := (1 : Int32)) dX12_executes_393 rfl ?_
                        refine Y_iadd dX12_executes_394 ?_
                        obtain ⟨hb12, h⟩ := okE h
                        refine Y_iast dX12_executes_395 (lk_110 hP2) (ln_110 hP2) hb12 ?_
                        obtain ⟨M3, eM3, h⟩ := bndE h
                        refine VV.mem eM3 ?_
                        have hP3 := hP2.wI eM3
                        refine Y_goto (tgt := 517) dX12_executes_396 (by decide) ?_
                        cases h
                        exact Y_vret rfl dX12_executes_517 hP3 ⟨rfl, rfl⟩
                      · replace h := ifF hc17 h
                        refine Y_iload_n (j := 1) dX12_executes_380 rfl rfl ?_
                        refine Y_goto (tgt := 395) dX12_executes_381 (by decide) ?_
                        obtain ⟨hb13, h⟩ := okE h
                        refine Y_iast dX12_executes_395 (lk_110 hP2) (ln_110 hP2) hb13 ?_
                        obtain ⟨M4, eM4, h⟩ := bndE h
                        refine VV.mem eM4 ?_
                        have hP4 := hP2.wI eM4
                        refine Y_goto (tgt := 517) dX12_executes_396 (by decide) ?_
                        cases h
                        exact Y_vret rfl dX12_executes_517 hP4 ⟨rfl, rfl⟩
                  · replace h := ifT hc9 h
                    refine Y_aload_n (j := 3) dX12_executes_324 rfl rfl ?_
                    refine Z_getr dX12_executes_325 w8_116 (lk_69 hPy1) fr_12_50 (lr_69_50 hPy1) ?_
                    refine Y_aload_n (j := 3) dX12_executes_328 rfl rfl ?_
                    refine Z_geti dX12_executes_329 w8_114 (lk_69 hPy1) fi_12_48 ?_
                    refine Y_iload_n (j := 0) dX12_executes_332 rfl rfl ?_
                    obtain ⟨hb14, h⟩ := okE h
                    refine Y_iast dX12_executes_333 (lk_110 hPy1) (ln_110 hPy1) hb14 ?_
                    obtain ⟨M5, eM5, h⟩ := bndE h
                    refine VV.mem eM5 ?_
                    have hP5 := hPy1.wI eM5
                    refine Y_goto (tgt := 517) dX12_executes_334 (by decide) ?_
                    cases h
                    exact Y_vret rfl dX12_executes_517 hP5 ⟨rfl, rfl⟩
                · replace h := ifT hc8 h
                  refine VV.sub [3, 1] rfl ?_
                  exact b_X12_executes_310  hPy1 h
            · replace h := ifT hc6 h
              refine Y_aload_n (j := 3) dX12_executes_268 rfl rfl ?_
              refine Z_getr dX12_executes_269 w8_117 (lk_69 hP1) fr_12_51 (lr_69_51 hP1) ?_
              refine Y_aload_n (j := 3) dX12_executes_272 rfl rfl ?_
              refine Z_geti dX12_executes_273 w8_114 (lk_69 hP1) fi_12_48 ?_
              refine Y_dup2 dX12_executes_276 rfl rfl ?_
              obtain ⟨hb15, h⟩ := okE h
              refine Y_iald dX12_executes_277 (lk_111 hP1) (ln_111 hP1) hb15 ?_
              refine Y_iconst (v := (1 : Int32)) dX12_executes_278 rfl ?_
              refine Y_isub dX12_executes_279 ?_
              obtain ⟨hb16, h⟩ := okE h
              refine Y_iast dX12_executes_280 (lk_111 hP1) (ln_111 hP1) hb16 ?_
              obtain ⟨M6, eM6, h⟩ := bndE h
              refine VV.mem eM6 ?_
              have hP6 := hP1.wI eM6
              refine Y_aload_n (j := 3) dX12_executes_281 rfl rfl ?_
              refine Z_getr dX12_executes_282 w8_116 (lk_69 hP6) fr_12_50 (lr_69_50 hP6) ?_
              refine Y_aload_n (j := 3) dX12_executes_285 rfl rfl ?_
              refine Z_geti dX12_executes_286 w8_114 (lk_69 hP6) fi_12_48 ?_
              refine Y_dup2 dX12_executes_289 rfl rfl ?_
              obtain ⟨hb17, h⟩ := okE h
              refine Y_iald dX12_executes_290 (lk_110 hP6) (ln_110 hP6) hb17 ?_
              refine Y_iconst (v := (1 : Int32)) dX12_executes_291 rfl ?_
              refine Y_iadd dX12_executes_292 ?_
              obtain ⟨hb18, h⟩ := okE h
              refine Y_iast dX12_executes_293 (lk_110 hP6) (ln_110 hP6) hb18 ?_
              obtain ⟨M7, eM7, h⟩ := bndE h
              refine VV.mem eM7 ?_
              have hP7 := hP6.wI eM7
              refine Y_goto (tgt := 517) dX12_executes_294 (by decide) ?_
              cases h
              exact Y_vret rfl dX12_executes_517 hP7 ⟨rfl, rfl⟩
          · replace h := ifT hc5 h
            refine Y_aload_n (j := 3) dX12_executes_219 rfl rfl ?_
            refine Z_getr dX12_executes_220 w8_117 (lk_69 hP1) fr_12_51 (lr_69_51 hP1) ?_
            refine Y_aload_n (j := 3) dX12_executes_223 rfl rfl ?_
            refine Z_geti dX12_executes_224 w8_114 (lk_69 hP1) fi_12_48 ?_
            refine Y_dup2 dX12_executes_227 rfl rfl ?_
            obtain ⟨hb19, h⟩ := okE h
            refine Y_iald dX12_executes_228 (lk_111 hP1) (ln_111 hP1) hb19 ?_
            refine Y_iconst (v := (1 : Int32)) dX12_executes_229 rfl ?_
            refine Y_iadd dX12_executes_230 ?_
            obtain ⟨hb20, h⟩ := okE h
            refine Y_iast dX12_executes_231 (lk_111 hP1) (ln_111 hP1) hb20 ?_
            obtain ⟨M8, eM8, h⟩ := bndE h
            refine VV.mem eM8 ?_
            have hP8 := hP1.wI eM8
            refine Y_aload_n (j := 3) dX12_executes_232 rfl rfl ?_
            refine Y_aload_n (j := 3) dX12_executes_233 rfl rfl ?_
            refine Y_iconst (v := (1 : Int32)) dX12_executes_234 rfl ?_
            obtain ⟨y13, qy13, h⟩ := bindE h
            have cy13 := v_X12_top hP8 qy13
            refine C_V1r dX12_executes_235 w9_200 i_X12_top (lk_69 hP8) ⟨Nat.le_of_ble_eq_true rfl, Nat.le_of_ble_eq_true rfl⟩ rfl (Nat.le_of_ble_eq_true rfl) (Nat.le_of_ble_eq_true rfl) (Nat.le_of_ble_eq_true rfl) (cy13) ?_
            have hPy13 := cy13.1.1
            refine Y_aload_n (j := 3) dX12_executes_238 rfl rfl ?_
            refine Y_iconst (v := (0 : Int32)) dX12_executes_239 rfl ?_
            obtain ⟨y14, qy14, h⟩ := bindE h
            have cy14 := v_X12_top hPy13 qy14
            refine C_V1r dX12_executes_240 w9_200 i_X12_top (lk_69 hPy13) ⟨Nat.le_of_ble_eq_true rfl, Nat.le_of_ble_eq_true rfl⟩ rfl (Nat.le_of_ble_eq_true rfl) (Nat.le_of_ble_eq_true rfl) (Nat.le_of_ble_eq_true rfl) (cy14) ?_
            have hPy14 := cy14.1.1
            obtain ⟨y15, qy15, h⟩ := bindE h
            have cy15 := v_X12_copies hPy14 qy15
            refine C_V2o dX12_executes_243 w10_55 i_X12_copies (lk_69 hPy14) ⟨Nat.le_of_ble_eq_true rfl, Nat.le_of_ble_eq_true rfl⟩ rfl (Nat.le_of_ble_eq_true rfl) (Nat.le_of_ble_eq_true rfl) (Nat.le_of_ble_eq_true rfl) (cy15) ?_
            have hPy15 := cy15.1.1
            refine Y_aload_n (j := 3) dX12_executes_246 rfl rfl ?_
            refine Z_getr dX12_executes_247 w8_116 (lk_69 hPy15) fr_12_50 (lr_69_50 hPy15) ?_
            refine Y_aload_n (j := 3) dX12_executes_250 rfl rfl ?_
            refine Z_geti dX12_executes_251 w8_114 (lk_69 hPy15) fi_12_48 ?_
            refine Y_dup2 dX12_executes_254 rfl rfl ?_
            obtain ⟨hb21, h⟩ := okE h
            refine Y_iald dX12_executes_255 (lk_110 hPy15) (ln_110 hPy15) hb21 ?_
            refine Y_iconst (v := (1 : Int32)) dX12_executes_256 rfl ?_
            refine Y_iadd dX12_executes_257 ?_
            obtain ⟨hb22, h⟩ := okE h
            refine Y_iast dX12_executes_258 (lk_110 hPy15) (ln_110 hPy15) hb22 ?_
            obtain ⟨M9, eM9, h⟩ := bndE h
            refine VV.mem eM9 ?_
            have hP9 := hPy15.wI eM9
            refine Y_goto (tgt := 517) dX12_executes_259 (by decide) ?_
            cases h
            exact Y_vret rfl dX12_executes_517 hP9 ⟨rfl, rfl⟩
        · replace h := ifT hc4 h
          refine Y_aload_n (j := 3) dX12_executes_166 rfl rfl ?_
          refine Y_aload_n (j := 3) dX12_executes_167 rfl rfl ?_
          refine Y_iconst (v := (0 : Int32)) dX12_executes_168 rfl ?_
          obtain ⟨y16, qy16, h⟩ := bindE h
          have cy16 := v_X12_top hP1 qy16
          refine C_V1r dX12_executes_169 w9_200 i_X12_top (lk_69 hP1) ⟨Nat.le_of_ble_eq_true rfl, Nat.le_of_ble_eq_true rfl⟩ rfl (Nat.le_of_ble_eq_true rfl) (Nat.le_of_ble_eq_true rfl) (Nat.le_of_ble_eq_true rfl) (cy16) ?_
          have hPy16 := cy16.1.1
          refine Y_bipush (v := (14 : Int32)) dX12_executes_172 rfl ?_
          refine Y_aload_n (j := 3) dX12_executes_174 rfl rfl ?_
          refine Z_geti dX12_executes_175 w8_114 (lk_69 hPy16) fi_12_48 ?_
          refine Y_imul dX12_executes_178 ?_
          refine Y_iload_n (j := 0) dX12_executes_179 rfl rfl ?_
          refine Y_iadd dX12_executes_180 ?_
          obtain ⟨y17, qy17, h⟩ := bindE h
          have cy17 := v_X12_copies hPy16 qy17
          refine C_V2o dX12_executes_181 w10_55 i_X12_copies (lk_69 hPy16) ⟨Nat.le_of_ble_eq_true rfl, Nat.le_of_ble_eq_true rfl⟩ rfl (Nat.le_of_ble_eq_true rfl) (Nat.le_of_ble_eq_true rfl) (Nat.le_of_ble_eq_true rfl) (cy17) ?_
          have hPy17 := cy17.1.1
          refine Y_aload_n (j := 3) dX12_executes_184 rfl rfl ?_
          refine Z_getr dX12_executes_185 w8_117 (lk_69 hPy17) fr_12_51 (lr_69_51 hPy17) ?_
          refine Y_aload_n (j := 3) dX12_executes_188 rfl rfl ?_
          refine Z_geti dX12_executes_189 w8_114 (lk_69 hPy17) fi_12_48 ?_
          refine Y_dup2 dX12_executes_192 rfl rfl ?_
          obtain ⟨hb23, h⟩ := okE h
          refine Y_iald dX12_executes_193 (lk_111 hPy17) (ln_111 hPy17) hb23 ?_
          refine Y_iconst (v := (1 : Int32)) dX12_executes_194 rfl ?_
          refine Y_isub dX12_executes_195 ?_
          obtain ⟨hb24, h⟩ := okE h
          refine Y_iast dX12_executes_196 (lk_111 hPy17) (ln_111 hPy17) hb24 ?_
          obtain ⟨M10, eM10, h⟩ := bndE h
          refine VV.mem eM10 ?_
          have hP10 := hPy17.wI eM10
          refine Y_aload_n (j := 3) dX12_executes_197 rfl rfl ?_
          refine Z_getr dX12_executes_198 w8_116 (lk_69 hP10) fr_12_50 (lr_69_50 hP10) ?_
          refine Y_aload_n (j := 3) dX12_executes_201 rfl rfl ?_
          refine Z_geti dX12_executes_202 w8_114 (lk_69 hP10) fi_12_48 ?_
          refine Y_dup2 dX12_executes_205 rfl rfl ?_
          obtain ⟨hb25, h⟩ := okE h
          refine Y_iald dX12_executes_206 (lk_110 hP10) (ln_110 hP10) hb25 ?_
          refine Y_iconst (v := (1 : Int32)) dX12_executes_207 rfl ?_
          refine Y_iadd dX12_executes_208 ?_
          obtain ⟨hb26, h⟩ := okE h
          refine Y_iast dX12_executes_209 (lk_110 hP10) (ln_110 hP10) hb26 ?_
          obtain ⟨M11, eM11, h⟩ := bndE h
          refine VV.mem eM11 ?_
          have hP11 := hP10.wI eM11
          refine Y_goto (tgt := 517) dX12_executes_210 (by decide) ?_
          cases h
          exact Y_vret rfl dX12_executes_517 hP11 ⟨rfl, rfl⟩
      · replace h := ifT hc3 h
        refine Y_aload_n (j := 3) dX12_executes_113 rfl rfl ?_
        refine Z_getr dX12_executes_114 w8_117 (lk_69 hP1) fr_12_51 (lr_69_51 hP1) ?_
        refine Y_aload_n (j := 3) dX12_executes_117 rfl rfl ?_
        refine Z_geti dX12_executes_118 w8_114 (lk_69 hP1) fi_12_48 ?_
        refine Y_dup2 dX12_executes_121 rfl rfl ?_
        obtain ⟨hb27, h⟩ := okE h
        refine Y_iald dX12_executes_122 (lk_111 hP1) (ln_111 hP1) hb27 ?_
        refine Y_iconst (v := (1 : Int32)) dX12_executes_123 rfl ?_
        refine Y_iadd dX12_executes_124 ?_
        obtain ⟨hb28, h⟩ := okE h
        refine Y_iast dX12_executes_125 (lk_111 hP1) (ln_111 hP1) hb28 ?_
        obtain ⟨M12, eM12, h⟩ := bndE h
        refine VV.mem eM12 ?_
        have hP12 := hP1.wI eM12
        refine Y_aload_n (j := 3) dX12_executes_126 rfl rfl ?_
        refine Y_bipush (v := (14 : Int32)) dX12_executes_127 rfl ?_
        refine Y_aload_n (j := 3) dX12_executes_129 rfl rfl ?_
        refine Z_geti dX12_executes_130 w8_114 (lk_69 hP12) fi_12_48 ?_
        refine Y_imul dX12_executes_133 ?_
        refine Y_iload_n (j := 0) dX12_executes_134 rfl rfl ?_
        refine Y_iadd dX12_executes_135 ?_
        refine Y_aload_n (j := 3) dX12_executes_136 rfl rfl ?_
        refine Y_iconst (v := (0 : Int32)) dX12_executes_137 rfl ?_
        obtain ⟨y18, qy18, h⟩ := bindE h
        have cy18 := v_X12_top hP12 qy18
        refine C_V1r dX12_executes_138 w9_200 i_X12_top (lk_69 hP12) ⟨Nat.le_of_ble_eq_true rfl, Nat.le_of_ble_eq_true rfl⟩ rfl (Nat.le_of_ble_eq_true rfl) (Nat.le_of_ble_eq_true rfl) (Nat.le_of_ble_eq_true rfl) (cy18) ?_
        have hPy18 := cy18.1.1
        obtain ⟨y19, qy19, h⟩ := bindE h
        have cy19 := v_X12_copies hPy18 qy19
        refine C_V2o dX12_executes_141 w10_55 i_X12_copies (lk_69 hPy18) ⟨Nat.le_of_ble_eq_true rfl, Nat.le_of_ble_eq_true rfl⟩ rfl (Nat.le_of_ble_eq_true rfl) (Nat.le_of_ble_eq_true rfl) (Nat.le_of_ble_eq_true rfl) (cy19) ?_
        have hPy19 := cy19.1.1
        refine Y_aload_n (j := 3) dX12_executes_144 rfl rfl ?_
        refine Z_getr dX12_executes_145 w8_116 (lk_69 hPy19) fr_12_50 (lr_69_50 hPy19) ?_
        refine Y_aload_n (j := 3) dX12_executes_148 rfl rfl ?_
        refine Z_geti dX12_executes_149 w8_114 (lk_69 hPy19) fi_12_48 ?_
        refine Y_dup2 dX12_executes_152 rfl rfl ?_
        obtain ⟨hb29, h⟩ := okE h
        refine Y_iald dX12_executes_153 (lk_110 hPy19) (ln_110 hPy19) hb29 ?_
        refine Y_iconst (v := (1 : Int32)) dX12_executes_154 rfl ?_
        refine Y_iadd dX12_executes_155 ?_
        obtain ⟨hb30, h⟩ := okE h
        refine Y_iast dX12_executes_156 (lk_110 hPy19) (ln_110 hPy19) hb30 ?_
        obtain ⟨M13, eM13, h⟩ := bndE h
        refine VV.mem eM13 ?_
        have hP13 := hPy19.wI eM13
        refine Y_goto (tgt := 517) dX12_executes_157 (by decide) ?_
        cases h
        exact Y_vret rfl dX12_executes_517 hP13 ⟨rfl, rfl⟩
    · replace h := ifT hc2 h
      refine VV.sub [3, 1, 0] rfl ?_
      exact b_X12_executes_59  hP1 h
theorem v_X12_executes {M z} (hP : Lay M) (h : d_X12_executes M = some z) : CC Lay k_X12_executes [.ref 69] M z.2 (Qv (none) z.2) xF :=
  CC.ofVV (by decide) rfl (Nat.le_of_ble_eq_true rfl) (b_X12_executes hP h)
end VCR
