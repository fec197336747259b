/-! ===== what the methods reckon (printed by a program) ===== -/
section VCR
theorem b_X6_noteAhead_213 {M z} (hP : Lay M) (h : d_X6_noteAhead_213 M = some z) : VV Lay k_X6_noteAhead 213 [(0, .ref 48)] [] M z.2 (Qv (none) z.2) xF := by
  unfold d_X6_noteAhead_213 at h
  refine Y_aload_n (pc := 213) (j := 0) dX6_noteAhead_213 rfl rfl ?_
  refine Y_dup (pc := 214) dX6_noteAhead_214 rfl ?_
  refine Z_geti (pc := 215) dX6_noteAhead_215 w2_61 (lk_48 hP) fi_6_7 ?_
  refine Y_iconst (pc := 218) (v := (1 : Int32)) dX6_noteAhead_218 rfl ?_
  refine Y_iadd (pc := 219) dX6_noteAhead_219 ?_
  refine Z_puti (pc := 220) dX6_noteAhead_220 w2_61 (lk_48 hP) fi_6_7 (Or.inl rfl) rfl ?_
  obtain ⟨M1, eM1, h⟩ := bndE h
  refine VV.mem eM1 ?_
  have hP1 := hP.wI eM1
  cases h
  exact Y_vret (pc := 223) rfl dX6_noteAhead_223 hP1 ⟨rfl, rfl⟩
set_option maxRecDepth 20000 in
theorem b_X6_noteAhead {M z} (hP : Lay M) (h : d_X6_noteAhead M = some z) : VV Lay k_X6_noteAhead 0 [(0, .ref 48), (1, .ref 18)] [] M z.2 (Qv (none) z.2) xF := by
  unfold d_X6_noteAhead at h
  refine Y_aload_n (pc := 0) (j := 1) dX6_noteAhead_0 rfl rfl ?_
  refine Z_geti (pc := 1) dX6_noteAhead_1 w1_179 (lk_18 hP) fi_4_7 ?_
  obtain ⟨b1, eb1, h⟩ := bndE h
  refine VV.topI eb1 ?_
  refine Y_istore_n (pc := 4) (lv1 := [(2, .int b1), (0, .ref 48), (1, .ref 18)]) dX6_noteAhead_4 rfl (by decide) rfl ?_
  refine Y_aload_n (pc := 5) (j := 1) dX6_noteAhead_5 rfl rfl ?_
  refine Z_getr (pc := 6) dX6_noteAhead_6 w2_47 (lk_48 hP) fr_6_0 (lr_48_0 hP) ?_
  refine Y_aload_n (pc := 9) (j := 1) dX6_noteAhead_9 rfl rfl ?_
  refine Z_geti (pc := 10) dX6_noteAhead_10 w2_61 (lk_48 hP) fi_6_7 ?_
  refine Y_aload_n (pc := 13) (j := 2) dX6_noteAhead_13 rfl rfl ?_
  obtain ⟨y1, qy1, h⟩ := bindE h
  have cy1 := v_X3_lineAhead (Or.inl rfl) hP qy1
  refine C_V0r (pc := 14) (k' := k_X3_lineAhead) dX6_noteAhead_14 w6_143 i_X3_lineAhead (lk_18 hP) ⟨Nat.le_of_ble_eq_true rfl, Nat.le_of_ble_eq_true rfl⟩ rfl (Nat.le_of_ble_eq_true rfl) (Nat.le_of_ble_eq_true rfl) (Nat.le_of_ble_eq_true rfl) (cy1) ?_
  have hPy1 := cy1.1.1
  obtain ⟨hb1, h⟩ := okE h
  refine Y_iast (pc := 17) dX6_noteAhead_17 (lk_49 hPy1) (ln_49 hPy1) hb1 ?_
  obtain ⟨M1, eM1, h⟩ := bndE h
  refine VV.mem eM1 ?_
  have hP1 := hPy1.wI eM1
  refine Y_aload_n (pc := 18) (j := 1) dX6_noteAhead_18 rfl rfl ?_
  refine Z_getr (pc := 19) dX6_noteAhead_19 w2_49 (lk_48 hP1) fr_6_1 (lr_48_1 hP1) ?_
  refine Y_aload_n (pc := 22) (j := 1) dX6_noteAhead_22 rfl rfl ?_
  refine Z_geti (pc := 23) dX6_noteAhead_23 w2_61 (lk_48 hP1) fi_6_7 ?_
  refine Y_aload_n (pc := 26) (j := 1) dX6_noteAhead_26 rfl rfl ?_
  refine Z_geti (pc := 27) dX6_noteAhead_27 w2_64 (lk_48 hP1) fi_6_8 ?_
  obtain ⟨hb2, h⟩ := okE h
  refine Y_iast (pc := 30) dX6_noteAhead_30 (lk_50 hP1) (ln_50 hP1) hb2 ?_
  obtain ⟨M2, eM2, h⟩ := bndE h
  refine VV.mem eM2 ?_
  have hP2 := hP1.wI eM2
  refine Y_aload_n (pc := 31) (j := 1) dX6_noteAhead_31 rfl rfl ?_
  refine Y_iconst (pc := 32) (v := (0 : Int32)) dX6_noteAhead_32 rfl ?_
  refine Z_puti (pc := 33) dX6_noteAhead_33 w2_77 (lk_48 hP2) fi_6_15 (Or.inl rfl) rfl ?_
  obtain ⟨M3, eM3, h⟩ := bndE h
  refine VV.mem eM3 ?_
  have hP3 := hP2.wI eM3
  refine Y_iload_n (pc := 36) (j := 0) dX6_noteAhead_36 rfl rfl ?_
  refine Y_table (pc := 37) dX6_noteAhead_37 [(103, 184), (104, 207), (105, 132), (106, 207), (107, 132), (108, 207), (109, 184), (110, 141), (111, 207), (112, 193), (113, 207), (114, 207), (115, 207), (116, 207), (117, 207), (118, 207), (119, 150), (120, 207), (121, 207), (122, 174)] 207 (by decide) (tab_ok (by decide +kernel)) (by decide) ?_ ?_
  · refine xs_cons ?_ <| xs_cons ?_ <| xs_cons ?_ <| xs_cons ?_ <| xs_cons ?_ <| xs_cons ?_ <| xs_cons ?_ <| xs_cons ?_ <| xs_cons ?_ <| xs_cons ?_ <| xs_cons ?_ <| xs_cons ?_ <| xs_cons ?_ <| xs_cons ?_ <| xs_cons ?_ <| xs_cons ?_ <| xs_cons ?_ <| xs_cons ?_ <| xs_cons ?_ <| xs_cons ?_ <| xs_nil
    · intro e9
      replace h := ifT (by rw [e9] <;> decide) h
      refine Y_aload_n (pc := 184) (j := 1) dX6_noteAhead_184 rfl rfl ?_
      refine Y_aload_n (pc := 185) (j := 2) dX6_noteAhead_185 rfl rfl ?_
      refine Y_iconst (pc := 186) (v := (1 : Int32)) dX6_noteAhead_186 rfl ?_
      obtain ⟨y2, qy2, h⟩ := bindE h
      have cy2 := v_X6_askShape hP3 qy2
      refine C_V2o (pc := 187) (k' := k_X6_askShape) dX6_noteAhead_187 w6_171 i_X6_askShape (lk_48 hP3) ⟨Nat.le_of_ble_eq_true rfl, Nat.le_of_ble_eq_true rfl⟩ rfl (Nat.le_of_ble_eq_true rfl) (Nat.le_of_ble_eq_true rfl) (Nat.le_of_ble_eq_true rfl) (cy2) ?_
      have hPy2 := cy2.1.1
      refine Y_goto (pc := 190) (tgt := 213) dX6_noteAhead_190 (by decide) ?_
      refine VV.sub [1] rfl ?_
      exact b_X6_noteAhead_213  hPy2 h
    · intro e9
      replace h := ifF (by rw [e9] <;> decide) h
      replace h := ifF (by rw [e9] <;> decide) h
      replace h := ifF (by rw [e9] <;> decide) h
      replace h := ifF (by rw [e9] <;> decide) h
      replace h := ifF (by rw [e9] <;> decide) h
      replace h := ifF (by rw [e9] <;> decide) h
      refine Y_aload_n (pc := 207) (j := 1) dX6_noteAhead_207 rfl rfl ?_
      refine Y_aload_n (pc := 208) (j := 2) dX6_noteAhead_208 rfl rfl ?_
      refine Y_iload_n (pc := 209) (j := 0) dX6_noteAhead_209 rfl rfl ?_
      obtain ⟨y9, qy9, h⟩ := bindE h
      have cy9 := v_X6_noteTwoValues hP3 qy9
      refine C_V2o (pc := 210) (k' := k_X6_noteTwoValues) dX6_noteAhead_210 w6_181 i_X6_noteTwoValues (lk_48 hP3) ⟨Nat.le_of_ble_eq_true rfl, Nat.le_of_ble_eq_true rfl⟩ rfl (Nat.le_of_ble_eq_true rfl) (Nat.le_of_ble_eq_true rfl) (Nat.le_of_ble_eq_true rfl) (cy9) ?_
      have hPy9 := cy9.1.1
      refine VV.sub [1] rfl ?_
      exact b_X6_noteAhead_213  hPy9 h
    · intro e9
      replace h := ifF (by rw [e9] <;> decide) h
      replace h := ifT (by rw [e9] <;> decide) h
      refine Y_aload_n (pc := 132) (j := 1) dX6_noteAhead_132 rfl rfl ?_
      refine Y_bipush (pc := 133) (v := (7 : Int32)) dX6_noteAhead_133 rfl ?_
      refine Z_puti (pc := 135) dX6_noteAhead_135 w2_77 (lk_48 hP3) fi_6_15 (Or.inl rfl) rfl ?_
      obtain ⟨M4, eM4, h⟩ := bndE h
      refine VV.mem eM4 ?_
      have hP4 := hP3.wI eM4
      refine Y_goto (pc := 138) (tgt := 213) dX6_noteAhead_138 (by decide) ?_
      refine VV.sub [1] rfl ?_
      exact b_X6_noteAhead_213  hP4 h
    · intro e9
      replace h := ifF (by rw [e9] <;> decide) h
      replace h := ifF (by rw [e9] <;> decide) h
      replace h := ifF (by rw [e9] <;> decide) h
      replace h := ifF (by rw [e9] <;> decide) h
      replace h := ifF (by rw [e9] <;> decide) h
      replace h := ifF (by rw [e9] <;> decide) h
      refine Y_aload_n (pc := 207) (j := 1) dX6_noteAhead_207 rfl rfl ?_
      refine Y_aload_n (pc := 208) (j := 2) dX6_noteAhead_208 rfl rfl ?_
      refine Y_iload_n (pc := 209) (j := 0) dX6_noteAhead_209 rfl rfl ?_
      obtain ⟨y9, qy9, h⟩ := bindE h
      have cy9 := v_X6_noteTwoValues hP3 qy9
      refine C_V2o (pc := 210) (k' := k_X6_noteTwoValues) dX6_noteAhead_210 w6_181 i_X6_noteTwoValues (lk_48 hP3) ⟨Nat.le_of_ble_eq_true rfl, Nat.le_of_ble_eq_true rfl⟩ rfl (Nat.le_of_ble_eq_true rfl) (Nat.le_of_ble_eq_true rfl) (Nat.le_of_ble_eq_true rfl) (cy9) ?_
      have hPy9 := cy9.1.1
      refine VV.sub [1] rfl ?_
      exact b_X6_noteAhead_213  hPy9 h
    · intro e9
      replace h := ifF (by rw [e9] <;> decide) h
      replace h := ifT (by rw [e9] <;> decide) h
      refine Y_aload_n (pc := 132) (j := 1) dX6_noteAhead_132 rfl rfl ?_
      refine Y_bipush (pc := 133) (v := (7 : Int32)) dX6_noteAhead_133 rfl ?_
      refine Z_puti (pc := 135) dX6_noteAhead_135 w2_77 (lk_48 hP3) fi_6_15 (Or.inl rfl) rfl ?_
      obtain ⟨M4, eM4, h⟩ := bndE h
      refine VV.mem eM4 ?_
      have hP4 := hP3.wI eM4
      refine Y_goto (pc := 138) (tgt := 213) dX6_noteAhead_138 (by decide) ?_
      refine VV.sub [1] rfl ?_
      exact b_X6_noteAhead_213  hP4 h
    · intro e9
      replace h := ifF (by rw [e9] <;> decide) h
      replace h := ifF (by rw [e9] <;> decide) h
      replace h := ifF (by rw [e9] <;> decide) h
      replace h := ifF (by rw [e9] <;> decide) h
      replace h := ifF (by rw [e9] <;> decide) h
      replace h := ifF (by rw [e9] <;> decide) h
      refine Y_aload_n (pc := 207) (j := 1) dX6_noteAhead_207 rfl rfl ?_
      refine Y_aload_n (pc := 208) (j := 2) dX6_noteAhead_208 rfl rfl ?_
      refine Y_iload_n (pc := 209) (j := 0) dX6_noteAhead_209 rfl rfl ?_
      obtain ⟨y9, qy9, h⟩ := bindE h
      have cy9 := v_X6_noteTwoValues hP3 qy9
      refine C_V2o (pc := 210) (k' := k_X6_noteTwoValues) dX6_noteAhead_210 w6_181 i_X6_noteTwoValues (lk_48 hP3) ⟨Nat.le_of_ble_eq_true rfl, Nat.le_of_ble_eq_true rfl⟩ rfl (Nat.le_of_ble_eq_true rfl) (Nat.le_of_ble_eq_true rfl) (Nat.le_of_ble_eq_true rfl) (cy9) ?_
      have hPy9 := cy9.1.1
      refine VV.sub [1] rfl ?_
      exact b_X6_noteAhead_213  hPy9 h
    · intro e9
      replace h := ifT (by rw [e9] <;> decide) h
      refine Y_aload_n (pc := 184) (j := 1) dX6_noteAhead_184 rfl rfl ?_
      refine Y_aload_n (pc := 185) (j := 2) dX6_noteAhead_185 rfl rfl ?_
      refine Y_iconst (pc := 186) (v := (1 : Int32)) dX6_noteAhead_186 rfl ?_
      obtain ⟨y2, qy2, h⟩ := bindE h
      have cy2 := v_X6_askShape hP3 qy2
      refine C_V2o (pc := 187) (k' := k_X6_askShape) dX6_noteAhead_187 w6_171 i_X6_askShape (lk_48 hP3) ⟨Nat.le_of_ble_eq_true rfl, Nat.le_of_ble_eq_true rfl⟩ rfl (Nat.le_of_ble_eq_true rfl) (Nat.le_of_ble_eq_true rfl) (Nat.le_of_ble_eq_true rfl) (cy2) ?_
      have hPy2 := cy2.1.1
      refine Y_goto (pc := 190) (tgt := 213) dX6_noteAhead_190 (by decide) ?_
      refine VV.sub [1] rfl ?_
      exact b_X6_noteAhead_213  hPy2 h
    · intro e9
      replace h := ifF (by rw [e9] <;> decide) h
      replace h := ifF (by rw [e9] <;> decide) h
      replace h := ifT (by rw [e9] <;> decide) h
      refine Y_aload_n (pc := 141) (j := 1) dX6_noteAhead_141 rfl rfl ?_
      refine Y_bipush (pc := 142) (v := (11 : Int32)) dX6_noteAhead_142 rfl ?_
      refine Z_puti (pc := 144) dX6_noteAhead_144 w2_77 (lk_48 hP3) fi_6_15 (Or.inl rfl) rfl ?_
      obtain ⟨M5, eM5, h⟩ := bndE h
      refine VV.mem eM5 ?_
      have hP5 := hP3.wI eM5
      refine Y_goto (pc := 147) (tgt := 213) dX6_noteAhead_147 (by decide) ?_
      refine VV.sub [1] rfl ?_
      exact b_X6_noteAhead_213  hP5 h
    · intro e9
      replace h := ifF (by rw [e9] <;> decide) h
      replace h := ifF (by rw [e9] <;> decide) h
      replace h := ifF (by rw [e9] <;> decide) h
      replace h := ifF (by rw [e9] <;> decide) h
      replace h := ifF (by rw [e9] <;> decide) h
      replace h := ifF (by rw [e9] <;> decide) h
      refine Y_aload_n (pc := 207) (j := 1) dX6_noteAhead_207 rfl rfl ?_
      refine Y_aload_n (pc := 208) (j := 2) dX6_noteAhead_208 rfl rfl ?_
      refine Y_iload_n (pc := 209) (j := 0) dX6_noteAhead_209 rfl rfl ?_
      obtain ⟨y9, qy9, h⟩ := bindE h
      have cy9 := v_X6_noteTwoValues hP3 qy9
      refine C_V2o (pc := 210) (k' := k_X6_noteTwoValues) dX6_noteAhead_210 w6_181 i_X6_noteTwoValues (lk_48 hP3) ⟨Nat.le_of_ble_eq_true rfl, Nat.le_of_ble_eq_true rfl⟩ rfl (Nat.le_of_ble_eq_true rfl) (Nat.le_of_ble_eq_true rfl) (Nat.le_of_ble_eq_true rfl) (cy9) ?_
      have hPy9 := cy9.1.1
      refine VV.sub [1] rfl ?_
      exact b_X6_noteAhead_213  hPy9 h
    · intro e9
      replace h := ifF (by rw [e9] <;> decide) h
      replace h := ifF (by rw [e9] <;> decide) h
      replace h := ifF (by rw [e9] <;> decide) h
      replace h := ifT (by rw [e9] <;> decide) h
      refine Y_aload_n (pc := 193) (j := 1) dX6_noteAhead_193 rfl rfl ?_
      refine Y_aload_n (pc := 194) (j := 2) dX6_noteAhead_194 rfl rfl ?_
      refine Y_iconst (pc := 195) (v := (2 : Int32)) dX6_noteAhead_195 rfl ?_
      obtain ⟨y3, qy3, h⟩ := bindE h
      have cy3 := v_X6_askShape hP3 qy3
      refine C_V2o (pc := 196) (k' := k_X6_askShape) dX6_noteAhead_196 w6_171 i_X6_askShape (lk_48 hP3) ⟨Nat.le_of_ble_eq_true rfl, Nat.le_of_ble_eq_true rfl⟩ rfl (Nat.le_of_ble_eq_true rfl) (Nat.le_of_ble_eq_true rfl) (Nat.le_of_ble_eq_true rfl) (cy3) ?_
      have hPy3 := cy3.1.1
      refine Y_aload_n (pc := 199) (j := 1) dX6_noteAhead_199 rfl rfl ?_
      refine Y_aload_n (pc := 200) (j := 2) dX6_noteAhead_200 rfl rfl ?_
      obtain ⟨y4, qy4, h⟩ := bindE h
      have cy4 := v_X6_forgetOtherShapes hPy3 qy4
      refine C_V1o (pc := 201) (k' := k_X6_forgetOtherShapes) dX6_noteAhead_201 w6_175 i_X6_forgetOtherShapes (lk_48 hPy3) ⟨Nat.le_of_ble_eq_true rfl, Nat.le_of_ble_eq_true rfl⟩ rfl (Nat.le_of_ble_eq_true rfl) (Nat.le_of_ble_eq_true rfl) (Nat.le_of_ble_eq_true rfl) (cy4) ?_
      have hPy4 := cy4.1.1
      refine Y_goto (pc := 204) (tgt := 213) dX6_noteAhead_204 (by decide) ?_
      refine VV.sub [1] rfl ?_
      exact b_X6_noteAhead_213  hPy4 h
    · intro e9
      replace h := ifF (by rw [e9] <;> decide) h
      replace h := ifF (by rw [e9] <;> decide) h
      replace h := ifF (by rw [e9] <;> decide) h
      replace h := ifF (by rw [e9] <;> decide) h
      replace h := ifF (by rw [e9] <;> decide) h
      replace h := ifF (by rw [e9] <;> decide) h
      refine Y_aload_n (pc := 207) (j := 1) dX6_noteAhead_207 rfl rfl ?_
      refine Y_aload_n (pc := 208) (j := 2) dX6_noteAhead_208 rfl rfl ?_
      refine Y_iload_n (pc := 209) (j := 0) dX6_noteAhead_209 rfl rfl ?_
      obtain ⟨y9, qy9, h⟩ := bindE h
      have cy9 := v_X6_noteTwoValues hP3 qy9
      refine C_V2o (pc := 210) (k' := k_X6_noteTwoValues) dX6_noteAhead_210 w6_181 i_X6_noteTwoValues (lk_48 hP3) ⟨Nat.le_of_ble_eq_true rfl, Nat.le_of_ble_eq_true rfl⟩ rfl (Nat.le_of_ble_eq_true rfl) (Nat.le_of_ble_eq_true rfl) (Nat.le_of_ble_eq_true rfl) (cy9) ?_
      have hPy9 := cy9.1.1
      refine VV.sub [1] rfl ?_
      exact b_X6_noteAhead_213  hPy9 h
    · intro e9
      replace h := ifF (by rw [e9] <;> decide) h
      replace h := ifF (by rw [e9] <;> decide) h
      replace h := ifF (by rw [e9] <;> decide) h
      replace h := ifF (by rw [e9] <;> decide) h
      replace h := ifF (by rw [e9] <;> decide) h
      replace h := ifF (by rw [e9] <;> decide) h
      refine Y_aload_n (pc := 207) (j := 1) dX6_noteAhead_207 rfl rfl ?_
      refine Y_aload_n (pc := 208) (j := 2) dX6_noteAhead_208 rfl rfl ?_
      refine Y_iload_n (pc := 209) (j := 0) dX6_noteAhead_209 rfl rfl ?_
      obtain ⟨y9, qy9, h⟩ := bindE h
      have cy9 := v_X6_noteTwoValues hP3 qy9
      refine C_V2o (pc := 210) (k' := k_X6_noteTwoValues) dX6_noteAhead_210 w6_181 i_X6_noteTwoValues (lk_48 hP3) ⟨Nat.le_of_ble_eq_true rfl, Nat.le_of_ble_eq_true rfl⟩ rfl (Nat.le_of_ble_eq_true rfl) (Nat.le_of_ble_eq_true rfl) (Nat.le_of_ble_eq_true rfl) (cy9) ?_
      have hPy9 := cy9.1.1
      refine VV.sub [1] rfl ?_
      exact b_X6_noteAhead_213  hPy9 h
    · intro e9
      replace h := ifF (by rw [e9] <;> decide) h
      replace h := ifF (by rw [e9] <;> decide) h
      replace h := ifF (by rw [e9] <;> decide) h
      replace h := ifF (by rw [e9] <;> decide) h
      replace h := ifF (by rw [e9] <;> decide) h
      replace h := ifF (by rw [e9] <;> decide) h
      refine Y_aload_n (pc := 207) (j := 1) dX6_noteAhead_207 rfl rfl ?_
      refine Y_aload_n (pc := 208) (j := 2) dX6_noteAhead_208 rfl rfl ?_
      refine Y_iload_n (pc := 209) (j := 0) dX6_noteAhead_209 rfl rfl ?_
      obtain ⟨y9, qy9, h⟩ := bindE h
      have cy9 := v_X6_noteTwoValues hP3 qy9
      refine C_V2o (pc := 210) (k' := k_X6_noteTwoValues) dX6_noteAhead_210 w6_181 i_X6_noteTwoValues (lk_48 hP3) ⟨Nat.le_of_ble_eq_true rfl, Nat.le_of_ble_eq_true rfl⟩ rfl (Nat.le_of_ble_eq_true rfl) (Nat.le_of_ble_eq_true rfl) (Nat.le_of_ble_eq_true rfl) (cy9) ?_
      have hPy9 := cy9.1.1
      refine VV.sub [1] rfl ?_
      exact b_X6_noteAhead_213  hPy9 h
    · intro e9
      replace h := ifF (by rw [e9] <;> decide) h
      replace h := ifF (by rw [e9] <;> decide) h
      replace h := ifF (by rw [e9] <;> decide) h
      replace h := ifF (by rw [e9] <;> decide) h
      replace h := ifF (by rw [e9] <;> decide) h
      replace h := ifF (by rw [e9] <;> decide) h
      refine Y_aload_n (pc := 207) (j := 1) dX6_noteAhead_207 rfl rfl ?_
      refine Y_aload_n (pc := 208) (j := 2) dX6_noteAhead_208 rfl rfl ?_
      refine Y_iload_n (pc := 209) (j := 0) dX6_noteAhead_209 rfl rfl ?_
      obtain ⟨y9, qy9, h⟩ := bindE h
      have cy9 := v_X6_noteTwoValues hP3 qy9
      refine C_V2o (pc := 210) (k' := k_X6_noteTwoValues) dX6_noteAhead_210 w6_181 i_X6_noteTwoValues (lk_48 hP3) ⟨Nat.le_of_ble_eq_true rfl, Nat.le_of_ble_eq_true rfl⟩ rfl (Nat.le_of_ble_eq_true rfl) (Nat.le_of_ble_eq_true rfl) (Nat.le_of_ble_eq_true rfl) (cy9) ?_
      have hPy9 := cy9.1.1
      refine VV.sub [1] rfl ?_
      exact b_X6_noteAhead_213  hPy9 h
    · intro e9
      replace h := ifF (by rw [e9] <;> decide) h
      replace h := ifF (by rw [e9] <;> decide) h
      replace h := ifF (by rw [e9] <;> decide) h
      replace h := ifF (by rw [e9] <;> decide) h
      replace h := ifF (by rw [e9] <;> decide) h
      replace h := ifF (by rw [e9] <;> decide) h
      refine Y_aload_n (pc := 207) (j := 1) dX6_noteAhead_207 rfl rfl ?_
      refine Y_aload_n (pc := 208) (j := 2) dX6_noteAhead_208 rfl rfl ?_
      refine Y_iload_n (pc := 209) (j := 0) dX6_noteAhead_209 rfl rfl ?_
      obtain ⟨y9, qy9, h⟩ := bindE h
      have cy9 := v_X6_noteTwoValues hP3 qy9
      refine C_V2o (pc := 210) (k' := k_X6_noteTwoValues) dX6_noteAhead_210 w6_181 i_X6_noteTwoValues (lk_48 hP3) ⟨Nat.le_of_ble_eq_true rfl, Nat.le_of_ble_eq_true rfl⟩ rfl (Nat.le_of_ble_eq_true rfl) (Nat.le_of_ble_eq_true rfl) (Nat.le_of_ble_eq_true rfl) (cy9) ?_
      have hPy9 := cy9.1.1
      refine VV.sub [1] rfl ?_
      exact b_X6_noteAhead_213  hPy9 h
    · intro e9
      replace h := ifF (by rw [e9] <;> decide) h
      replace h := ifF (by rw [e9] <;> decide) h
      replace h := ifF (by rw [e9] <;> decide) h
      replace h := ifF (by rw [e9] <;> decide) h
      replace h := ifF (by rw [e9] <;> decide) h
      replace h := ifF (by rw [e9] <;> decide) h
      refine Y_aload_n (pc := 207) (j := 1) dX6_noteAhead_207 rfl rfl ?_
      refine Y_aload_n (pc := 208) (j := 2) dX6_noteAhead_208 rfl rfl ?_
      refine Y_iload_n (pc := 209) (j := 0) dX6_noteAhead_209 rfl rfl ?_
      obtain ⟨y9, qy9, h⟩ := bindE h
      have cy9 := v_X6_noteTwoValues hP3 qy9
      refine C_V2o (pc := 210) (k' := k_X6_noteTwoValues) dX6_noteAhead_210 w6_181 i_X6_noteTwoValues (lk_48 hP3) ⟨Nat.le_of_ble_eq_true rfl, Nat.le_of_ble_eq_true rfl⟩ rfl (Nat.le_of_ble_eq_true rfl) (Nat.le_of_ble_eq_true rfl) (Nat.le_of_ble_eq_true rfl) (cy9) ?_
      have hPy9 := cy9.1.1
      refine VV.sub [1] rfl ?_
      exact b_X6_noteAhead_213  hPy9 h
    · intro e9
      replace h := ifF (by rw [e9] <;> decide) h
      replace h := ifF (by rw [e9] <;> decide) h
      replace h := ifF (by rw [e9] <;> decide) h
      replace h := ifF (by rw [e9] <;> decide) h
      replace h := ifT (by rw [e9] <;> decide) h
      refine Y_aload_n (pc := 150) (j := 1) dX6_noteAhead_150 rfl rfl ?_
      refine Y_aload_n (pc := 151) (j := 1) dX6_noteAhead_151 rfl rfl ?_
      refine Y_aload_n (pc := 152) (j := 1) dX6_noteAhead_152 rfl rfl ?_
      refine Y_aload_n (pc := 153) (j := 2) dX6_noteAhead_153 rfl rfl ?_
      refine Y_iconst (pc := 154) (v := (1 : Int32)) dX6_noteAhead_154 rfl ?_
      refine Y_iconst (pc := 155) (v := (4 : Int32)) dX6_noteAhead_155 rfl ?_
      obtain ⟨y5, qy5, h⟩ := bindE h
      have cy5 := v_X6_isKnown hP3 qy5
      refine C_V3r (pc := 156) (k' := k_X6_isKnown) dX6_noteAhead_156 w6_144 i_X6_isKnown (lk_48 hP3) ⟨Nat.le_of_ble_eq_true rfl, Nat.le_of_ble_eq_true rfl⟩ rfl (Nat.le_of_ble_eq_true rfl) (Nat.le_of_ble_eq_true rfl) (Nat.le_of_ble_eq_true rfl) (cy5) ?_
      have hPy5 := cy5.1.1
      obtain ⟨y6, qy6, h⟩ := bindE h
      have cy6 := v_X6_madeOf hPy5 qy6
      refine C_V1r (pc := 159) (k' := k_X6_madeOf) dX6_noteAhead_159 w6_149 i_X6_madeOf (lk_48 hPy5) ⟨Nat.le_of_ble_eq_true rfl, Nat.le_of_ble_eq_true rfl⟩ rfl (Nat.le_of_ble_eq_true rfl) (Nat.le_of_ble_eq_true rfl) (Nat.le_of_ble_eq_true rfl) (cy6) ?_
      have hPy6 := cy6.1.1
      refine Z_puti (pc := 162) dX6_noteAhead_162 w2_77 (lk_48 hPy6) fi_6_15 (Or.inl rfl) rfl ?_
      obtain ⟨M6, eM6, h⟩ := bndE h
      refine VV.mem eM6 ?_
      have hP6 := hPy6.wI eM6
      refine Y_aload_n (pc := 165) (j := 1) dX6_noteAhead_165 rfl rfl ?_
      refine Y_aload_n (pc := 166) (j := 2) dX6_noteAhead_166 rfl rfl ?_
      refine Y_iconst (pc := 167) (v := (1 : Int32)) dX6_noteAhead_167 rfl ?_
      obtain ⟨y7, qy7, h⟩ := bindE h
      have cy7 := v_X6_askKind hP6 qy7
      refine C_V2o (pc := 168) (k' := k_X6_askKind) dX6_noteAhead_168 w6_153 i_X6_askKind (lk_48 hP6) ⟨Nat.le_of_ble_eq_true rfl, Nat.le_of_ble_eq_true rfl⟩ rfl (Nat.le_of_ble_eq_true rfl) (Nat.le_of_ble_eq_true rfl) (Nat.le_of_ble_eq_true rfl) (cy7) ?_
      have hPy7 := cy7.1.1
      refine Y_goto (pc := 171) (tgt := 213) dX6_noteAhead_171 (by decide) ?_
      refine VV.sub [1] rfl ?_
      exact b_X6_noteAhead_213  hPy7 h
    · intro e9
      replace h := ifF (by rw [e9] <;> decide) h
      replace h := ifF (by rw [e9] <;> decide) h
      replace h := ifF (by rw [e9] <;> decide) h
      replace h := ifF (by rw [e9] <;> decide) h
      replace h := ifF (by rw [e9] <;> decide) h
      replace h := ifF (by rw [e9] <;> decide) h
      refine Y_aload_n (pc := 207) (j := 1) dX6_noteAhead_207 rfl rfl ?_
      refine Y_aload_n (pc := 208) (j := 2) dX6_noteAhead_208 rfl rfl ?_
      refine Y_iload_n (pc := 209) (j := 0) dX6_noteAhead_209 rfl rfl ?_
      obtain ⟨y9, qy9, h⟩ := bindE h
      have cy9 := v_X6_noteTwoValues hP3 qy9
      refine C_V2o (pc := 210) (k' := k_X6_noteTwoValues) dX6_noteAhead_210 w6_181 i_X6_noteTwoValues (lk_48 hP3) ⟨Nat.le_of_ble_eq_true rfl, Nat.le_of_ble_eq_true rfl⟩ rfl (Nat.le_of_ble_eq_true rfl) (Nat.le_of_ble_eq_true rfl) (Nat.le_of_ble_eq_true rfl) (cy9) ?_
      have hPy9 := cy9.1.1
      refine VV.sub [1] rfl ?_
      exact b_X6_noteAhead_213  hPy9 h
    · intro e9
      replace h := ifF (by rw [e9] <;> decide) h
      replace h := ifF (by rw [e9] <;> decide) h
      replace h := ifF (by rw [e9] <;> decide) h
      replace h := ifF (by rw [e9] <;> decide) h
      replace h := ifF (by rw [e9] <;> decide) h
      replace h := ifF (by rw [e9] <;> decide) h
      refine Y_aload_n (pc := 207) (j := 1) dX6_noteAhead_207 rfl rfl ?_
      refine Y_aload_n (pc := 208) (j := 2) dX6_noteAhead_208 rfl rfl ?_
      refine Y_iload_n (pc := 209) (j := 0) dX6_noteAhead_209 rfl rfl ?_
      obtain ⟨y9, qy9, h⟩ := bindE h
      have cy9 := v_X6_noteTwoValues hP3 qy9
      refine C_V2o (pc := 210) (k' := k_X6_noteTwoValues) dX6_noteAhead_210 w6_181 i_X6_noteTwoValues (lk_48 hP3) ⟨Nat.le_of_ble_eq_true rfl, Nat.le_of_ble_eq_true rfl⟩ rfl (Nat.le_of_ble_eq_true rfl) (Nat.le_of_ble_eq_true rfl) (Nat.le_of_ble_eq_true rfl) (cy9) ?_
      have hPy9 := cy9.1.1
      refine VV.sub [1] rfl ?_
      exact b_X6_noteAhead_213  hPy9 h
    · intro e9
      replace h := ifF (by rw [e9] <;> decide) h
      replace h := ifF (by rw [e9] <;> decide) h
      replace h := ifF (by rw [e9] <;> decide) h
      replace h := ifF (by rw [e9] <;> decide) h
      replace h := ifF (by rw [e9] <;> decide) h
      replace h := ifT (by rw [e9] <;> decide) h
      refine Y_aload_n (pc := 174) (j := 1) dX6_noteAhead_174 rfl rfl ?_
      refine Y_aload_n (pc := 175) (j := 2) dX6_noteAhead_175 rfl rfl ?_
      refine Y_bipush (pc := 176) (v := (116 : Int32)) dX6_noteAhead_176 rfl ?_
      obtain ⟨y8, qy8, h⟩ := bindE h
      have cy8 := v_X6_askNullness hP3 qy8
      refine C_V2o (pc := 178) (k' := k_X6_askNullness) dX6_noteAhead_178 w6_167 i_X6_askNullness (lk_48 hP3) ⟨Nat.le_of_ble_eq_true rfl, Nat.le_of_ble_eq_true rfl⟩ rfl (Nat.le_of_ble_eq_true rfl) (Nat.le_of_ble_eq_true rfl) (Nat.le_of_ble_eq_true rfl) (cy8) ?_
      have hPy8 := cy8.1.1
      refine Y_goto (pc := 181) (tgt := 213) dX6_noteAhead_181 (by decide) ?_
      refine VV.sub [1] rfl ?_
      exact b_X6_noteAhead_213  hPy8 h
  · intro n9
    replace h := ifF (fun q => q.elim (xs_no n9 (by decide : ((103 : Int32), 184) ∈ _)) (xs_no n9 (by decide : ((109 : Int32), 184) ∈ _))) h
    replace h := ifF (fun q => q.elim (xs_no n9 (by decide : ((105 : Int32), 132) ∈ _)) (xs_no n9 (by decide : ((107 : Int32), 132) ∈ _))) h
    replace h := ifF (xs_no n9 (by decide : ((110 : Int32), 141) ∈ _)) h
    replace h := ifF (xs_no n9 (by decide : ((112 : Int32), 193) ∈ _)) h
    replace h := ifF (xs_no n9 (by decide : ((119 : Int32), 150) ∈ _)) h
    replace h := ifF (xs_no n9 (by decide : ((122 : Int32), 174) ∈ _)) h
    refine Y_aload_n (pc := 207) (j := 1) dX6_noteAhead_207 rfl rfl ?_
    refine Y_aload_n (pc := 208) (j := 2) dX6_noteAhead_208 rfl rfl ?_
    refine Y_iload_n (pc := 209) (j := 0) dX6_noteAhead_209 rfl rfl ?_
    obtain ⟨y9, qy9, h⟩ := bindE h
    have cy9 := v_X6_noteTwoValues hP3 qy9
    refine C_V2o (pc := 210) (k' := k_X6_noteTwoValues) dX6_noteAhead_210 w6_181 i_X6_noteTwoValues (lk_48 hP3) ⟨Nat.le_of_ble_eq_true rfl, Nat.le_of_ble_eq_true rfl⟩ rfl (Nat.le_of_ble_eq_true rfl) (Nat.le_of_ble_eq_true rfl) (Nat.le_of_ble_eq_true rfl) (cy9) ?_
    have hPy9 := cy9.1.1
    refine VV.sub [1] rfl ?_
    exact b_X6_noteAhead_213  hPy9 h
theorem v_X6_noteAhead {M z} (hP : Lay M) (h : d_X6_noteAhead M = some z) : CC Lay k_X6_noteAhead [.ref 48, .ref 18] M z.2 (Qv (none) z.2) xF :=
  CC.ofVV (by decide) rfl (Nat.le_of_ble_eq_true rfl) (b_X6_noteAhead hP h)
theorem b_X6_giveFacts {x2 : Int32} {x3 : Int32} {M z} (hP : Lay M) (h : d_X6_giveFacts x2 x3 M = some z) : VV Lay k_X6_giveFacts 0 [(0, .ref 48), (1, .ref 19), (2, .int x2), (3, .int x3)] [] M z.2 (Qv (none) z.2) xF := by
  unfold d_X6_giveFacts at h
  refine Y_aload_n (pc := 0) (j := 1) dX6_giveFacts_0 rfl rfl ?_
  refine Z_getr (pc := 1) dX6_giveFacts_1 w1_156 (lk_19 hP) fr_8_3 (lr_19_3 hP) ?_
  refine Y_iload_n (pc := 4) (j := 2) dX6_giveFacts_4 rfl rfl ?_
  refine Y_aload_n (pc := 5) (j := 0) dX6_giveFacts_5 rfl rfl ?_
  refine Z_geti (pc := 6) dX6_giveFacts_6 w2_65 (lk_48 hP) fi_6_9 ?_
  obtain ⟨hb1, h⟩ := okE h
  refine Y_iast (pc := 9) dX6_giveFacts_9 (lk_23 hP) (ln_23 hP) hb1 ?_
  obtain ⟨M1, eM1, h⟩ := bndE h
  refine VV.mem eM1 ?_
  have hP1 := hP.wI eM1
  refine Y_aload_n (pc := 10) (j := 0) dX6_giveFacts_10 rfl rfl ?_
  refine Z_getr (pc := 11) dX6_giveFacts_11 w2_59 (lk_48 hP1) fr_6_6 (lr_48_6 hP1) ?_
  refine Y_aload_n (pc := 14) (j := 0) dX6_giveFacts_14 rfl rfl ?_
  refine Z_geti (pc := 15) dX6_giveFacts_15 w2_65 (lk_48 hP1) fi_6_9 ?_
  refine Y_iload_n (pc := 18) (j := 3) dX6_giveFacts_18 rfl rfl ?_
  obtain ⟨hb2, h⟩ := okE h
  refine Y_iast (pc := 19) dX6_giveFacts_19 (lk_55 hP1) (ln_55 hP1) hb2 ?_
  obtain ⟨M2, eM2, h⟩ := bndE h
  refine VV.mem eM2 ?_
  have hP2 := hP1.wI eM2
  refine Y_aload_n (pc := 20) (j := 0) dX6_giveFacts_20 rfl rfl ?_
  refine Y_dup (pc := 21) dX6_giveFacts_21 rfl ?_
  refine Z_geti (pc := 22) dX6_giveFacts_22 w2_65 (lk_48 hP2) fi_6_9 ?_
  refine Y_iconst (pc := 25) (v := (1 : Int32)) dX6_giveFacts_25 rfl ?_
  refine Y_iadd (pc := 26) dX6_giveFacts_26 ?_
  refine Z_puti (pc := 27) dX6_giveFacts_27 w2_65 (lk_48 hP2) fi_6_9 (Or.inl rfl) rfl ?_
  obtain ⟨M3, eM3, h⟩ := bndE h
  refine VV.mem eM3 ?_
  have hP3 := hP2.wI eM3
  cases h
  exact Y_vret (pc := 30) rfl dX6_giveFacts_30 hP3 ⟨rfl, rfl⟩
theorem v_X6_giveFacts {x2 : Int32} {x3 : Int32} {M z} (hP : Lay M) (h : d_X6_giveFacts x2 x3 M = some z) : CC Lay k_X6_giveFacts [.ref 48, .ref 19, .int x2, .int x3] M z.2 (Qv (none) z.2) xF :=
  CC.ofVV (by decide) rfl (Nat.le_of_ble_eq_true rfl) (b_X6_giveFacts hP h)
theorem b_X6_noteBehind_62b {k62 : (Int32) → Mem → Option (Unit × Mem)} {x3 : Int32} {x4 : Int32} {M z} (hk62 : ∀ (a : (Int32)) (M : Mem) (z : Unit × Mem), Lay M → k62 a M = some z → VV Lay k_X6_noteBehind 62 [(0, .ref 48), (1, .ref 18), (3, .int x3), (4, .int a)] [] M z.2 (Qv (none) z.2) xF) (hP : Lay M) (h : d_X6_noteBehind_62b k62 x3 x4 M = some z) : VV Lay k_X6_noteBehind 62 [(0, .ref 48), (1, .ref 18), (3, .int x3), (4, .int x4)] [] M z.2 (Qv (none) z.2) xF := by
  unfold d_X6_noteBehind_62b at h
  refine Y_iload (pc := 62) (j := 3) dX6_noteBehind_62 rfl ?_
  refine Y_bipush (pc := 64) (v := (6 : Int32)) dX6_noteBehind_64 rfl ?_
  refine Y_icmp_ge (pc := 66) (tgt := 90) dX6_noteBehind_66 (by decide) (fun hc1 => ?_) (fun hc1 => ?_)
  · replace h := ifT hc1 h
    cases h
    exact Y_vret (pc := 90) rfl dX6_noteBehind_90 hP ⟨rfl, rfl⟩
  · replace h := ifF hc1 h
    refine Y_aload_n (pc := 69) (j := 0) dX6_noteBehind_69 rfl rfl ?_
    refine Y_aload_n (pc := 70) (j := 1) dX6_noteBehind_70 rfl rfl ?_
    refine Z_getr (pc := 71) dX6_noteBehind_71 w1_172 (lk_18 hP) fr_4_2 (lr_18_2 hP) ?_
    refine Y_iload_n (pc := 74) (j := 2) dX6_noteBehind_74 rfl rfl ?_
    refine Y_iload (pc := 75) (j := 3) dX6_noteBehind_75 rfl ?_
    obtain ⟨y1, qy1, h⟩ := bindE h
    have cy1 := v_X11_localPlace hP qy1
    refine C_N2r (pc := 77) (k' := k_X11_localPlace) dX6_noteBehind_77 nl_Recorder_185 i_X11_localPlace (Nat.le_of_ble_eq_true rfl) (Nat.le_of_ble_eq_true rfl) (Nat.le_of_ble_eq_true rfl) (cy1) ?_
    have hPy1 := cy1.1.1
    refine Y_iconst (pc := 80) (v := (3 : Int32)) dX6_noteBehind_80 rfl ?_
    obtain ⟨y2, qy2, h⟩ := bindE h
    have cy2 := v_X6_giveFacts hPy1 qy2
    refine C_V3o (pc := 81) (k' := k_X6_giveFacts) dX6_noteBehind_81 w6_194 i_X6_giveFacts (lk_48 hPy1) ⟨Nat.le_of_ble_eq_true rfl, Nat.le_of_ble_eq_true rfl⟩ rfl (Nat.le_of_ble_eq_true rfl) (Nat.le_of_ble_eq_true rfl) (Nat.le_of_ble_eq_true rfl) (cy2) ?_
    have hPy2 := cy2.1.1
    obtain ⟨b1, eb1, h⟩ := bndE h
    refine Y_iinc (pc := 84) (j := 3) (v := b1) (lv1 := [(4, .int b1), (0, .ref 48), (1, .ref 18), (3, .int x3)]) dX6_noteBehind_84 rfl eb1.symm (by decide) rfl ?_
    refine Y_goto (pc := 87) (tgt := 62) dX6_noteBehind_87 (by decide) ?_
    refine VV.sub [1, 2, 3, 0] rfl ?_
    exact hk62 _ _ _ hPy2 h
theorem b_X6_noteBehind_62 {x3 : Int32} (n : Nat) : ∀ (a : (Int32)) (M : Mem) (z : Unit × Mem), d_X6_noteBehind_62 x3 n a M = some z → Lay M → VV Lay k_X6_noteBehind 62 [(0, .ref 48), (1, .ref 18), (3, .int x3), (4, .int a)] [] M z.2 (Qv (none) z.2) xF :=
  lp_ind (G := fun (a : (Int32)) (M : Mem) (z : Unit × Mem) => Lay M → VV Lay k_X6_noteBehind 62 [(0, .ref 48), (1, .ref 18), (3, .int x3), (4, .int a)] [] M z.2 (Qv (none) z.2) xF) (fun k hk a M z h hP => b_X6_noteBehind_62b  (fun a M z hP h => hk a M z h hP) hP h) n
theorem b_X6_noteBehind_41 {M z} (hP : Lay M) (h : d_X6_noteBehind_41 M = some z) : VV Lay k_X6_noteBehind 41 [(0, .ref 48), (1, .ref 18)] [] M z.2 (Qv (none) z.2) xF := by
  unfold d_X6_noteBehind_41 at h
  refine Y_aload_n (pc := 41) (j := 1) dX6_noteBehind_41 rfl rfl ?_
  refine Z_geti (pc := 42) dX6_noteBehind_42 w1_185 (lk_18 hP) fi_4_9 ?_
  refine Y_iconst (pc := 45) (v := (1 : Int32)) dX6_noteBehind_45 rfl ?_
  refine Y_isub (pc := 46) dX6_noteBehind_46 ?_
  obtain ⟨b1, eb1, h⟩ := bndE h
  refine VV.topI eb1 ?_
  refine Y_istore_n (pc := 47) (lv1 := [(3, .int b1), (0, .ref 48), (1, .ref 18)]) dX6_noteBehind_47 rfl (by decide) rfl ?_
  refine Y_aload_n (pc := 48) (j := 2) dX6_noteBehind_48 rfl rfl ?_
  refine Z_getr (pc := 49) dX6_noteBehind_49 w1_168 (lk_18 hP) fr_4_0 (lr_18_0 hP) ?_
  refine Z_getr (pc := 52) dX6_noteBehind_52 w1_54 (lk_2 hP) fr_5_0 (lr_2_0 hP) ?_
  refine Y_aload_n (pc := 55) (j := 2) dX6_noteBehind_55 rfl rfl ?_
  obtain ⟨y1, qy1, h⟩ := bindE h
  have cy1 := v_X3_functionAhead (Or.inl rfl) hP qy1
  refine C_V0r (pc := 56) (k' := k_X3_functionAhead) dX6_noteBehind_56 w6_198 i_X3_functionAhead (lk_18 hP) ⟨Nat.le_of_ble_eq_true rfl, Nat.le_of_ble_eq_true rfl⟩ rfl (Nat.le_of_ble_eq_true rfl) (Nat.le_of_ble_eq_true rfl) (Nat.le_of_ble_eq_true rfl) (cy1) ?_
  have hPy1 := cy1.1.1
  obtain ⟨hb1, h⟩ := okE h
  refine Y_iald (pc := 59) dX6_noteBehind_59 (lk_3 hPy1) (ln_3 hPy1) hb1 ?_
  obtain ⟨b2, eb2, h⟩ := bndE h
  refine VV.topI eb2 ?_
  refine Y_istore (pc := 60) (lv1 := [(4, .int b2), (3, .int b1), (0, .ref 48), (1, .ref 18)]) dX6_noteBehind_60 (by decide) rfl ?_
  refine VV.sub [2, 3, 1, 0] rfl ?_
  exact b_X6_noteBehind_62  fuel _ _ _ h hPy1
theorem b_X6_noteBehind {x2 : Int32} {M z} (hP : Lay M) (h : d_X6_noteBehind x2 M = some z) : VV Lay k_X6_noteBehind 0 [(0, .ref 48), (1, .ref 18), (2, .int x2)] [] M z.2 (Qv (none) z.2) xF := by
  unfold d_X6_noteBehind at h
  refine Y_ldcS (pc := 0) (i := 5) dX6_noteBehind_0 rfl ?_
  refine Y_iload_n (pc := 2) (j := 2) dX6_noteBehind_2 rfl rfl ?_
  refine Y_indexOf (pc := 3) dX6_noteBehind_3 w6_186 (i := 5) (by decide) (Nat.le_of_ble_eq_true rfl) (Nat.le_of_ble_eq_true rfl) (Nat.le_of_ble_eq_true rfl) ?_
  refine Y_if_lt (pc := 6) (tgt := 29) dX6_noteBehind_6 (by decide) (fun hc1 => ?_) (fun hc1 => ?_)
  · replace h := ifT hc1 h
    refine Y_iload_n (pc := 29) (j := 2) dX6_noteBehind_29 rfl rfl ?_
    refine Y_bipush (pc := 30) (v := (99 : Int32)) dX6_noteBehind_30 rfl ?_
    refine Y_icmp_eq (pc := 32) (tgt := 41) dX6_noteBehind_32 (by decide) (fun hc2 => ?_) (fun hc2 => ?_)
    · replace h := ifT hc2 h
      refine VV.sub [0, 1] rfl ?_
      exact b_X6_noteBehind_41  hP h
    · replace h := ifF hc2 h
      refine Y_iload_n (pc := 35) (j := 2) dX6_noteBehind_35 rfl rfl ?_
      refine Y_bipush (pc := 36) (v := (109 : Int32)) dX6_noteBehind_36 rfl ?_
      refine Y_icmp_ne (pc := 38) (tgt := 90) dX6_noteBehind_38 (by decide) (fun hc3 => ?_) (fun hc3 => ?_)
      · replace h := ifF hc3 h
        cases h
        exact Y_vret (pc := 90) rfl dX6_noteBehind_90 hP ⟨rfl, rfl⟩
      · replace h := ifT hc3 h
        refine VV.sub [0, 1] rfl ?_
        exact b_X6_noteBehind_41  hP h
  · replace h := ifF hc1 h
    refine Y_aload_n (pc := 9) (j := 0) dX6_noteBehind_9 rfl rfl ?_
    refine Y_aload_n (pc := 10) (j := 1) dX6_noteBehind_10 rfl rfl ?_
    refine Z_getr (pc := 11) dX6_noteBehind_11 w1_172 (lk_18 hP) fr_4_2 (lr_18_2 hP) ?_
    refine Y_aload_n (pc := 14) (j := 1) dX6_noteBehind_14 rfl rfl ?_
    refine Y_iconst (pc := 15) (v := (1 : Int32)) dX6_noteBehind_15 rfl ?_
    obtain ⟨y1, qy1, h⟩ := bindE h
    have cy1 := v_X3_fromTop (Or.inl rfl) hP qy1
    refine C_V1r (pc := 16) (k' := k_X3_fromTop) dX6_noteBehind_16 w6_148 i_X3_fromTop (lk_18 hP) ⟨Nat.le_of_ble_eq_true rfl, Nat.le_of_ble_eq_true rfl⟩ rfl (Nat.le_of_ble_eq_true rfl) (Nat.le_of_ble_eq_true rfl) (Nat.le_of_ble_eq_true rfl) (cy1) ?_
    have hPy1 := cy1.1.1
    refine Y_aload_n (pc := 19) (j := 0) dX6_noteBehind_19 rfl rfl ?_
    refine Z_geti (pc := 20) dX6_noteBehind_20 w2_77 (lk_48 hPy1) fi_6_15 ?_
    obtain ⟨y2, qy2, h⟩ := bindE h
    have cy2 := v_X6_giveFacts hPy1 qy2
    refine C_V3o (pc := 23) (k' := k_X6_giveFacts) dX6_noteBehind_23 w6_194 i_X6_giveFacts (lk_48 hPy1) ⟨Nat.le_of_ble_eq_true rfl, Nat.le_of_ble_eq_true rfl⟩ rfl (Nat.le_of_ble_eq_true rfl) (Nat.le_of_ble_eq_true rfl) (Nat.le_of_ble_eq_true rfl) (cy2) ?_
    have hPy2 := cy2.1.1
    refine Y_goto (pc := 26) (tgt := 90) dX6_noteBehind_26 (by decide) ?_
    cases h
    exact Y_vret (pc := 90) rfl dX6_noteBehind_90 hPy2 ⟨rfl, rfl⟩
theorem v_X6_noteBehind {x2 : Int32} {M z} (hP : Lay M) (h : d_X6_noteBehind x2 M = some z) : CC Lay k_X6_noteBehind [.ref 48, .ref 18, .int x2] M z.2 (Qv (none) z.2) xF :=
  CC.ofVV (by decide) rfl (Nat.le_of_ble_eq_true rfl) (b_X6_noteBehind hP h)
theorem b_X7_init {M0 : Mem} {r0 : Nat} {M z} (hP : (Kx r0 M0) M) (h : d_X7_init r0 M = some z) : VV (Kx r0 M0) k_X7_init 0 [(0, .ref r0)] [] M z.2 (Qv (none) z.2) xF := by
  unfold d_X7_init at h
  refine Y_aload_n (pc := 0) (j := 0) dX7_init_0 rfl rfl ?_
  refine Y_oinit (pc := 1) dX7_init_1 w1_107 (Nat.le_of_ble_eq_true rfl) (Nat.le_of_ble_eq_true rfl) (Nat.le_of_ble_eq_true rfl) ?_
  refine Y_aload_n (pc := 4) (j := 0) dX7_init_4 rfl rfl ?_
  refine Y_bipush (pc := 5) (v := (60 : Int32)) dX7_init_5 rfl ?_
  obtain ⟨r_1, er_1, h⟩ := bndE h
  obtain ⟨hb1, h⟩ := okE h
  refine Y_newa (pc := 7) (a := r_1) (t := 21) (N := 60) dX7_init_7 (by decide) (by decide) rfl w1_100 (hP.free er_1) hb1 (by decide) rfl (by decide) ?_
  obtain ⟨M1, eM1, h⟩ := bndE h
  refine VV.mem eM1 ?_
  have hP1 := hP.wN er_1 (by decide) eM1
  obtain ⟨hb2, h⟩ := okE h
  refine Z_putr (pc := 9) dX7_init_9 w1_108 hb2 fr_7_0 (Or.inr ⟨rfl, rfl⟩) (Or.inr ⟨_, rfl⟩) ?_
  obtain ⟨M2, eM2, h⟩ := bndE h
  refine VV.mem eM2 ?_
  have hP2 := hP1.wR0 (by omega) eM2
  refine Y_aload_n (pc := 12) (j := 0) dX7_init_12 rfl rfl ?_
  refine Y_bipush (pc := 13) (v := (60 : Int32)) dX7_init_13 rfl ?_
  obtain ⟨r_2, er_2, h⟩ := bndE h
  obtain ⟨hb3, h⟩ := okE h
  refine Y_newa (pc := 15) (a := r_2) (t := 21) (N := 60) dX7_init_15 (by decide) (by decide) rfl w1_100 (hP2.free er_2) hb3 (by decide) rfl (by decide) ?_
  obtain ⟨M3, eM3, h⟩ := bndE h
  refine VV.mem eM3 ?_
  have hP3 := hP2.wN er_2 (by decide) eM3
  obtain ⟨hb4, h⟩ := okE h
  refine Z_putr (pc := 17) dX7_init_17 w1_110 hb4 fr_7_1 (Or.inr ⟨rfl, rfl⟩) (Or.inr ⟨_, rfl⟩) ?_
  obtain ⟨M4, eM4, h⟩ := bndE h
  refine VV.mem eM4 ?_
  have hP4 := hP3.wR0 (by omega) eM4
  refine Y_aload_n (pc := 20) (j := 0) dX7_init_20 rfl rfl ?_
  refine Y_bipush (pc := 21) (v := (60 : Int32)) dX7_init_21 rfl ?_
  obtain ⟨r_3, er_3, h⟩ := bndE h
  obtain ⟨hb5, h⟩ := okE h
  refine Y_newa (pc := 23) (a := r_3) (t := 21) (N := 60) dX7_init_23 (by decide) (by decide) rfl w1_100 (hP4.free er_3) hb5 (by decide) rfl (by decide) ?_
  obtain ⟨M5, eM5, h⟩ := bndE h
  refine VV.mem eM5 ?_
  have hP5 := hP4.wN er_3 (by decide) eM5
  obtain ⟨hb6, h⟩ := okE h
  refine Z_putr (pc := 25) dX7_init_25 w1_112 hb6 fr_7_2 (Or.inr ⟨rfl, rfl⟩) (Or.inr ⟨_, rfl⟩) ?_
  obtain ⟨M6, eM6, h⟩ := bndE h
  refine VV.mem eM6 ?_
  have hP6 := hP5.wR0 (by omega) eM6
  refine Y_aload_n (pc := 28) (j := 0) dX7_init_28 rfl rfl ?_
  refine Y_sipush (pc := 29) (v := (360 : Int32)) dX7_init_29 rfl ?_
  obtain ⟨r_4, er_4, h⟩ := bndE h
  obtain ⟨hb7, h⟩ := okE h
  refine Y_newa (pc := 32) (a := r_4) (t := 21) (N := 360) dX7_init_32 (by decide) (by decide) rfl w1_100 (hP6.free er_4) hb7 (by decide) rfl (by decide) ?_
  obtain ⟨M7, eM7, h⟩ := bndE h
  refine VV.mem eM7 ?_
  have hP7 := hP6.wN er_4 (by decide) eM7
  obtain ⟨hb8, h⟩ := okE h
  refine Z_putr (pc := 34) dX7_init_34 w1_113 hb8 fr_7_3 (Or.inr ⟨rfl, rfl⟩) (Or.inr ⟨_, rfl⟩) ?_
  obtain ⟨M8, eM8, h⟩ := bndE h
  refine VV.mem eM8 ?_
  have hP8 := hP7.wR0 (by omega) eM8
  refine Y_aload_n (pc := 37) (j := 0) dX7_init_37 rfl rfl ?_
  refine Y_sipush (pc := 38) (v := (360 : Int32)) dX7_init_38 rfl ?_
  obtain ⟨r_5, er_5, h⟩ := bndE h
  obtain ⟨hb9, h⟩ := okE h
  refine Y_newa (pc := 41) (a := r_5) (t := 21) (N := 360) dX7_init_41 (by decide) (by decide) rfl w1_100 (hP8.free er_5) hb9 (by decide) rfl (by decide) ?_
  obtain ⟨M9, eM9, h⟩ := bndE h
  refine VV.mem eM9 ?_
  have hP9 := hP8.wN er_5 (by decide) eM9
  obtain ⟨hb10, h⟩ := okE h
  refine Z_putr (pc := 43) dX7_init_43 w1_115 hb10 fr_7_4 (Or.inr ⟨rfl, rfl⟩) (Or.inr ⟨_, rfl⟩) ?_
  obtain ⟨M10, eM10, h⟩ := bndE h
  refine VV.mem eM10 ?_
  have hP10 := hP9.wR0 (by omega) eM10
  refine Y_aload_n (pc := 46) (j := 0) dX7_init_46 rfl rfl ?_
  refine Y_iconst (pc := 47) (v := (5 : Int32)) dX7_init_47 rfl ?_
  obtain ⟨r_6, er_6, h⟩ := bndE h
  obtain ⟨hb11, h⟩ := okE h
  refine Y_newa (pc := 48) (a := r_6) (t := 21) (N := 5) dX7_init_48 (by decide) (by decide) rfl w1_100 (hP10.free er_6) hb11 (by decide) rfl (by decide) ?_
  obtain ⟨M11, eM11, h⟩ := bndE h
  refine VV.mem eM11 ?_
  have hP11 := hP10.wN er_6 (by decide) eM11
  obtain ⟨hb12, h⟩ := okE h
  refine Z_putr (pc := 50) dX7_init_50 w1_117 hb12 fr_7_5 (Or.inr ⟨rfl, rfl⟩) (Or.inr ⟨_, rfl⟩) ?_
  obtain ⟨M12, eM12, h⟩ := bndE h
  refine VV.mem eM12 ?_
  have hP12 := hP11.wR0 (by omega) eM12
  cases h
  exact Y_vret (pc := 53) rfl dX7_init_53 hP12 ⟨rfl, rfl⟩
theorem v_X7_init {r0 : Nat} {M z} (hP : Fsh M) (hr : r0 ≤ nx M) (h : d_X7_init r0 M = some z) : CC (Kx r0 M) k_X7_init [.ref r0] M z.2 (Qv (none) z.2) xF :=
  CC.ofVV (by decide) rfl (Nat.le_of_ble_eq_true rfl) (b_X7_init (Kx.refl hP hr) h)
theorem b_X7_takeBack_27 {k2 : (Int32) → Mem → Option (Unit × Mem)} {x1 : Int32} {x2 : Int32} {M z} (hk2 : ∀ (a : (Int32)) (M : Mem) (z : Unit × Mem), Lay M → k2 a M = some z → VV Lay k_X7_takeBack 2 [(0, .ref 11), (1, .int x1), (2, .int a)] [] M z.2 (Qv (none) z.2) xF) (hP : Lay M) (h : d_X7_takeBack_27 k2 x1 x2 M = some z) : VV Lay k_X7_takeBack 27 [(0, .ref 11), (1, .int x1), (2, .int x2)] [] M z.2 (Qv (none) z.2) xF := by
  unfold d_X7_takeBack_27 at h
  obtain ⟨b1, eb1, h⟩ := bndE h
  refine Y_iinc (pc := 27) (j := 2) (v := b1) (lv1 := [(2, .int b1), (0, .ref 11), (1, .int x1)]) dX7_takeBack_27 rfl eb1.symm (by decide) rfl ?_
  refine Y_goto (pc := 30) (tgt := 2) dX7_takeBack_30 (by decide) ?_
  refine VV.sub [1, 2, 0] rfl ?_
  exact hk2 _ _ _ hP h
theorem b_X7_takeBack_2b {k2 : (Int32) → Mem → Option (Unit × Mem)} {x1 : Int32} {x2 : Int32} {M z} (hk2 : ∀ (a : (Int32)) (M : Mem) (z : Unit × Mem), Lay M → k2 a M = some z → VV Lay k_X7_takeBack 2 [(0, .ref 11), (1, .int x1), (2, .int a)] [] M z.2 (Qv (none) z.2) xF) (hP : Lay M) (h : d_X7_takeBack_2b k2 x1 x2 M = some z) : VV Lay k_X7_takeBack 2 [(0, .ref 11), (1, .int x1), (2, .int x2)] [] M z.2 (Qv (none) z.2) xF := by
  unfold d_X7_takeBack_2b at h
  refine Y_iload_n (pc := 2) (j := 2) dX7_takeBack_2 rfl rfl ?_
  refine Y_iload_n (pc := 3) (j := 1) dX7_takeBack_3 rfl rfl ?_
  refine Y_bipush (pc := 4) (v := (6 : Int32)) dX7_takeBack_4 rfl ?_
  refine Y_imul (pc := 6) dX7_takeBack_6 ?_
  refine Y_icmp_ge (pc := 7) (tgt := 33) dX7_takeBack_7 (by decide) (fun hc1 => ?_) (fun hc1 => ?_)
  · replace h := ifT hc1 h
    refine Y_aload_n (pc := 33) (j := 0) dX7_takeBack_33 rfl rfl ?_
    refine Y_iload_n (pc := 34) (j := 1) dX7_takeBack_34 rfl rfl ?_
    refine Z_puti (pc := 35) dX7_takeBack_35 w1_120 (lk_11 hP) fi_7_6 (Or.inl rfl) rfl ?_
    obtain ⟨M1, eM1, h⟩ := bndE h
    refine VV.mem eM1 ?_
    have hP1 := hP.wI eM1
    cases h
    exact Y_vret (pc := 38) rfl dX7_takeBack_38 hP1 ⟨rfl, rfl⟩
  · replace h := ifF hc1 h
    refine Y_aload_n (pc := 10) (j := 0) dX7_takeBack_10 rfl rfl ?_
    refine Z_getr (pc := 11) dX7_takeBack_11 w1_115 (lk_11 hP) fr_7_4 (lr_11_4 hP) ?_
    refine Y_iload_n (pc := 14) (j := 2) dX7_takeBack_14 rfl rfl ?_
    obtain ⟨hb1, h⟩ := okE h
    refine Y_iald (pc := 15) dX7_takeBack_15 (lk_16 hP) (ln_16 hP) hb1 ?_
    refine Y_iload_n (pc := 16) (j := 1) dX7_takeBack_16 rfl rfl ?_
    refine Y_icmp_lt (pc := 17) (tgt := 27) dX7_takeBack_17 (by decide) (fun hc2 => ?_) (fun hc2 => ?_)
    · replace h := ifT hc2 h
      refine VV.sub [0, 1, 2] rfl ?_
      exact b_X7_takeBack_27 hk2 hP h
    · replace h := ifF hc2 h
      refine Y_aload_n (pc := 20) (j := 0) dX7_takeBack_20 rfl rfl ?_
      refine Z_getr (pc := 21) dX7_takeBack_21 w1_115 (lk_11 hP) fr_7_4 (lr_11_4 hP) ?_
      refine Y_iload_n (pc := 24) (j := 2) dX7_takeBack_24 rfl rfl ?_
      refine Y_iconst (pc := 25) (v := (-1 : Int32)) dX7_takeBack_25 rfl ?_
      obtain ⟨hb2, h⟩ := okE h
      refine Y_iast (pc := 26) dX7_takeBack_26 (lk_16 hP) (ln_16 hP) hb2 ?_
      obtain ⟨M2, eM2, h⟩ := bndE h
      refine VV.mem eM2 ?_
      have hP2 := hP.wI eM2
      refine VV.sub [0, 1, 2] rfl ?_
      exact b_X7_takeBack_27 hk2 hP2 h
theorem b_X7_takeBack_2 {x1 : Int32} (n : Nat) : ∀ (a : (Int32)) (M : Mem) (z : Unit × Mem), d_X7_takeBack_2 x1 n a M = some z → Lay M → VV Lay k_X7_takeBack 2 [(0, .ref 11), (1, .int x1), (2, .int a)] [] M z.2 (Qv (none) z.2) xF :=
  lp_ind (G := fun (a : (Int32)) (M : Mem) (z : Unit × Mem) => Lay M → VV Lay k_X7_takeBack 2 [(0, .ref 11), (1, .int x1), (2, .int a)] [] M z.2 (Qv (none) z.2) xF) (fun k hk a M z h hP => b_X7_takeBack_2b  (fun a M z hP h => hk a M z h hP) hP h) n
theorem b_X7_takeBack {x1 : Int32} {M z} (hP : Lay M) (h : d_X7_takeBack x1 M = some z) : VV Lay k_X7_takeBack 0 [(0, .ref 11), (1, .int x1)] [] M z.2 (Qv (none) z.2) xF := by
  unfold d_X7_takeBack at h
  refine Y_iconst (pc := 0) (v := (0 : Int32)) dX7_takeBack_0 rfl ?_
  refine Y_istore_n (pc := 1) (lv1 := [(2, .int (0 : Int32)), (0, .ref 11), (1, .int x1)]) dX7_takeBack_1 rfl (by decide) rfl ?_
  refine VV.sub [1, 2, 0] rfl ?_
  exact b_X7_takeBack_2  fuel _ _ _ h hP
theorem v_X7_takeBack {x1 : Int32} {M z} (hP : Lay M) (h : d_X7_takeBack x1 M = some z) : CC Lay k_X7_takeBack [.ref 11, .int x1] M z.2 (Qv (none) z.2) xF :=
  CC.ofVV (by decide) rfl (Nat.le_of_ble_eq_true rfl) (b_X7_takeBack hP h)
theorem b_X8_bitsAt {o : Nat} {x1 : Int32} {M z} (ho : o = 18 ∨ o = 28) (hP : Lay M) (h : d_X8_bitsAt o x1 M = some z) : VV Lay k_X8_bitsAt 0 [(0, .ref (o + 1)), (1, .int x1)] [] M z.2 (Qv (some (.long z.1)) z.2) xF := by
  unfold d_X8_bitsAt at h
  refine Y_aload_n (pc := 0) (j := 0) dX8_bitsAt_0 rfl rfl ?_
  refine Y_iload_n (pc := 1) (j := 1) dX8_bitsAt_1 rfl rfl ?_
  obtain ⟨y1, qy1, h⟩ := bindE h
  have cy1 := v_X8_isUndefined ho hP qy1
  refine C_V1r (pc := 2) (k' := k_X8_isUndefined) dX8_bitsAt_2 w5_131 i_X8_isUndefined (lo_1 hP ho) ⟨Nat.le_of_ble_eq_true rfl, Nat.le_of_ble_eq_true rfl⟩ rfl (Nat.le_of_ble_eq_true rfl) (Nat.le_of_ble_eq_true rfl) (Nat.le_of_ble_eq_true rfl) (cy1) ?_
  have hPy1 := cy1.1.1
  refine Y_if_eq (pc := 5) (tgt := 12) dX8_bitsAt_5 (by decide) (fun hc1 => ?_) (fun hc1 => ?_)
  · replace h := ifT hc1 h
    refine Y_aload_n (pc := 12) (j := 0) dX8_bitsAt_12 rfl rfl ?_
    refine Z_getr (pc := 13) dX8_bitsAt_13 w1_149 (lo_1 hPy1 ho) fr_8_0 (lor_1_0 hPy1 ho) ?_
    refine Y_iload_n (pc := 16) (j := 1) dX8_bitsAt_16 rfl rfl ?_
    obtain ⟨hb1, h⟩ := okE h
    refine Y_cald (pc := 17) dX8_bitsAt_17 (lo_2 hPy1 ho) (lon_2 hPy1 ho) hb1 ?_
    refine Y_bipush (pc := 18) (v := (102 : Int32)) dX8_bitsAt_18 rfl ?_
    refine Y_icmp_ne (pc := 20) (tgt := 35) dX8_bitsAt_20 (by decide) (fun hc2 => ?_) (fun hc2 => ?_)
    · replace h := ifF hc2 h
      refine Y_aload_n (pc := 35) (j := 0) dX8_bitsAt_35 rfl rfl ?_
      refine Z_getr (pc := 36) dX8_bitsAt_36 w1_152 (lo_1 hPy1 ho) fr_8_1 (lor_1_1 hPy1 ho) ?_
      refine Y_iload_n (pc := 39) (j := 1) dX8_bitsAt_39 rfl rfl ?_
      obtain ⟨hb2, h⟩ := okE h
      refine Y_iald (pc := 40) dX8_bitsAt_40 (lo_3 hPy1 ho) (lon_3 hPy1 ho) hb2 ?_
      refine Y_i2l (pc := 41) dX8_bitsAt_41 ?_
      cases h
      exact Y_lret (pc := 42) rfl dX8_bitsAt_42 hPy1 ⟨rfl, rfl⟩
    · replace h := ifT hc2 h
      refine Y_aload_n (pc := 23) (j := 0) dX8_bitsAt_23 rfl rfl ?_
      refine Z_getr (pc := 24) dX8_bitsAt_24 w1_154 (lo_1 hPy1 ho) fr_8_2 (lor_1_2 hPy1 ho) ?_
      refine Y_iload_n (pc := 27) (j := 1) dX8_bitsAt_27 rfl rfl ?_
      obtain ⟨hb3, h⟩ := okE h
      refine Y_dald (pc := 28) dX8_bitsAt_28 (lo_4 hPy1 ho) (lon_4 hPy1 ho) hb3 ?_
      obtain ⟨y2, qy2, h⟩ := bindE h
      have cy2 := v_X4_bitsOf hPy1 qy2
      refine C_S1r (pc := 29) (k' := k_X4_bitsOf) dX8_bitsAt_29 w7_37 i_X4_bitsOf (Nat.le_of_ble_eq_true rfl) (Nat.le_of_ble_eq_true rfl) (Nat.le_of_ble_eq_true rfl) (cy2) ?_
      have hPy2 := cy2.1.1
      refine Y_goto (pc := 32) (tgt := 42) dX8_bitsAt_32 (by decide) ?_
      cases h
      exact Y_lret (pc := 42) rfl dX8_bitsAt_42 hPy2 ⟨rfl, rfl⟩
  · replace h := ifF hc1 h
    refine Y_ldc2 (pc := 8) dX8_bitsAt_8 w7_36 ?_
    cases h
    exact Y_lret (pc := 11) rfl dX8_bitsAt_11 hPy1 ⟨rfl, rfl⟩
theorem v_X8_bitsAt {o : Nat} {x1 : Int32} {M z} (ho : o = 18 ∨ o = 28) (hP : Lay M) (h : d_X8_bitsAt o x1 M = some z) : CC Lay k_X8_bitsAt [.ref (o + 1), .int x1] M z.2 (Qv (some (.long z.1)) z.2) xF :=
  CC.ofVV (by decide) rfl (Nat.le_of_ble_eq_true rfl) (b_X8_bitsAt ho hP h)
set_option maxRecDepth 20000 in
theorem b_X9_init {M0 : Mem} {r0 : Nat} {r1 : Nat} {x2 : Int32} {M z} (hP : (Kx r0 M0) M) (h : d_X9_init r0 r1 x2 M = some z) : VV (Kx r0 M0) k_X9_init 0 [(0, .ref r0), (1, .ref r1), (2, .int x2)] [] M z.2 (Qv (none) z.2) xF := by
  unfold d_X9_init at h
  refine Y_aload_n (pc := 0) (j := 0) dX9_init_0 rfl rfl ?_
  refine Y_oinit (pc := 1) dX9_init_1 w2_116 (Nat.le_of_ble_eq_true rfl) (Nat.le_of_ble_eq_true rfl) (Nat.le_of_ble_eq_true rfl) ?_
  refine Y_aload_n (pc := 4) (j := 0) dX9_init_4 rfl rfl ?_
  refine Y_aload_n (pc := 5) (j := 1) dX9_init_5 rfl rfl ?_
  obtain ⟨hb1, h⟩ := okE h
  refine Z_geti (pc := 6) dX9_init_6 w2_60 hb1 fi_6_7 ?_
  obtain ⟨hb2, h⟩ := okE h
  refine Z_puti (pc := 9) dX9_init_9 w2_134 hb2 fi_9_0 (Or.inr ⟨rfl, rfl⟩) rfl ?_
  obtain ⟨M1, eM1, h⟩ := bndE h
  refine VV.mem eM1 ?_
  have hP1 := hP.wI eM1
  refine Y_aload_n (pc := 12) (j := 0) dX9_init_12 rfl rfl ?_
  refine Y_aload_n (pc := 13) (j := 1) dX9_init_13 rfl rfl ?_
  obtain ⟨hb3, h⟩ := okE h
  refine Z_geti (pc := 14) dX9_init_14 w2_63 hb3 fi_6_8 ?_
  obtain ⟨hb4, h⟩ := okE h
  refine Z_puti (pc := 17) dX9_init_17 w2_138 hb4 fi_9_1 (Or.inr ⟨rfl, rfl⟩) rfl ?_
  obtain ⟨M2, eM2, h⟩ := bndE h
  refine VV.mem eM2 ?_
  have hP2 := hP1.wI eM2
  refine Y_aload_n (pc := 20) (j := 0) dX9_init_20 rfl rfl ?_
  refine Y_aload_n (pc := 21) (j := 1) dX9_init_21 rfl rfl ?_
  obtain ⟨hb5, h⟩ := okE h
  obtain ⟨r_1, er_1, h⟩ := bindE h
  refine Z_getr (pc := 22) dX9_init_22 w2_48 hb5 fr_6_0 er_1 ?_
  refine Y_aload_n (pc := 25) (j := 0) dX9_init_25 rfl rfl ?_
  obtain ⟨hb6, h⟩ := okE h
  refine Z_geti (pc := 26) dX9_init_26 w2_134 hb6 fi_9_0 ?_
  obtain ⟨y1, qy1, h⟩ := bindE h
  have cy1 := v_J7_copyOf_59c91 hP2.fsh qy1
  refine C_S2r (pc := 29) (k' := k_J7_copyOf_59c91) dX9_init_29 w2_117 i_J7_copyOf_59c91 (Nat.le_of_ble_eq_true rfl) (Nat.le_of_ble_eq_true rfl) (Nat.le_of_ble_eq_true rfl) (cy1) ?_
  have hPy1 := hP2.jdk cy1.1.1
  obtain ⟨hb7, h⟩ := okE h
  refine Z_putr (pc := 32) dX9_init_32 w2_141 hb7 fr_9_2 (Or.inr ⟨rfl, rfl⟩) (Or.inr ⟨_, rfl⟩) ?_
  obtain ⟨M3, eM3, h⟩ := bndE h
  refine VV.mem eM3 ?_
  have hP3 := hPy1.wR0 (by omega) eM3
  refine Y_aload_n (pc := 35) (j := 0) dX9_init_35 rfl rfl ?_
  refine Y_aload_n (pc := 36) (j := 1) dX9_init_36 rfl rfl ?_
  obtain ⟨hb8, h⟩ := okE h
  obtain ⟨r_2, er_2, h⟩ := bindE h
  refine Z_getr (pc := 37) dX9_init_37 w2_50 hb8 fr_6_1 er_2 ?_
  refine Y_aload_n (pc := 40) (j := 0) dX9_init_40 rfl rfl ?_
  obtain ⟨hb9, h⟩ := okE h
  refine Z_geti (pc := 41) dX9_init_41 w2_134 hb9 fi_9_0 ?_
  refine Y_iconst (pc := 44) (v := (1 : Int32)) dX9_init_44 rfl ?_
  refine Y_iadd (pc := 45) dX9_init_45 ?_
  obtain ⟨y2, qy2, h⟩ := bindE h
  have cy2 := v_J7_copyOf_59c91 hP3.fsh qy2
  refine C_S2r (pc := 46) (k' := k_J7_copyOf_59c91) dX9_init_46 w2_117 i_J7_copyOf_59c91 (Nat.le_of_ble_eq_true rfl) (Nat.le_of_ble_eq_true rfl) (Nat.le_of_ble_eq_true rfl) (cy2) ?_
  have hPy2 := hP3.jdk cy2.1.1
  obtain ⟨hb10, h⟩ := okE h
  refine Z_putr (pc := 49) dX9_init_49 w2_144 hb10 fr_9_3 (Or.inr ⟨rfl, rfl⟩) (Or.inr ⟨_, rfl⟩) ?_
  obtain ⟨M4, eM4, h⟩ := bndE h
  refine VV.mem eM4 ?_
  have hP4 := hPy2.wR0 (by omega) eM4
  refine Y_aload_n (pc := 52) (j := 0) dX9_init_52 rfl rfl ?_
  obtain ⟨hb11, h⟩ := okE h
  obtain ⟨r_3, er_3, h⟩ := bindE h
  refine Z_getr (pc := 53) dX9_init_53 w2_144 hb11 fr_9_3 er_3 ?_
  refine Y_aload_n (pc := 56) (j := 0) dX9_init_56 rfl rfl ?_
  obtain ⟨hb12, h⟩ := okE h
  refine Z_geti (pc := 57) dX9_init_57 w2_134 hb12 fi_9_0 ?_
  refine Y_aload_n (pc := 60) (j := 0) dX9_init_60 rfl rfl ?_
  obtain ⟨hb13, h⟩ := okE h
  refine Z_geti (pc := 61) dX9_init_61 w2_138 hb13 fi_9_1 ?_
  obtain ⟨hb14, h⟩ := okE h
  obtain ⟨hb15, h⟩ := okE h
  refine Y_iast (pc := 64) dX9_init_64 hb14 rfl hb15 ?_
  obtain ⟨M5, eM5, h⟩ := bndE h
  refine VV.mem eM5 ?_
  have hP5 := hP4.wI eM5
  refine Y_aload_n (pc := 65) (j := 0) dX9_init_65 rfl rfl ?_
  refine Y_aload_n (pc := 66) (j := 1) dX9_init_66 rfl rfl ?_
  obtain ⟨hb16, h⟩ := okE h
  obtain ⟨r_4, er_4, h⟩ := bindE h
  refine Z_getr (pc := 67) dX9_init_67 w2_52 hb16 fr_6_2 er_4 ?_
  refine Y_aload_n (pc := 70) (j := 0) dX9_init_70 rfl rfl ?_
  obtain ⟨hb17, h⟩ := okE h
  refine Z_geti (pc := 71) dX9_init_71 w2_138 hb17 fi_9_1 ?_
  obtain ⟨y3, qy3, h⟩ := bindE h
  have cy3 := v_J7_copyOf_59c91 hP5.fsh qy3
  refine C_S2r (pc := 74) (k' := k_J7_copyOf_59c91) dX9_init_74 w2_117 i_J7_copyOf_59c91 (Nat.le_of_ble_eq_true rfl) (Nat.le_of_ble_eq_true rfl) (Nat.le_of_ble_eq_true rfl) (cy3) ?_
  have hPy3 := hP5.jdk cy3.1.1
  obtain ⟨hb18, h⟩ := okE h
  refine Z_putr (pc := 77) dX9_init_77 w2_146 hb18 fr_9_4 (Or.inr ⟨rfl, rfl⟩) (Or.inr ⟨_, rfl⟩) ?_
  obtain ⟨M6, eM6, h⟩ := bndE h
  refine VV.mem eM6 ?_
  have hP6 := hPy3.wR0 (by omega) eM6
  refine Y_aload_n (pc := 80) (j := 0) dX9_init_80 rfl rfl ?_
  refine Y_aload_n (pc := 81) (j := 1) dX9_init_81 rfl rfl ?_
  obtain ⟨hb19, h⟩ := okE h
  obtain ⟨r_5, er_5, h⟩ := bindE h
  refine Z_getr (pc := 82) dX9_init_82 w2_54 hb19 fr_6_3 er_5 ?_
  refine Y_aload_n (pc := 85) (j := 0) dX9_init_85 rfl rfl ?_
  obtain ⟨hb20, h⟩ := okE h
  refine Z_geti (pc := 86) dX9_init_86 w2_138 hb20 fi_9_1 ?_
  obtain ⟨y4, qy4, h⟩ := bindE h
  have cy4 := v_J7_copyOf_59c91 hP6.fsh qy4
  refine C_S2r (pc := 89) (k' := k_J7_copyOf_59c91) dX9_init_89 w2_117 i_J7_copyOf_59c91 (Nat.le_of_ble_eq_true rfl) (Nat.le_of_ble_eq_true rfl) (Nat.le_of_ble_eq_true rfl) (cy4) ?_
  have hPy4 := hP6.jdk cy4.1.1
  obtain ⟨hb21, h⟩ := okE h
  refine Z_putr (pc := 92) dX9_init_92 w2_149 hb21 fr_9_5 (Or.inr ⟨rfl, rfl⟩) (Or.inr ⟨_, rfl⟩) ?_
  obtain ⟨M7, eM7, h⟩ := bndE h
  refine VV.mem eM7 ?_
  have hP7 := hPy4.wR0 (by omega) eM7
  refine Y_aload_n (pc := 95) (j := 0) dX9_init_95 rfl rfl ?_
  refine Y_aload_n (pc := 96) (j := 1) dX9_init_96 rfl rfl ?_
  obtain ⟨hb22, h⟩ := okE h
  obtain ⟨r_6, er_6, h⟩ := bindE h
  refine Z_getr (pc := 97) dX9_init_97 w2_56 hb22 fr_6_4 er_6 ?_
  refine Y_aload_n (pc := 100) (j := 0) dX9_init_100 rfl rfl ?_
  obtain ⟨hb23, h⟩ := okE h
  refine Z_geti (pc := 101) dX9_init_101 w2_138 hb23 fi_9_1 ?_
  obtain ⟨y5, qy5, h⟩ := bindE h
  have cy5 := v_J7_copyOf_59c91 hP7.fsh qy5
  refine C_S2r (pc := 104) (k' := k_J7_copyOf_59c91) dX9_init_104 w2_117 i_J7_copyOf_59c91 (Nat.le_of_ble_eq_true rfl) (Nat.le_of_ble_eq_true rfl) (Nat.le_of_ble_eq_true rfl) (cy5) ?_
  have hPy5 := hP7.jdk cy5.1.1
  obtain ⟨hb24, h⟩ := okE h
  refine Z_putr (pc := 107) dX9_init_107 w2_151 hb24 fr_9_6 (Or.inr ⟨rfl, rfl⟩) (Or.inr ⟨_, rfl⟩) ?_
  obtain ⟨M8, eM8, h⟩ := bndE h
  refine VV.mem eM8 ?_
  have hP8 := hPy5.wR0 (by omega) eM8
  refine Y_aload_n (pc := 110) (j := 0) dX9_init_110 rfl rfl ?_
  refine Y_aload_n (pc := 111) (j := 1) dX9_init_111 rfl rfl ?_
  obtain ⟨hb25, h⟩ := okE h
  obtain ⟨r_7, er_7, h⟩ := bindE h
  refine Z_getr (pc := 112) dX9_init_112 w2_58 hb25 fr_6_5 er_7 ?_
  refine Y_aload_n (pc := 115) (j := 0) dX9_init_115 rfl rfl ?_
  obtain ⟨hb26, h⟩ := okE h
  refine Z_geti (pc := 116) dX9_init_116 w2_138 hb26 fi_9_1 ?_
  obtain ⟨y6, qy6, h⟩ := bindE h
  have cy6 := v_J7_copyOf_59c91 hP8.fsh qy6
  refine C_S2r (pc := 119) (k' := k_J7_copyOf_59c91) dX9_init_119 w2_117 i_J7_copyOf_59c91 (Nat.le_of_ble_eq_true rfl) (Nat.le_of_ble_eq_true rfl) (Nat.le_of_ble_eq_true rfl) (cy6) ?_
  have hPy6 := hP8.jdk cy6.1.1
  obtain ⟨hb27, h⟩ := okE h
  refine Z_putr (pc := 122) dX9_init_122 w2_153 hb27 fr_9_7 (Or.inr ⟨rfl, rfl⟩) (Or.inr ⟨_, rfl⟩) ?_
  obtain ⟨M9, eM9, h⟩ := bndE h
  refine VV.mem eM9 ?_
  have hP9 := hPy6.wR0 (by omega) eM9
  refine Y_aload_n (pc := 125) (j := 0) dX9_init_125 rfl rfl ?_
  refine Y_aload_n (pc := 126) (j := 0) dX9_init_126 rfl rfl ?_
  obtain ⟨hb28, h⟩ := okE h
  refine Z_geti (pc := 127) dX9_init_127 w2_138 hb28 fi_9_1 ?_
  obtain ⟨r_8, er_8, h⟩ := bndE h
  obtain ⟨hb29, h⟩ := okE h
  obtain ⟨hb30, h⟩ := okE h
  refine Y_newa (pc := 130) (a := r_8) (t := 21) (N := (mI M9 r0 1).toNatClampNeg) dX9_init_130 (by decide) (by decide) rfl w1_100 (hP9.free er_8) hb29 (na_1 hb30) rfl (na_2 hb30) ?_
  obtain ⟨M10, eM10, h⟩ := bndE h
  refine VV.mem eM10 ?_
  have hP10 := hP9.wN er_8 (by decide) eM10
  obtain ⟨hb31, h⟩ := okE h
  refine Z_putr (pc := 132) dX9_init_132 w2_155 hb31 fr_9_8 (Or.inr ⟨rfl, rfl⟩) (Or.inr ⟨_, rfl⟩) ?_
  obtain ⟨M11, eM11, h⟩ := bndE h
  refine VV.mem eM11 ?_
  have hP11 := hP10.wR0 (by omega) eM11
  refine Y_aload_n (pc := 135) (j := 0) dX9_init_135 rfl rfl ?_
  refine Y_aload_n (pc := 136) (j := 0) dX9_init_136 rfl rfl ?_
  obtain ⟨hb32, h⟩ := okE h
  refine Z_geti (pc := 137) dX9_init_137 w2_138 hb32 fi_9_1 ?_
  obtain ⟨r_9, er_9, h⟩ := bndE h
  obtain ⟨hb33, h⟩ := okE h
  obtain ⟨hb34, h⟩ := okE h
  refine Y_newa (pc := 140) (a := r_9) (t := 21) (N := (mI M11 r0 1).toNatClampNeg) dX9_init_140 (by decide) (by decide) rfl w1_100 (hP11.free er_9) hb33 (na_1 hb34) rfl (na_2 hb34) ?_
  obtain ⟨M12, eM12, h⟩ := bndE h
  refine VV.mem eM12 ?_
  have hP12 := hP11.wN er_9 (by decide) eM12
  obtain ⟨hb35, h⟩ := okE h
  refine Z_putr (pc := 142) dX9_init_142 w2_158 hb35 fr_9_9 (Or.inr ⟨rfl, rfl⟩) (Or.inr ⟨_, rfl⟩) ?_
  obtain ⟨M13, eM13, h⟩ := bndE h
  refine VV.mem eM13 ?_
  have hP13 := hP12.wR0 (by omega) eM13
  refine Y_aload_n (pc := 145) (j := 0) dX9_init_145 rfl rfl ?_
  refine Y_aload_n (pc := 146) (j := 0) dX9_init_146 rfl rfl ?_
  obtain ⟨hb36, h⟩ := okE h
  refine Z_geti (pc := 147) dX9_init_147 w2_138 hb36 fi_9_1 ?_
  obtain ⟨r_10, er_10, h⟩ := bndE h
  obtain ⟨hb37, h⟩ := okE h
  obtain ⟨hb38, h⟩ := okE h
  refine Y_newa (pc := 150) (a := r_10) (t := 21) (N := (mI M13 r0 1).toNatClampNeg) dX9_init_150 (by decide) (by decide) rfl w1_100 (hP13.free er_10) hb37 (na_1 hb38) rfl (na_2 hb38) ?_
  obtain ⟨M14, eM14, h⟩ := bndE h
  refine VV.mem eM14 ?_
  have hP14 := hP13.wN er_10 (by decide) eM14
  obtain ⟨hb39, h⟩ := okE h
  refine Z_putr (pc := 152) dX9_init_152 w2_160 hb39 fr_9_10 (Or.inr ⟨rfl, rfl⟩) (Or.inr ⟨_, rfl⟩) ?_
  obtain ⟨M15, eM15, h⟩ := bndE h
  refine VV.mem eM15 ?_
  have hP15 := hP14.wR0 (by omega) eM15
  refine Y_aload_n (pc := 155) (j := 0) dX9_init_155 rfl rfl ?_
  refine Y_aload_n (pc := 156) (j := 0) dX9_init_156 rfl rfl ?_
  obtain ⟨hb40, h⟩ := okE h
  refine Z_geti (pc := 157) dX9_init_157 w2_138 hb40 fi_9_1 ?_
  obtain ⟨r_11, er_11, h⟩ := bndE h
  obtain ⟨hb41, h⟩ := okE h
  obtain ⟨hb42, h⟩ := okE h
  refine Y_newa (pc := 160) (a := r_11) (t := 21) (N := (mI M15 r0 1).toNatClampNeg) dX9_init_160 (by decide) (by decide) rfl w1_100 (hP15.free er_11) hb41 (na_1 hb42) rfl (na_2 hb42) ?_
  obtain ⟨M16, eM16, h⟩ := bndE h
  refine VV.mem eM16 ?_
  have hP16 := hP15.wN er_11 (by decide) eM16
  obtain ⟨hb43, h⟩ := okE h
  refine Z_putr (pc := 162) dX9_init_162 w2_161 hb43 fr_9_11 (Or.inr ⟨rfl, rfl⟩) (Or.inr ⟨_, rfl⟩) ?_
  obtain ⟨M17, eM17, h⟩ := bndE h
  refine VV.mem eM17 ?_
  have hP17 := hP16.wR0 (by omega) eM17
  refine Y_aload_n (pc := 165) (j := 0) dX9_init_165 rfl rfl ?_
  obtain ⟨hb44, h⟩ := okE h
  obtain ⟨r_12, er_12, h⟩ := bindE h
  refine Z_getr (pc := 166) dX9_init_166 w2_161 hb44 fr_9_11 er_12 ?_
  refine Y_iconst (pc := 169) (v := (-1 : Int32)) dX9_init_169 rfl ?_
  obtain ⟨y7, qy7, h⟩ := bindE h
  have cy7 := v_J7_fill_53178 hP17.fsh qy7
  refine C_S2o (pc := 170) (k' := k_J7_fill_53178) dX9_init_170 w2_133 i_J7_fill_53178 (Nat.le_of_ble_eq_true rfl) (Nat.le_of_ble_eq_true rfl) (Nat.le_of_ble_eq_true rfl) (cy7) ?_
  have hPy7 := hP17.jdk cy7.1.1
  refine Y_aload_n (pc := 173) (j := 0) dX9_init_173 rfl rfl ?_
  refine Y_iload_n (pc := 174) (j := 2) dX9_init_174 rfl rfl ?_
  obtain ⟨hb45, h⟩ := okE h
  refine Z_puti (pc := 175) dX9_init_175 w2_164 hb45 fi_9_12 (Or.inr ⟨rfl, rfl⟩) rfl ?_
  obtain ⟨M18, eM18, h⟩ := bndE h
  refine VV.mem eM18 ?_
  have hP18 := hPy7.wI eM18
  refine Y_aload_n (pc := 178) (j := 0) dX9_init_178 rfl rfl ?_
  refine Y_aload_n (pc := 179) (j := 1) dX9_init_179 rfl rfl ?_
  obtain ⟨hb46, h⟩ := okE h
  refine Z_geti (pc := 180) dX9_init_180 w2_68 hb46 fi_6_11 ?_
  obtain ⟨hb47, h⟩ := okE h
  refine Z_puti (pc := 183) dX9_init_183 w2_168 hb47 fi_9_13 (Or.inr ⟨rfl, rfl⟩) rfl ?_
  obtain ⟨M19, eM19, h⟩ := bndE h
  refine VV.mem eM19 ?_
  have hP19 := hP18.wI eM19
  refine Y_aload_n (pc := 186) (j := 0) dX9_init_186 rfl rfl ?_
  refine Y_iconst (pc := 187) (v := (1 : Int32)) dX9_init_187 rfl ?_
  obtain ⟨hb48, h⟩ := okE h
  refine Z_putz (pc := 188) dX9_init_188 w2_171 hb48 fi_9_14 (Or.inl rfl) rfl (by decide) ?_
  obtain ⟨M20, eM20, h⟩ := bndE h
  refine VV.mem eM20 ?_
  have hP20 := hP19.wI eM20
  cases h
  exact Y_vret (pc := 191) rfl dX9_init_191 hP20 ⟨rfl, rfl⟩
theorem v_X9_init {r0 : Nat} {r1 : Nat} {x2 : Int32} {M z} (hP : Fsh M) (hr : r0 ≤ nx M) (h : d_X9_init r0 r1 x2 M = some z) : CC (Kx r0 M) k_X9_init [.ref r0, .ref r1, .int x2] M z.2 (Qv (none) z.2) xF :=
  CC.ofVV (by decide) rfl (Nat.le_of_ble_eq_true rfl) (b_X9_init (Kx.refl hP hr) h)
theorem b_X9_bars {r0 : Nat} {x1 : Int32} {M z} (hP : Lay M) (h : d_X9_bars r0 x1 M = some z) : VV Lay k_X9_bars 0 [(0, .ref r0), (1, .int x1)] [] M z.2 (Qv (some (.int z.1)) z.2) xF := by
  unfold d_X9_bars at h
  refine Y_aload_n (pc := 0) (j := 0) dX9_bars_0 rfl rfl ?_
  obtain ⟨hb1, h⟩ := okE h
  obtain ⟨r_1, er_1, h⟩ := bindE h
  refine Z_getr (pc := 1) dX9_bars_1 w2_160 hb1 fr_9_10 er_1 ?_
  refine Y_iload_n (pc := 4) (j := 1) dX9_bars_4 rfl rfl ?_
  obtain ⟨hb2, h⟩ := okE h
  obtain ⟨hb3, h⟩ := okE h
  refine Y_iald (pc := 5) dX9_bars_5 hb2 rfl hb3 ?_
  refine Y_iconst (pc := 6) (v := (2 : Int32)) dX9_bars_6 rfl ?_
  refine Y_icmp_lt (pc := 7) (tgt := 14) dX9_bars_7 (by decide) (fun hc1 => ?_) (fun hc1 => ?_)
  · replace h := ifT hc1 h
    refine Y_iconst (pc := 14) (v := (0 : Int32)) dX9_bars_14 rfl ?_
    cases h
    exact Y_iret (pc := 15) rfl (nar_bo (by decide)) dX9_bars_15 hP ⟨rfl, rfl⟩
  · replace h := ifF hc1 h
    refine Y_iconst (pc := 10) (v := (1 : Int32)) dX9_bars_10 rfl ?_
    refine Y_goto (pc := 11) (tgt := 15) dX9_bars_11 (by decide) ?_
    cases h
    exact Y_iret (pc := 15) rfl (nar_bo (by decide)) dX9_bars_15 hP ⟨rfl, rfl⟩
theorem v_X9_bars {r0 : Nat} {x1 : Int32} {M z} (hP : Lay M) (h : d_X9_bars r0 x1 M = some z) : CC Lay k_X9_bars [.ref r0, .int x1] M z.2 (Qv (some (.int z.1)) z.2) xF :=
  CC.ofVV (by decide) rfl (Nat.le_of_ble_eq_true rfl) (b_X9_bars hP h)
theorem b_X9_breakOff {r0 : Nat} {x1 : Int32} {M z} (hP : Lay M) (h : d_X9_breakOff r0 x1 M = some z) : VV Lay k_X9_breakOff 0 [(0, .ref r0), (1, .int x1)] [] M z.2 (Qv (none) z.2) xF := by
  unfold d_X9_breakOff at h
  refine Y_aload_n (pc := 0) (j := 0) dX9_breakOff_0 rfl rfl ?_
  obtain ⟨hb1, h⟩ := okE h
  obtain ⟨r_1, er_1, h⟩ := bindE h
  refine Z_getr (pc := 1) dX9_breakOff_1 w2_158 hb1 fr_9_9 er_1 ?_
  refine Y_iload_n (pc := 4) (j := 1) dX9_breakOff_4 rfl rfl ?_
  refine Y_iconst (pc := 5) (v := (0 : Int32)) dX9_breakOff_5 rfl ?_
  obtain ⟨hb2, h⟩ := okE h
  obtain ⟨hb3, h⟩ := okE h
  refine Y_iast (pc := 6) dX9_breakOff_6 hb2 rfl hb3 ?_
  obtain ⟨M1, eM1, h⟩ := bndE h
  refine VV.mem eM1 ?_
  have hP1 := hP.wI eM1
  refine Y_aload_n (pc := 7) (j := 0) dX9_breakOff_7 rfl rfl ?_
  obtain ⟨hb4, h⟩ := okE h
  obtain ⟨r_2, er_2, h⟩ := bindE h
  refine Z_getr (pc := 8) dX9_breakOff_8 w2_160 hb4 fr_9_10 er_2 ?_
  refine Y_iload_n (pc := 11) (j := 1) dX9_breakOff_11 rfl rfl ?_
  refine Y_dup2 (pc := 12) dX9_breakOff_12 rfl rfl ?_
  obtain ⟨hb5, h⟩ := okE h
  obtain ⟨hb6, h⟩ := okE h
  refine Y_iald (pc := 13) dX9_breakOff_13 hb5 rfl hb6 ?_
  refine Y_iconst (pc := 14) (v := (1 : Int32)) dX9_breakOff_14 rfl ?_
  refine Y_iadd (pc := 15) dX9_breakOff_15 ?_
  obtain ⟨hb7, h⟩ := okE h
  obtain ⟨hb8, h⟩ := okE h
  refine Y_iast (pc := 16) dX9_breakOff_16 hb7 rfl hb8 ?_
  obtain ⟨M2, eM2, h⟩ := bndE h
  refine VV.mem eM2 ?_
  have hP2 := hP1.wI eM2
  cases h
  exact Y_vret (pc := 17) rfl dX9_breakOff_17 hP2 ⟨rfl, rfl⟩
theorem v_X9_breakOff {r0 : Nat} {x1 : Int32} {M z} (hP : Lay M) (h : d_X9_breakOff r0 x1 M = some z) : CC Lay k_X9_breakOff [.ref r0, .int x1] M z.2 (Qv (none) z.2) xF :=
  CC.ofVV (by decide) rfl (Nat.le_of_ble_eq_true rfl) (b_X9_breakOff hP h)
set_option maxRecDepth 20000 in
theorem b_X10_init {M0 : Mem} {r0 : Nat} {r1 : Nat} {r2 : Nat} {M z} (hP : (Kx r0 M0) M) (h : d_X10_init r0 r1 r2 M = some z) : VV (Kx r0 M0) k_X10_init 0 [(0, .ref r0), (1, .ref r1), (2, .ref r2)] [] M z.2 (Qv (none) z.2) xF := by
  unfold d_X10_init at h
  refine Y_aload_n (pc := 0) (j := 0) dX10_init_0 rfl rfl ?_
  refine Y_oinit (pc := 1) dX10_init_1 w1_237 (Nat.le_of_ble_eq_true rfl) (Nat.le_of_ble_eq_true rfl) (Nat.le_of_ble_eq_true rfl) ?_
  refine Y_aload_n (pc := 4) (j := 0) dX10_init_4 rfl rfl ?_
  refine Y_aload_n (pc := 5) (j := 2) dX10_init_5 rfl rfl ?_
  obtain ⟨hb1, h⟩ := okE h
  refine Z_putr (pc := 6) dX10_init_6 w3_5 hb1 fr_10_0 (Or.inr ⟨rfl, rfl⟩) (Or.inl ⟨_, rfl⟩) ?_
  obtain ⟨M1, eM1, h⟩ := bndE h
  refine VV.mem eM1 ?_
  have hP1 := hP.wR0 (by omega) eM1
  refine Y_aload_n (pc := 9) (j := 0) dX10_init_9 rfl rfl ?_
  obtain ⟨r_1, er_1, h⟩ := bndE h
  obtain ⟨hb2, h⟩ := okE h
  refine Y_new (pc := 10) (a := r_1) (t := 1) dX10_init_10 (by decide) (by decide) w1_238 w1_239 w1_8 (hP1.free er_1) hb2 ?_
  obtain ⟨M2, eM2, h⟩ := bndE h
  refine VV.mem eM2 ?_
  have hP2 := hP1.wN er_1 (by decide) eM2
  refine Y_dup (pc := 13) dX10_init_13 rfl ?_
  obtain ⟨hb3, h⟩ := okE h
  obtain ⟨hb4, h⟩ := okE h
  obtain ⟨y1, qy1, h⟩ := bindE h
  have cy1 := v_X0_init hP2.fsh hb3 qy1
  refine C_I0o (pc := 14) (k' := k_X0_init) dX10_init_14 w2_0 i_X0_init (Nat.le_of_ble_eq_true rfl) (Nat.le_of_ble_eq_true rfl) (Nat.le_of_ble_eq_true rfl) (cy1) ?_
  have hPy1 := hP2.ini cy1.1.1 hb4
  obtain ⟨hb5, h⟩ := okE h
  refine Z_putr (pc := 17) dX10_init_17 w3_6 hb5 fr_10_1 (Or.inr ⟨rfl, rfl⟩) (Or.inl ⟨_, rfl⟩) ?_
  obtain ⟨M3, eM3, h⟩ := bndE h
  refine VV.mem eM3 ?_
  have hP3 := hPy1.wR0 (by omega) eM3
  refine Y_aload_n (pc := 20) (j := 0) dX10_init_20 rfl rfl ?_
  obtain ⟨r_2, er_2, h⟩ := bndE h
  obtain ⟨hb6, h⟩ := okE h
  refine Y_new (pc := 21) (a := r_2) (t := 3) dX10_init_21 (by decide) (by decide) w2_19 w2_20 w1_9 (hP3.free er_2) hb6 ?_
  obtain ⟨M4, eM4, h⟩ := bndE h
  refine VV.mem eM4 ?_
  have hP4 := hP3.wN er_2 (by decide) eM4
  refine Y_dup (pc := 24) dX10_init_24 rfl ?_
  obtain ⟨hb7, h⟩ := okE h
  obtain ⟨hb8, h⟩ := okE h
  obtain ⟨y2, qy2, h⟩ := bindE h
  have cy2 := v_X2_init hP4.fsh hb7 qy2
  refine C_I0o (pc := 25) (k' := k_X2_init) dX10_init_25 w2_21 i_X2_init (Nat.le_of_ble_eq_true rfl) (Nat.le_of_ble_eq_true rfl) (Nat.le_of_ble_eq_true rfl) (cy2) ?_
  have hPy2 := hP4.ini cy2.1.1 hb8
  obtain ⟨hb9, h⟩ := okE h
  refine Z_putr (pc := 28) dX10_init_28 w3_8 hb9 fr_10_2 (Or.inr ⟨rfl, rfl⟩) (Or.inl ⟨_, rfl⟩) ?_
  obtain ⟨M5, eM5, h⟩ := bndE h
  refine VV.mem eM5 ?_
  have hP5 := hPy2.wR0 (by omega) eM5
  refine Y_aload_n (pc := 31) (j := 0) dX10_init_31 rfl rfl ?_
  obtain ⟨r_3, er_3, h⟩ := bndE h
  obtain ⟨hb10, h⟩ := okE h
  refine Y_new (pc := 32) (a := r_3) (t := 6) dX10_init_32 (by decide) (by decide) w2_41 w2_42 w1_10 (hP5.free er_3) hb10 ?_
  obtain ⟨M6, eM6, h⟩ := bndE h
  refine VV.mem eM6 ?_
  have hP6 := hP5.wN er_3 (by decide) eM6
  refine Y_dup (pc := 35) dX10_init_35 rfl ?_
  obtain ⟨hb11, h⟩ := okE h
  obtain ⟨hb12, h⟩ := okE h
  obtain ⟨y3, qy3, h⟩ := bindE h
  have cy3 := v_X6_init hP6.fsh hb11 qy3
  refine C_I0o (pc := 36) (k' := k_X6_init) dX10_init_36 w2_43 i_X6_init (Nat.le_of_ble_eq_true rfl) (Nat.le_of_ble_eq_true rfl) (Nat.le_of_ble_eq_true rfl) (cy3) ?_
  have hPy3 := hP6.ini cy3.1.1 hb12
  obtain ⟨hb13, h⟩ := okE h
  refine Z_putr (pc := 39) dX10_init_39 w3_10 hb13 fr_10_3 (Or.inr ⟨rfl, rfl⟩) (Or.inl ⟨_, rfl⟩) ?_
  obtain ⟨M7, eM7, h⟩ := bndE h
  refine VV.mem eM7 ?_
  have hP7 := hPy3.wR0 (by omega) eM7
  refine Y_aload_n (pc := 42) (j := 0) dX10_init_42 rfl rfl ?_
  obtain ⟨r_4, er_4, h⟩ := bndE h
  obtain ⟨hb14, h⟩ := okE h
  refine Y_new (pc := 43) (a := r_4) (t := 9) dX10_init_43 (by decide) (by decide) w2_111 w2_112 w1_11 (hP7.free er_4) hb14 ?_
  obtain ⟨M8, eM8, h⟩ := bndE h
  refine VV.mem eM8 ?_
  have hP8 := hP7.wN er_4 (by decide) eM8
  refine Y_dup (pc := 46) dX10_init_46 rfl ?_
  refine Y_aload_n (pc := 47) (j := 0) dX10_init_47 rfl rfl ?_
  obtain ⟨hb15, h⟩ := okE h
  obtain ⟨r_5, er_5, h⟩ := bindE h
  refine Z_getr (pc := 48) dX10_init_48 w3_10 hb15 fr_10_3 er_5 ?_
  refine Y_iconst (pc := 51) (v := (-1 : Int32)) dX10_init_51 rfl ?_
  obtain ⟨hb16, h⟩ := okE h
  obtain ⟨hb17, h⟩ := okE h
  obtain ⟨y4, qy4, h⟩ := bindE h
  have cy4 := v_X9_init hP8.fsh hb16 qy4
  refine C_I2o (pc := 52) (k' := k_X9_init) dX10_init_52 w2_113 i_X9_init (Nat.le_of_ble_eq_true rfl) (Nat.le_of_ble_eq_true rfl) (Nat.le_of_ble_eq_true rfl) (cy4) ?_
  have hPy4 := hP8.ini cy4.1.1 hb17
  obtain ⟨hb18, h⟩ := okE h
  refine Z_putr (pc := 55) dX10_init_55 w3_21 hb18 fr_10_9 (Or.inl rfl) (Or.inl ⟨_, rfl⟩) ?_
  obtain ⟨M9, eM9, h⟩ := bndE h
  refine VV.mem eM9 ?_
  have hP9 := hPy4.wR0 (by omega) eM9
  refine Y_aload_n (pc := 58) (j := 0) dX10_init_58 rfl rfl ?_
  obtain ⟨r_6, er_6, h⟩ := bndE h
  obtain ⟨hb19, h⟩ := okE h
  refine Y_new (pc := 59) (a := r_6) (t := 2) dX10_init_59 (by decide) (by decide) w2_213 w2_214 w1_14 (hP9.free er_6) hb19 ?_
  obtain ⟨M10, eM10, h⟩ := bndE h
  refine VV.mem eM10 ?_
  have hP10 := hP9.wN er_6 (by decide) eM10
  refine Y_dup (pc := 62) dX10_init_62 rfl ?_
  refine Y_aload_n (pc := 63) (j := 1) dX10_init_63 rfl rfl ?_
  refine Y_aload_n (pc := 64) (j := 0) dX10_init_64 rfl rfl ?_
  obtain ⟨hb20, h⟩ := okE h
  obtain ⟨r_7, er_7, h⟩ := bindE h
  refine Z_getr (pc := 65) dX10_init_65 w3_8 hb20 fr_10_2 er_7 ?_
  refine Y_aload_n (pc := 68) (j := 0) dX10_init_68 rfl rfl ?_
  obtain ⟨hb21, h⟩ := okE h
  obtain ⟨r_8, er_8, h⟩ := bindE h
  refine Z_getr (pc := 69) dX10_init_69 w3_21 hb21 fr_10_9 er_8 ?_
  obtain ⟨hb22, h⟩ := okE h
  obtain ⟨hb23, h⟩ := okE h
  obtain ⟨y5, qy5, h⟩ := bindE h
  have cy5 := v_X1_init hP10.fsh hb22 qy5
  refine C_I3o (pc := 72) (k' := k_X1_init) dX10_init_72 w2_215 i_X1_init (Nat.le_of_ble_eq_true rfl) (Nat.le_of_ble_eq_true rfl) (Nat.le_of_ble_eq_true rfl) (cy5) ?_
  have hPy5 := hP10.ini cy5.1.1 hb23
  obtain ⟨hb24, h⟩ := okE h
  refine Z_putr (pc := 75) dX10_init_75 w3_11 hb24 fr_10_4 (Or.inr ⟨rfl, rfl⟩) (Or.inl ⟨_, rfl⟩) ?_
  obtain ⟨M11, eM11, h⟩ := bndE h
  refine VV.mem eM11 ?_
  have hP11 := hPy5.wR0 (by omega) eM11
  refine Y_aload_n (pc := 78) (j := 0) dX10_init_78 rfl rfl ?_
  refine Y_iconst (pc := 79) (v := (3 : Int32)) dX10_init_79 rfl ?_
  obtain ⟨hb25, h⟩ := okE h
  refine Z_puti (pc := 80) dX10_init_80 w3_13 hb25 fi_10_5 (Or.inl rfl) rfl ?_
  obtain ⟨M12, eM12, h⟩ := bndE h
  refine VV.mem eM12 ?_
  have hP12 := hP11.wI eM12
  refine Y_aload_n (pc := 83) (j := 0) dX10_init_83 rfl rfl ?_
  refine Y_iconst (pc := 84) (v := (2 : Int32)) dX10_init_84 rfl ?_
  obtain ⟨hb26, h⟩ := okE h
  refine Z_puti (pc := 85) dX10_init_85 w3_15 hb26 fi_10_6 (Or.inl rfl) rfl ?_
  obtain ⟨M13, eM13, h⟩ := bndE h
  refine VV.mem eM13 ?_
  have hP13 := hP12.wI eM13
  cases h
  exact Y_vret (pc := 88) rfl dX10_init_88 hP13 ⟨rfl, rfl⟩
theorem v_X10_init {r0 : Nat} {r1 : Nat} {r2 : Nat} {M z} (hP : Fsh M) (hr : r0 ≤ nx M) (h : d_X10_init r0 r1 r2 M = some z) : CC (Kx r0 M) k_X10_init [.ref r0, .ref r1, .ref r2] M z.2 (Qv (none) z.2) xF :=
  CC.ofVV (by decide) rfl (Nat.le_of_ble_eq_true rfl) (b_X10_init (Kx.refl hP hr) h)
theorem b_X10_begin {M z} (hP : Lay M) (h : d_X10_begin M = some z) : VV Lay k_X10_begin 0 [(0, .ref 38)] [] M z.2 (Qv (none) z.2) xF := by
  unfold d_X10_begin at h
  refine Y_aload_n (pc := 0) (j := 0) dX10_begin_0 rfl rfl ?_
  refine Y_iconst (pc := 1) (v := (0 : Int32)) dX10_begin_1 rfl ?_
  refine Z_puti (pc := 2) dX10_begin_2 w3_17 (lk_38 hP) fi_10_7 (Or.inl rfl) rfl ?_
  obtain ⟨M1, eM1, h⟩ := bndE h
  refine VV.mem eM1 ?_
  have hP1 := hP.wI eM1
  refine Y_aload_n (pc := 5) (j := 0) dX10_begin_5 rfl rfl ?_
  refine Y_iconst (pc := 6) (v := (0 : Int32)) dX10_begin_6 rfl ?_
  refine Z_putz (pc := 7) dX10_begin_7 w3_19 (lk_38 hP1) fi_10_8 (Or.inl rfl) rfl (by decide) ?_
  obtain ⟨M2, eM2, h⟩ := bndE h
  refine VV.mem eM2 ?_
  have hP2 := hP1.wI eM2
  cases h
  exact Y_vret (pc := 10) rfl dX10_begin_10 hP2 ⟨rfl, rfl⟩
theorem v_X10_begin {M z} (hP : Lay M) (h : d_X10_begin M = some z) : CC Lay k_X10_begin [.ref 38] M z.2 (Qv (none) z.2) xF :=
  CC.ofVV (by decide) rfl (Nat.le_of_ble_eq_true rfl) (b_X10_begin hP h)
theorem b_X10_follow {x1 : Int32} {M z} (hP : Lay M) (h : d_X10_follow x1 M = some z) : VV Lay k_X10_follow 0 [(0, .ref 38), (1, .int x1)] [] M z.2 (Qv (none) z.2) xF := by
  unfold d_X10_follow at h
  refine Y_aload_n (pc := 0) (j := 0) dX10_follow_0 rfl rfl ?_
  refine Y_iload_n (pc := 1) (j := 1) dX10_follow_1 rfl rfl ?_
  refine Z_puti (pc := 2) dX10_follow_2 w3_22 (lk_38 hP) fi_10_10 (Or.inl rfl) rfl ?_
  obtain ⟨M1, eM1, h⟩ := bndE h
  refine VV.mem eM1 ?_
  have hP1 := hP.wI eM1
  refine Y_aload_n (pc := 5) (j := 0) dX10_follow_5 rfl rfl ?_
  refine Y_aload_n (pc := 6) (j := 0) dX10_follow_6 rfl rfl ?_
  refine Z_getr (pc := 7) dX10_follow_7 w3_11 (lk_38 hP1) fr_10_4 (lr_38_4 hP1) ?_
  refine Z_getr (pc := 10) dX10_follow_10 w2_224 (lk_67 hP1) fr_2_2 (lr_67_2 hP1) ?_
  refine Y_iload_n (pc := 13) (j := 1) dX10_follow_13 rfl rfl ?_
  obtain ⟨hb1, h⟩ := okE h
  obtain ⟨r_1, er_1, h⟩ := bindE h
  refine Y_aald (pc := 14) dX10_follow_14 (lk_68 hP1) (ln_68 hP1) hb1 er_1 ?_
  refine Z_putr (pc := 15) dX10_follow_15 w3_21 (lk_38 hP1) fr_10_9 (Or.inl rfl) (Or.inl ⟨_, rfl⟩) ?_
  obtain ⟨M2, eM2, h⟩ := bndE h
  refine VV.mem eM2 ?_
  have hP2 := hP1.wRD (by decide +kernel) eM2
  refine Y_aload_n (pc := 18) (j := 0) dX10_follow_18 rfl rfl ?_
  obtain ⟨r_2, er_2, h⟩ := bindE h
  refine Z_getr (pc := 19) dX10_follow_19 w3_21 (lk_38 hP2) fr_10_9 er_2 ?_
  refine Y_dup (pc := 22) dX10_follow_22 rfl ?_
  obtain ⟨hb2, h⟩ := okE h
  refine Z_geti (pc := 23) dX10_follow_23 w2_174 hb2 fi_9_15 ?_
  refine Y_iconst (pc := 26) (v := (1 : Int32)) dX10_follow_26 rfl ?_
  refine Y_iadd (pc := 27) dX10_follow_27 ?_
  obtain ⟨hb3, h⟩ := okE h
  refine Z_puti (pc := 28) dX10_follow_28 w2_174 hb3 fi_9_15 (Or.inl rfl) rfl ?_
  obtain ⟨M3, eM3, h⟩ := bndE h
  refine VV.mem eM3 ?_
  have hP3 := hP2.wI eM3
  refine Y_aload_n (pc := 31) (j := 0) dX10_follow_31 rfl rfl ?_
  refine Y_iconst (pc := 32) (v := (0 : Int32)) dX10_follow_32 rfl ?_
  refine Z_puti (pc := 33) dX10_follow_33 w3_23 (lk_38 hP3) fi_10_11 (Or.inl rfl) rfl ?_
  obtain ⟨M4, eM4, h⟩ := bndE h
  refine VV.mem eM4 ?_
  have hP4 := hP3.wI eM4
  refine Y_aload_n (pc := 36) (j := 0) dX10_follow_36 rfl rfl ?_
  refine Y_iconst (pc := 37) (v := (1 : Int32)) dX10_follow_37 rfl ?_
  refine Z_putz (pc := 38) dX10_follow_38 w3_19 (lk_38 hP4) fi_10_8 (Or.inl rfl) rfl (by decide) ?_
  obtain ⟨M5, eM5, h⟩ := bndE h
  refine VV.mem eM5 ?_
  have hP5 := hP4.wI eM5
  cases h
  exact Y_vret (pc := 41) rfl dX10_follow_41 hP5 ⟨rfl, rfl⟩
theorem v_X10_follow {x1 : Int32} {M z} (hP : Lay M) (h : d_X10_follow x1 M = some z) : CC Lay k_X10_follow [.ref 38, .int x1] M z.2 (Qv (none) z.2) xF :=
  CC.ofVV (by decide) rfl (Nat.le_of_ble_eq_true rfl) (b_X10_follow hP h)
set_option maxRecDepth 20000 in
theorem b_X10_exitAt {x1 : Int32} {M z} (hP : Lay M) (h : d_X10_exitAt x1 M = some z) : VV Lay k_X10_exitAt 0 [(0, .ref 38), (1, .int x1)] [] M z.2 (Qv (none) z.2) xF := by
  unfold d_X10_exitAt at h
  refine Y_aload_n (pc := 0) (j := 0) dX10_exitAt_0 rfl rfl ?_
  obtain ⟨r_1, er_1, h⟩ := bindE h
  refine Z_getr (pc := 1) dX10_exitAt_1 w3_21 (lk_38 hP) fr_10_9 er_1 ?_
  obtain ⟨hb1, h⟩ := okE h
  obtain ⟨r_2, er_2, h⟩ := bindE h
  refine Z_getr (pc := 4) dX10_exitAt_4 w2_156 hb1 fr_9_8 er_2 ?_
  refine Y_iload_n (pc := 7) (j := 1) dX10_exitAt_7 rfl rfl ?_
  refine Y_dup2 (pc := 8) dX10_exitAt_8 rfl rfl ?_
  obtain ⟨hb2, h⟩ := okE h
  obtain ⟨hb3, h⟩ := okE h
  refine Y_iald (pc := 9) dX10_exitAt_9 hb2 rfl hb3 ?_
  refine Y_iconst (pc := 10) (v := (1 : Int32)) dX10_exitAt_10 rfl ?_
  refine Y_iadd (pc := 11) dX10_exitAt_11 ?_
  obtain ⟨hb4, h⟩ := okE h
  obtain ⟨hb5, h⟩ := okE h
  refine Y_iast (pc := 12) dX10_exitAt_12 hb4 rfl hb5 ?_
  obtain ⟨M1, eM1, h⟩ := bndE h
  refine VV.mem eM1 ?_
  have hP1 := hP.wI eM1
  refine Y_aload_n (pc := 13) (j := 0) dX10_exitAt_13 rfl rfl ?_
  obtain ⟨r_3, er_3, h⟩ := bindE h
  refine Z_getr (pc := 14) dX10_exitAt_14 w3_21 (lk_38 hP1) fr_10_9 er_3 ?_
  obtain ⟨hb6, h⟩ := okE h
  obtain ⟨r_4, er_4, h⟩ := bindE h
  refine Z_getr (pc := 17) dX10_exitAt_17 w2_162 hb6 fr_9_11 er_4 ?_
  refine Y_iload_n (pc := 20) (j := 1) dX10_exitAt_20 rfl rfl ?_
  obtain ⟨hb7, h⟩ := okE h
  obtain ⟨hb8, h⟩ := okE h
  refine Y_iald (pc := 21) dX10_exitAt_21 hb7 rfl hb8 ?_
  refine Y_iconst (pc := 22) (v := (-1 : Int32)) dX10_exitAt_22 rfl ?_
  refine Y_icmp_eq (pc := 23) (tgt := 40) dX10_exitAt_23 (by decide) (fun hc1 => ?_) (fun hc1 => ?_)
  · replace h := ifT hc1 h
    refine Y_aload_n (pc := 40) (j := 0) dX10_exitAt_40 rfl rfl ?_
    obtain ⟨r_5, er_5, h⟩ := bindE h
    refine Z_getr (pc := 41) dX10_exitAt_41 w3_21 (lk_38 hP1) fr_10_9 er_5 ?_
    obtain ⟨hb9, h⟩ := okE h
    obtain ⟨r_6, er_6, h⟩ := bindE h
    refine Z_getr (pc := 44) dX10_exitAt_44 w2_159 hb9 fr_9_9 er_6 ?_
    refine Y_iload_n (pc := 47) (j := 1) dX10_exitAt_47 rfl rfl ?_
    refine Y_dup2 (pc := 48) dX10_exitAt_48 rfl rfl ?_
    obtain ⟨hb10, h⟩ := okE h
    obtain ⟨hb11, h⟩ := okE h
    refine Y_iald (pc := 49) dX10_exitAt_49 hb10 rfl hb11 ?_
    refine Y_iconst (pc := 50) (v := (1 : Int32)) dX10_exitAt_50 rfl ?_
    refine Y_iadd (pc := 51) dX10_exitAt_51 ?_
    obtain ⟨hb12, h⟩ := okE h
    obtain ⟨hb13, h⟩ := okE h
    refine Y_iast (pc := 52) dX10_exitAt_52 hb12 rfl hb13 ?_
    obtain ⟨M2, eM2, h⟩ := bndE h
    refine VV.mem eM2 ?_
    have hP2 := hP1.wI eM2
    refine Y_aload_n (pc := 53) (j := 0) dX10_exitAt_53 rfl rfl ?_
    refine Y_iconst (pc := 54) (v := (0 : Int32)) dX10_exitAt_54 rfl ?_
    refine Z_putz (pc := 55) dX10_exitAt_55 w3_19 (lk_38 hP2) fi_10_8 (Or.inl rfl) rfl (by decide) ?_
    obtain ⟨M3, eM3, h⟩ := bndE h
    refine VV.mem eM3 ?_
    have hP3 := hP2.wI eM3
    refine Y_aload_n (pc := 58) (j := 0) dX10_exitAt_58 rfl rfl ?_
    obtain ⟨r_7, er_7, h⟩ := bindE h
    refine Z_getr (pc := 59) dX10_exitAt_59 w3_21 (lk_38 hP3) fr_10_9 er_7 ?_
    obtain ⟨hb14, h⟩ := okE h
    obtain ⟨r_8, er_8, h⟩ := bindE h
    refine Z_getr (pc := 62) dX10_exitAt_62 w2_159 hb14 fr_9_9 er_8 ?_
    refine Y_iload_n (pc := 65) (j := 1) dX10_exitAt_65 rfl rfl ?_
    obtain ⟨hb15, h⟩ := okE h
    obtain ⟨hb16, h⟩ := okE h
    refine Y_iald (pc := 66) dX10_exitAt_66 hb15 rfl hb16 ?_
    refine Y_aload_n (pc := 67) (j := 0) dX10_exitAt_67 rfl rfl ?_
    refine Z_geti (pc := 68) dX10_exitAt_68 w3_15 (lk_38 hP3) fi_10_6 ?_
    refine Y_icmp_lt (pc := 71) (tgt := 109) dX10_exitAt_71 (by decide) (fun hc2 => ?_) (fun hc2 => ?_)
    · replace h := ifT hc2 h
      cases h
      exact Y_vret (pc := 109) rfl dX10_exitAt_109 hP3 ⟨rfl, rfl⟩
    · replace h := ifF hc2 h
      refine Y_aload_n (pc := 74) (j := 0) dX10_exitAt_74 rfl rfl ?_
      obtain ⟨r_9, er_9, h⟩ := bindE h
      refine Z_getr (pc := 75) dX10_exitAt_75 w3_21 (lk_38 hP3) fr_10_9 er_9 ?_
      refine Y_iload_n (pc := 78) (j := 1) dX10_exitAt_78 rfl rfl ?_
      obtain ⟨cy1t, h⟩ := okE h
      obtain ⟨y1, qy1, h⟩ := bindE h
      have cy1 := v_X9_bars hP3 qy1
      refine C_V1r (pc := 79) (k' := k_X9_bars) dX10_exitAt_79 w6_81 i_X9_bars cy1t ⟨Nat.le_of_ble_eq_true rfl, Nat.le_of_ble_eq_true rfl⟩ rfl (Nat.le_of_ble_eq_true rfl) (Nat.le_of_ble_eq_true rfl) (Nat.le_of_ble_eq_true rfl) (cy1) ?_
      have hPy1 := cy1.1.1
      refine Y_if_ne (pc := 82) (tgt := 109) dX10_exitAt_82 (by decide) (fun hc3 => ?_) (fun hc3 => ?_)
      · replace h := ifF hc3 h
        cases h
        exact Y_vret (pc := 109) rfl dX10_exitAt_109 hPy1 ⟨rfl, rfl⟩
      · replace h := ifT hc3 h
        refine Y_aload_n (pc := 85) (j := 0) dX10_exitAt_85 rfl rfl ?_
        refine Z_getr (pc := 86) dX10_exitAt_86 w3_10 (lk_38 hPy1) fr_10_3 (lr_38_3 hPy1) ?_
        refine Y_aload_n (pc := 89) (j := 0) dX10_exitAt_89 rfl rfl ?_
        refine Z_getr (pc := 90) dX10_exitAt_90 w3_5 (lk_38 hPy1) fr_10_0 (lr_38_0 hPy1) ?_
        refine Y_aload_n (pc := 93) (j := 0) dX10_exitAt_93 rfl rfl ?_
        obtain ⟨r_10, er_10, h⟩ := bindE h
        refine Z_getr (pc := 94) dX10_exitAt_94 w3_21 (lk_38 hPy1) fr_10_9 er_10 ?_
        refine Y_aload_n (pc := 97) (j := 0) dX10_exitAt_97 rfl rfl ?_
        refine Z_geti (pc := 98) dX10_exitAt_98 w3_22 (lk_38 hPy1) fi_10_10 ?_
        refine Y_iload_n (pc := 101) (j := 1) dX10_exitAt_101 rfl rfl ?_
        refine Y_aload_n (pc := 102) (j := 0) dX10_exitAt_102 rfl rfl ?_
        refine Z_geti (pc := 103) dX10_exitAt_103 w3_24 (lk_38 hPy1) fi_10_12 ?_
        obtain ⟨y2, qy2, h⟩ := bindE h
        have cy2 := v_X6_beginSide hPy1 qy2
        refine C_V5o (pc := 106) (k' := k_X6_beginSide) dX10_exitAt_106 w6_85 i_X6_beginSide (lk_48 hPy1) ⟨Nat.le_of_ble_eq_true rfl, Nat.le_of_ble_eq_true rfl⟩ rfl (Nat.le_of_ble_eq_true rfl) (Nat.le_of_ble_eq_true rfl) (Nat.le_of_ble_eq_true rfl) (cy2) ?_
        have hPy2 := cy2.1.1
        cases h
        exact Y_vret (pc := 109) rfl dX10_exitAt_109 hPy2 ⟨rfl, rfl⟩
  · replace h := ifF hc1 h
    refine Y_aload_n (pc := 26) (j := 0) dX10_exitAt_26 rfl rfl ?_
    refine Y_aload_n (pc := 27) (j := 0) dX10_exitAt_27 rfl rfl ?_
    obtain ⟨r_11, er_11, h⟩ := bindE h
    refine Z_getr (pc := 28) dX10_exitAt_28 w3_21 (lk_38 hP1) fr_10_9 er_11 ?_
    obtain ⟨hb17, h⟩ := okE h
    obtain ⟨r_12, er_12, h⟩ := bindE h
    refine Z_getr (pc := 31) dX10_exitAt_31 w2_162 hb17 fr_9_11 er_12 ?_
    refine Y_iload_n (pc := 34) (j := 1) dX10_exitAt_34 rfl rfl ?_
    obtain ⟨hb18, h⟩ := okE h
    obtain ⟨hb19, h⟩ := okE h
    refine Y_iald (pc := 35) dX10_exitAt_35 hb18 rfl hb19 ?_
    obtain ⟨y3, qy3, h⟩ := bindE h
    have cy3 := v_X10_follow hP1 qy3
    refine C_V1o (pc := 36) (k' := k_X10_follow) dX10_exitAt_36 w6_77 i_X10_follow (lk_38 hP1) ⟨Nat.le_of_ble_eq_true rfl, Nat.le_of_ble_eq_true rfl⟩ rfl (Nat.le_of_ble_eq_true rfl) (Nat.le_of_ble_eq_true rfl) (Nat.le_of_ble_eq_true rfl) (cy3) ?_
    have hPy3 := cy3.1.1
    cases h
    exact Y_vret (pc := 39) rfl dX10_exitAt_39 hPy3 ⟨rfl, rfl⟩
theorem v_X10_exitAt {x1 : Int32} {M z} (hP : Lay M) (h : d_X10_exitAt x1 M = some z) : CC Lay k_X10_exitAt [.ref 38, .int x1] M z.2 (Qv (none) z.2) xF :=
  CC.ofVV (by decide) rfl (Nat.le_of_ble_eq_true rfl) (b_X10_exitAt hP h)
theorem b_X10_enter {x1 : Int32} {M z} (hP : Lay M) (h : d_X10_enter x1 M = some z) : VV Lay k_X10_enter 0 [(0, .ref 38), (1, .int x1)] [] M z.2 (Qv (none) z.2) xF := by
  unfold d_X10_enter at h
  refine Y_aload_n (pc := 0) (j := 0) dX10_enter_0 rfl rfl ?_
  refine Z_getr (pc := 1) dX10_enter_1 w3_11 (lk_38 hP) fr_10_4 (lr_38_4 hP) ?_
  refine Z_getr (pc := 4) dX10_enter_4 w2_224 (lk_67 hP) fr_2_2 (lr_67_2 hP) ?_
  refine Y_iload_n (pc := 7) (j := 1) dX10_enter_7 rfl rfl ?_
  obtain ⟨hb1, h⟩ := okE h
  obtain ⟨r_1, er_1, h⟩ := bindE h
  refine Y_aald (pc := 8) dX10_enter_8 (lk_68 hP) (ln_68 hP) hb1 er_1 ?_
  refine Y_astore_n (pc := 9) (lv1 := [(2, .ref r_1), (0, .ref 38), (1, .int x1)]) dX10_enter_9 rfl (by decide) rfl ?_
  refine Y_aload_n (pc := 10) (j := 1) dX10_enter_10 rfl rfl ?_
  refine Z_getr (pc := 11) dX10_enter_11 w3_11 (lk_38 hP) fr_10_4 (lr_38_4 hP) ?_
  refine Y_dup (pc := 14) dX10_enter_14 rfl ?_
  refine Z_geti (pc := 15) dX10_enter_15 w2_231 (lk_67 hP) fi_2_5 ?_
  refine Y_iconst (pc := 18) (v := (1 : Int32)) dX10_enter_18 rfl ?_
  refine Y_iadd (pc := 19) dX10_enter_19 ?_
  refine Z_puti (pc := 20) dX10_enter_20 w2_231 (lk_67 hP) fi_2_5 (Or.inl rfl) rfl ?_
  obtain ⟨M1, eM1, h⟩ := bndE h
  refine VV.mem eM1 ?_
  have hP1 := hP.wI eM1
  refine Y_aload_n (pc := 23) (j := 0) dX10_enter_23 rfl rfl ?_
  refine Y_aload_n (pc := 24) (j := 1) dX10_enter_24 rfl rfl ?_
  refine Z_getr (pc := 25) dX10_enter_25 w3_11 (lk_38 hP1) fr_10_4 (lr_38_4 hP1) ?_
  refine Z_geti (pc := 28) dX10_enter_28 w2_231 (lk_67 hP1) fi_2_5 ?_
  obtain ⟨hb2, h⟩ := okE h
  refine Z_puti (pc := 31) dX10_enter_31 w2_176 hb2 fi_9_16 (Or.inl rfl) rfl ?_
  obtain ⟨M2, eM2, h⟩ := bndE h
  refine VV.mem eM2 ?_
  have hP2 := hP1.wI eM2
  refine Y_aload_n (pc := 34) (j := 1) dX10_enter_34 rfl rfl ?_
  refine Y_aload_n (pc := 35) (j := 1) dX10_enter_35 rfl rfl ?_
  refine Z_getr (pc := 36) dX10_enter_36 w3_5 (lk_38 hP2) fr_10_0 (lr_38_0 hP2) ?_
  refine Z_geti (pc := 39) dX10_enter_39 w1_186 (lk_18 hP2) fi_4_9 ?_
  refine Z_puti (pc := 42) dX10_enter_42 w3_24 (lk_38 hP2) fi_10_12 (Or.inl rfl) rfl ?_
  obtain ⟨M3, eM3, h⟩ := bndE h
  refine VV.mem eM3 ?_
  have hP3 := hP2.wI eM3
  refine Y_aload_n (pc := 45) (j := 1) dX10_enter_45 rfl rfl ?_
  refine Y_iload_n (pc := 46) (j := 2) dX10_enter_46 rfl rfl ?_
  obtain ⟨y1, qy1, h⟩ := bindE h
  have cy1 := v_X10_follow hP3 qy1
  refine C_V1o (pc := 47) (k' := k_X10_follow) dX10_enter_47 w6_77 i_X10_follow (lk_38 hP3) ⟨Nat.le_of_ble_eq_true rfl, Nat.le_of_ble_eq_true rfl⟩ rfl (Nat.le_of_ble_eq_true rfl) (Nat.le_of_ble_eq_true rfl) (Nat.le_of_ble_eq_true rfl) (cy1) ?_
  have hPy1 := cy1.1.1
  cases h
  exact Y_vret (pc := 50) rfl dX10_enter_50 hPy1 ⟨rfl, rfl⟩
theorem v_X10_enter {x1 : Int32} {M z} (hP : Lay M) (h : d_X10_enter x1 M = some z) : CC Lay k_X10_enter [.ref 38, .int x1] M z.2 (Qv (none) z.2) xF :=
  CC.ofVV (by decide) rfl (Nat.le_of_ble_eq_true rfl) (b_X10_enter hP h)
set_option maxRecDepth 20000 in
theorem b_X10_turnInTrace_41b {k41 : (Int32) → Mem → Option (Unit × Mem)} {x1 : Int32} {M z} (hk41 : ∀ (a : (Int32)) (M : Mem) (z : Unit × Mem), Lay M → k41 a M = some z → VV Lay k_X10_turnInTrace 41 [(0, .ref 38), (1, .int a)] [] M z.2 (Qv (none) z.2) xF) (hP : Lay M) (h : d_X10_turnInTrace_41b k41 x1 M = some z) : VV Lay k_X10_turnInTrace 41 [(0, .ref 38), (1, .int x1)] [] M z.2 (Qv (none) z.2) xF := by
  unfold d_X10_turnInTrace_41b at h
  refine Y_iload_n (pc := 41) (j := 1) dX10_turnInTrace_41 rfl rfl ?_
  refine Y_aload_n (pc := 42) (j := 0) dX10_turnInTrace_42 rfl rfl ?_
  obtain ⟨r_1, er_1, h⟩ := bindE h
  refine Z_getr (pc := 43) dX10_turnInTrace_43 w3_21 (lk_38 hP) fr_10_9 er_1 ?_
  obtain ⟨hb1, h⟩ := okE h
  obtain ⟨r_2, er_2, h⟩ := bindE h
  refine Z_getr (pc := 46) dX10_turnInTrace_46 w2_145 hb1 fr_9_3 er_2 ?_
  refine Y_aload_n (pc := 49) (j := 0) dX10_turnInTrace_49 rfl rfl ?_
  refine Z_geti (pc := 50) dX10_turnInTrace_50 w3_23 (lk_38 hP) fi_10_11 ?_
  refine Y_iconst (pc := 53) (v := (1 : Int32)) dX10_turnInTrace_53 rfl ?_
  refine Y_iadd (pc := 54) dX10_turnInTrace_54 ?_
  obtain ⟨hb2, h⟩ := okE h
  obtain ⟨hb3, h⟩ := okE h
  refine Y_iald (pc := 55) dX10_turnInTrace_55 hb2 rfl hb3 ?_
  refine Y_icmp_ge (pc := 56) (tgt := 111) dX10_turnInTrace_56 (by decide) (fun hc1 => ?_) (fun hc1 => ?_)
  · replace h := ifT hc1 h
    refine Y_aload_n (pc := 111) (j := 0) dX10_turnInTrace_111 rfl rfl ?_
    refine Z_getr (pc := 112) dX10_turnInTrace_112 w3_5 (lk_38 hP) fr_10_0 (lr_38_0 hP) ?_
    obtain ⟨y1, qy1, h⟩ := bindE h
    have cy1 := v_X3_execute (Or.inl rfl) hP qy1
    refine C_V0r (pc := 115) (k' := k_X3_execute) dX10_turnInTrace_115 w6_93 i_X3_execute (lk_18 hP) ⟨Nat.le_of_ble_eq_true rfl, Nat.le_of_ble_eq_true rfl⟩ rfl (Nat.le_of_ble_eq_true rfl) (Nat.le_of_ble_eq_true rfl) (Nat.le_of_ble_eq_true rfl) (cy1) ?_
    have hPy1 := cy1.1.1
    refine Y_pop (pc := 118) dX10_turnInTrace_118 rfl ?_
    refine Y_aload_n (pc := 119) (j := 0) dX10_turnInTrace_119 rfl rfl ?_
    refine Y_dup (pc := 120) dX10_turnInTrace_120 rfl ?_
    refine Z_geti (pc := 121) dX10_turnInTrace_121 w3_17 (lk_38 hPy1) fi_10_7 ?_
    refine Y_iconst (pc := 124) (v := (1 : Int32)) dX10_turnInTrace_124 rfl ?_
    refine Y_iadd (pc := 125) dX10_turnInTrace_125 ?_
    refine Z_puti (pc := 126) dX10_turnInTrace_126 w3_17 (lk_38 hPy1) fi_10_7 (Or.inl rfl) rfl ?_
    obtain ⟨M1, eM1, h⟩ := bndE h
    refine VV.mem eM1 ?_
    have hP1 := hPy1.wI eM1
    refine Y_aload_n (pc := 129) (j := 0) dX10_turnInTrace_129 rfl rfl ?_
    refine Y_dup (pc := 130) dX10_turnInTrace_130 rfl ?_
    refine Z_geti (pc := 131) dX10_turnInTrace_131 w3_23 (lk_38 hP1) fi_10_11 ?_
    refine Y_iconst (pc := 134) (v := (1 : Int32)) dX10_turnInTrace_134 rfl ?_
    refine Y_iadd (pc := 135) dX10_turnInTrace_135 ?_
    refine Z_puti (pc := 136) dX10_turnInTrace_136 w3_23 (lk_38 hP1) fi_10_11 (Or.inl rfl) rfl ?_
    obtain ⟨M2, eM2, h⟩ := bndE h
    refine VV.mem eM2 ?_
    have hP2 := hP1.wI eM2
    refine Y_aload_n (pc := 139) (j := 0) dX10_turnInTrace_139 rfl rfl ?_
    refine Z_geti (pc := 140) dX10_turnInTrace_140 w3_23 (lk_38 hP2) fi_10_11 ?_
    refine Y_aload_n (pc := 143) (j := 0) dX10_turnInTrace_143 rfl rfl ?_
    obtain ⟨r_3, er_3, h⟩ := bindE h
    refine Z_getr (pc := 144) dX10_turnInTrace_144 w3_21 (lk_38 hP2) fr_10_9 er_3 ?_
    obtain ⟨hb4, h⟩ := okE h
    refine Z_geti (pc := 147) dX10_turnInTrace_147 w2_136 hb4 fi_9_0 ?_
    refine Y_icmp_lt (pc := 150) (tgt := 164) dX10_turnInTrace_150 (by decide) (fun hc2 => ?_) (fun hc2 => ?_)
    · replace h := ifT hc2 h
      cases h
      exact Y_vret (pc := 164) rfl dX10_turnInTrace_164 hP2 ⟨rfl, rfl⟩
    · replace h := ifF hc2 h
      refine Y_aload_n (pc := 153) (j := 0) dX10_turnInTrace_153 rfl rfl ?_
      refine Y_aload_n (pc := 154) (j := 0) dX10_turnInTrace_154 rfl rfl ?_
      obtain ⟨r_4, er_4, h⟩ := bindE h
      refine Z_getr (pc := 155) dX10_turnInTrace_155 w3_21 (lk_38 hP2) fr_10_9 er_4 ?_
      obtain ⟨hb5, h⟩ := okE h
      refine Z_geti (pc := 158) dX10_turnInTrace_158 w2_165 hb5 fi_9_12 ?_
      obtain ⟨y2, qy2, h⟩ := bindE h
      have cy2 := v_X10_enter hP2 qy2
      refine C_V1o (pc := 161) (k' := k_X10_enter) dX10_turnInTrace_161 w6_94 i_X10_enter (lk_38 hP2) ⟨Nat.le_of_ble_eq_true rfl, Nat.le_of_ble_eq_true rfl⟩ rfl (Nat.le_of_ble_eq_true rfl) (Nat.le_of_ble_eq_true rfl) (Nat.le_of_ble_eq_true rfl) (cy2) ?_
      have hPy2 := cy2.1.1
      cases h
      exact Y_vret (pc := 164) rfl dX10_turnInTrace_164 hPy2 ⟨rfl, rfl⟩
  · replace h := ifF hc1 h
    refine Y_aload_n (pc := 59) (j := 0) dX10_turnInTrace_59 rfl rfl ?_
    refine Z_getr (pc := 60) dX10_turnInTrace_60 w3_5 (lk_38 hP) fr_10_0 (lr_38_0 hP) ?_
    refine Y_aload_n (pc := 63) (j := 0) dX10_turnInTrace_63 rfl rfl ?_
    obtain ⟨r_5, er_5, h⟩ := bindE h
    refine Z_getr (pc := 64) dX10_turnInTrace_64 w3_21 (lk_38 hP) fr_10_9 er_5 ?_
    obtain ⟨hb6, h⟩ := okE h
    obtain ⟨r_6, er_6, h⟩ := bindE h
    refine Z_getr (pc := 67) dX10_turnInTrace_67 w2_147 hb6 fr_9_4 er_6 ?_
    refine Y_iload_n (pc := 70) (j := 1) dX10_turnInTrace_70 rfl rfl ?_
    obtain ⟨hb7, h⟩ := okE h
    obtain ⟨hb8, h⟩ := okE h
    refine Y_iald (pc := 71) dX10_turnInTrace_71 hb7 rfl hb8 ?_
    refine Y_i2c (pc := 72) dX10_turnInTrace_72 ?_
    refine Y_aload_n (pc := 73) (j := 0) dX10_turnInTrace_73 rfl rfl ?_
    obtain ⟨r_7, er_7, h⟩ := bindE h
    refine Z_getr (pc := 74) dX10_turnInTrace_74 w3_21 (lk_38 hP) fr_10_9 er_7 ?_
    obtain ⟨hb9, h⟩ := okE h
    obtain ⟨r_8, er_8, h⟩ := bindE h
    refine Z_getr (pc := 77) dX10_turnInTrace_77 w2_152 hb9 fr_9_6 er_8 ?_
    refine Y_iload_n (pc := 80) (j := 1) dX10_turnInTrace_80 rfl rfl ?_
    obtain ⟨hb10, h⟩ := okE h
    obtain ⟨hb11, h⟩ := okE h
    refine Y_iald (pc := 81) dX10_turnInTrace_81 hb10 rfl hb11 ?_
    obtain ⟨y3, qy3, h⟩ := bindE h
    have cy3 := v_X3_answerTo (Or.inl rfl) hP qy3
    refine C_V2r (pc := 82) (k' := k_X3_answerTo) dX10_turnInTrace_82 w6_68 i_X3_answerTo (lk_18 hP) ⟨Nat.le_of_ble_eq_true rfl, Nat.le_of_ble_eq_true rfl⟩ rfl (Nat.le_of_ble_eq_true rfl) (Nat.le_of_ble_eq_true rfl) (Nat.le_of_ble_eq_true rfl) (cy3) ?_
    have hPy3 := cy3.1.1
    refine Y_istore_n (pc := 85) (lv1 := [(2, .int y3.1), (0, .ref 38), (1, .int x1)]) dX10_turnInTrace_85 rfl (by decide) rfl ?_
    refine Y_iload_n (pc := 86) (j := 0) dX10_turnInTrace_86 rfl rfl ?_
    refine Y_aload_n (pc := 87) (j := 1) dX10_turnInTrace_87 rfl rfl ?_
    obtain ⟨r_9, er_9, h⟩ := bindE h
    refine Z_getr (pc := 88) dX10_turnInTrace_88 w3_21 (lk_38 hPy3) fr_10_9 er_9 ?_
    obtain ⟨hb12, h⟩ := okE h
    obtain ⟨r_10, er_10, h⟩ := bindE h
    refine Z_getr (pc := 91) dX10_turnInTrace_91 w2_154 hb12 fr_9_7 er_10 ?_
    refine Y_iload_n (pc := 94) (j := 2) dX10_turnInTrace_94 rfl rfl ?_
    obtain ⟨hb13, h⟩ := okE h
    obtain ⟨hb14, h⟩ := okE h
    refine Y_iald (pc := 95) dX10_turnInTrace_95 hb13 rfl hb14 ?_
    refine Y_icmp_eq (pc := 96) (tgt := 105) dX10_turnInTrace_96 (by decide) (fun hc3 => ?_) (fun hc3 => ?_)
    · replace h := ifT hc3 h
      obtain ⟨b1, eb1, h⟩ := bndE h
      refine Y_iinc (pc := 105) (j := 2) (v := b1) (lv1 := [(1, .int b1), (2, .int y3.1), (0, .ref 38)]) dX10_turnInTrace_105 rfl eb1.symm (by decide) rfl ?_
      refine Y_goto (pc := 108) (tgt := 41) dX10_turnInTrace_108 (by decide) ?_
      refine VV.sub [2, 0] rfl ?_
      exact hk41 _ _ _ hPy3 h
    · replace h := ifF hc3 h
      refine Y_aload_n (pc := 99) (j := 1) dX10_turnInTrace_99 rfl rfl ?_
      refine Y_iload_n (pc := 100) (j := 2) dX10_turnInTrace_100 rfl rfl ?_
      obtain ⟨y4, qy4, h⟩ := bindE h
      have cy4 := v_X10_exitAt hPy3 qy4
      refine C_V1o (pc := 101) (k' := k_X10_exitAt) dX10_turnInTrace_101 w6_73 i_X10_exitAt (lk_38 hPy3) ⟨Nat.le_of_ble_eq_true rfl, Nat.le_of_ble_eq_true rfl⟩ rfl (Nat.le_of_ble_eq_true rfl) (Nat.le_of_ble_eq_true rfl) (Nat.le_of_ble_eq_true rfl) (cy4) ?_
      have hPy4 := cy4.1.1
      cases h
      exact Y_vret (pc := 104) rfl dX10_turnInTrace_104 hPy4 ⟨rfl, rfl⟩
theorem b_X10_turnInTrace_41 (n : Nat) : ∀ (a : (Int32)) (M : Mem) (z : Unit × Mem), d_X10_turnInTrace_41 n a M = some z → Lay M → VV Lay k_X10_turnInTrace 41 [(0, .ref 38), (1, .int a)] [] M z.2 (Qv (none) z.2) xF :=
  lp_ind (G := fun (a : (Int32)) (M : Mem) (z : Unit × Mem) => Lay M → VV Lay k_X10_turnInTrace 41 [(0, .ref 38), (1, .int a)] [] M z.2 (Qv (none) z.2) xF) (fun k hk a M z h hP => b_X10_turnInTrace_41b  (fun a M z hP h => hk a M z h hP) hP h) n
theorem b_X10_turnInTrace {M z} (hP : Lay M) (h : d_X10_turnInTrace M = some z) : VV Lay k_X10_turnInTrace 0 [(0, .ref 38)] [] M z.2 (Qv (none) z.2) xF := by
  unfold d_X10_turnInTrace at h
  refine Y_aload_n (pc := 0) (j := 0) dX10_turnInTrace_0 rfl rfl ?_
  refine Z_getr (pc := 1) dX10_turnInTrace_1 w3_5 (lk_38 hP) fr_10_0 (lr_38_0 hP) ?_
  obtain ⟨y1, qy1, h⟩ := bindE h
  have cy1 := v_X3_isAtLimit (Or.inl rfl) hP qy1
  refine C_V0r (pc := 4) (k' := k_X3_isAtLimit) dX10_turnInTrace_4 w6_66 i_X3_isAtLimit (lk_18 hP) ⟨Nat.le_of_ble_eq_true rfl, Nat.le_of_ble_eq_true rfl⟩ rfl (Nat.le_of_ble_eq_true rfl) (Nat.le_of_ble_eq_true rfl) (Nat.le_of_ble_eq_true rfl) (cy1) ?_
  have hPy1 := cy1.1.1
  refine Y_if_ne (pc := 7) (tgt := 22) dX10_turnInTrace_7 (by decide) (fun hc1 => ?_) (fun hc1 => ?_)
  · replace h := ifF hc1 h
    refine Y_aload_n (pc := 22) (j := 0) dX10_turnInTrace_22 rfl rfl ?_
    refine Y_iconst (pc := 23) (v := (0 : Int32)) dX10_turnInTrace_23 rfl ?_
    refine Z_putz (pc := 24) dX10_turnInTrace_24 w3_19 (lk_38 hPy1) fi_10_8 (Or.inl rfl) rfl (by decide) ?_
    obtain ⟨M1, eM1, h⟩ := bndE h
    refine VV.mem eM1 ?_
    have hP1 := hPy1.wI eM1
    cases h
    exact Y_vret (pc := 27) rfl dX10_turnInTrace_27 hP1 ⟨rfl, rfl⟩
  · replace h := ifT hc1 h
    refine Y_aload_n (pc := 10) (j := 0) dX10_turnInTrace_10 rfl rfl ?_
    refine Z_getr (pc := 11) dX10_turnInTrace_11 w3_5 (lk_38 hPy1) fr_10_0 (lr_38_0 hPy1) ?_
    obtain ⟨y2, qy2, h⟩ := bindE h
    have cy2 := v_X3_failureAhead (Or.inl rfl) hPy1 qy2
    refine C_V0r (pc := 14) (k' := k_X3_failureAhead) dX10_turnInTrace_14 w6_67 i_X3_failureAhead (lk_18 hPy1) ⟨Nat.le_of_ble_eq_true rfl, Nat.le_of_ble_eq_true rfl⟩ rfl (Nat.le_of_ble_eq_true rfl) (Nat.le_of_ble_eq_true rfl) (Nat.le_of_ble_eq_true rfl) (cy2) ?_
    have hPy2 := cy2.1.1
    refine Y_bipush (pc := 17) (v := (45 : Int32)) dX10_turnInTrace_17 rfl ?_
    refine Y_icmp_eq (pc := 19) (tgt := 28) dX10_turnInTrace_19 (by decide) (fun hc2 => ?_) (fun hc2 => ?_)
    · replace h := ifT hc2 h
      refine Y_aload_n (pc := 28) (j := 0) dX10_turnInTrace_28 rfl rfl ?_
      obtain ⟨r_1, er_1, h⟩ := bindE h
      refine Z_getr (pc := 29) dX10_turnInTrace_29 w3_21 (lk_38 hPy2) fr_10_9 er_1 ?_
      obtain ⟨hb1, h⟩ := okE h
      obtain ⟨r_2, er_2, h⟩ := bindE h
      refine Z_getr (pc := 32) dX10_turnInTrace_32 w2_145 hb1 fr_9_3 er_2 ?_
      refine Y_aload_n (pc := 35) (j := 0) dX10_turnInTrace_35 rfl rfl ?_
      refine Z_geti (pc := 36) dX10_turnInTrace_36 w3_23 (lk_38 hPy2) fi_10_11 ?_
      obtain ⟨hb2, h⟩ := okE h
      obtain ⟨hb3, h⟩ := okE h
      refine Y_iald (pc := 39) dX10_turnInTrace_39 hb2 rfl hb3 ?_
      obtain ⟨b1, eb1, h⟩ := bndE h
      refine VV.topI eb1 ?_
      refine Y_istore_n (pc := 40) (lv1 := [(1, .int b1), (0, .ref 38)]) dX10_turnInTrace_40 rfl (by decide) rfl ?_
      refine VV.sub [1, 0] rfl ?_
      exact b_X10_turnInTrace_41  fuel _ _ _ h hPy2
    · replace h := ifF hc2 h
      refine Y_aload_n (pc := 22) (j := 0) dX10_turnInTrace_22 rfl rfl ?_
      refine Y_iconst (pc := 23) (v := (0 : Int32)) dX10_turnInTrace_23 rfl ?_
      refine Z_putz (pc := 24) dX10_turnInTrace_24 w3_19 (lk_38 hPy2) fi_10_8 (Or.inl rfl) rfl (by decide) ?_
      obtain ⟨M2, eM2, h⟩ := bndE h
      refine VV.mem eM2 ?_
      have hP2 := hPy2.wI eM2
      cases h
      exact Y_vret (pc := 27) rfl dX10_turnInTrace_27 hP2 ⟨rfl, rfl⟩
theorem v_X10_turnInTrace {M z} (hP : Lay M) (h : d_X10_turnInTrace M = some z) : CC Lay k_X10_turnInTrace [.ref 38] M z.2 (Qv (none) z.2) xF :=
  CC.ofVV (by decide) rfl (Nat.le_of_ble_eq_true rfl) (b_X10_turnInTrace hP h)
theorem b_X10_breakOff {M z} (hP : Lay M) (h : d_X10_breakOff M = some z) : VV Lay k_X10_breakOff 0 [(0, .ref 38)] [] M z.2 (Qv (none) z.2) xF := by
  unfold d_X10_breakOff at h
  refine Y_aload_n (pc := 0) (j := 0) dX10_breakOff_0 rfl rfl ?_
  refine Z_getr (pc := 1) dX10_breakOff_1 w3_10 (lk_38 hP) fr_10_3 (lr_38_3 hP) ?_
  refine Z_geti (pc := 4) dX10_breakOff_4 w2_67 (lk_48 hP) fi_6_10 ?_
  refine Y_if_ne (pc := 7) (tgt := 11) dX10_breakOff_7 (by decide) (fun hc1 => ?_) (fun hc1 => ?_)
  · replace h := ifF hc1 h
    refine Y_aload_n (pc := 11) (j := 0) dX10_breakOff_11 rfl rfl ?_
    refine Z_getr (pc := 12) dX10_breakOff_12 w3_10 (lk_38 hP) fr_10_3 (lr_38_3 hP) ?_
    refine Y_iconst (pc := 15) (v := (0 : Int32)) dX10_breakOff_15 rfl ?_
    refine Z_putz (pc := 16) dX10_breakOff_16 w2_67 (lk_48 hP) fi_6_10 (Or.inl rfl) rfl (by decide) ?_
    obtain ⟨M1, eM1, h⟩ := bndE h
    refine VV.mem eM1 ?_
    have hP1 := hP.wI eM1
    refine Y_aload_n (pc := 19) (j := 0) dX10_breakOff_19 rfl rfl ?_
    refine Z_getr (pc := 20) dX10_breakOff_20 w3_10 (lk_38 hP1) fr_10_3 (lr_38_3 hP1) ?_
    refine Z_geti (pc := 23) dX10_breakOff_23 w2_74 (lk_48 hP1) fi_6_13 ?_
    refine Y_iconst (pc := 26) (v := (-1 : Int32)) dX10_breakOff_26 rfl ?_
    refine Y_icmp_ne (pc := 27) (tgt := 47) dX10_breakOff_27 (by decide) (fun hc2 => ?_) (fun hc2 => ?_)
    · replace h := ifF hc2 h
      refine Y_aload_n (pc := 47) (j := 0) dX10_breakOff_47 rfl rfl ?_
      refine Z_getr (pc := 48) dX10_breakOff_48 w3_11 (lk_38 hP1) fr_10_4 (lr_38_4 hP1) ?_
      refine Z_getr (pc := 51) dX10_breakOff_51 w2_224 (lk_67 hP1) fr_2_2 (lr_67_2 hP1) ?_
      refine Y_aload_n (pc := 54) (j := 0) dX10_breakOff_54 rfl rfl ?_
      refine Z_getr (pc := 55) dX10_breakOff_55 w3_10 (lk_38 hP1) fr_10_3 (lr_38_3 hP1) ?_
      refine Z_geti (pc := 58) dX10_breakOff_58 w2_74 (lk_48 hP1) fi_6_13 ?_
      obtain ⟨hb1, h⟩ := okE h
      obtain ⟨r_1, er_1, h⟩ := bindE h
      refine Y_aald (pc := 61) dX10_breakOff_61 (lk_68 hP1) (ln_68 hP1) hb1 er_1 ?_
      refine Y_aload_n (pc := 62) (j := 0) dX10_breakOff_62 rfl rfl ?_
      refine Z_getr (pc := 63) dX10_breakOff_63 w3_10 (lk_38 hP1) fr_10_3 (lr_38_3 hP1) ?_
      refine Z_geti (pc := 66) dX10_breakOff_66 w2_76 (lk_48 hP1) fi_6_14 ?_
      obtain ⟨cy1t, h⟩ := okE h
      obtain ⟨y1, qy1, h⟩ := bindE h
      have cy1 := v_X9_breakOff hP1 qy1
      refine C_V1o (pc := 69) (k' := k_X9_breakOff) dX10_breakOff_69 w6_115 i_X9_breakOff cy1t ⟨Nat.le_of_ble_eq_true rfl, Nat.le_of_ble_eq_true rfl⟩ rfl (Nat.le_of_ble_eq_true rfl) (Nat.le_of_ble_eq_true rfl) (Nat.le_of_ble_eq_true rfl) (cy1) ?_
      have hPy1 := cy1.1.1
      cases h
      exact Y_vret (pc := 72) rfl dX10_breakOff_72 hPy1 ⟨rfl, rfl⟩
    · replace h := ifT hc2 h
      refine Y_aload_n (pc := 30) (j := 0) dX10_breakOff_30 rfl rfl ?_
      refine Z_getr (pc := 31) dX10_breakOff_31 w3_8 (lk_38 hP1) fr_10_2 (lr_38_2 hP1) ?_
      refine Y_aload_n (pc := 34) (j := 0) dX10_breakOff_34 rfl rfl ?_
      refine Z_getr (pc := 35) dX10_breakOff_35 w3_10 (lk_38 hP1) fr_10_3 (lr_38_3 hP1) ?_
      refine Z_geti (pc := 38) dX10_breakOff_38 w2_70 (lk_48 hP1) fi_6_11 ?_
      obtain ⟨y2, qy2, h⟩ := bindE h
      have cy2 := v_X2_breakOff hP1 qy2
      refine C_V1o (pc := 41) (k' := k_X2_breakOff) dX10_breakOff_41 w6_111 i_X2_breakOff (lk_44 hP1) ⟨Nat.le_of_ble_eq_true rfl, Nat.le_of_ble_eq_true rfl⟩ rfl (Nat.le_of_ble_eq_true rfl) (Nat.le_of_ble_eq_true rfl) (Nat.le_of_ble_eq_true rfl) (cy2) ?_
      have hPy2 := cy2.1.1
      refine Y_goto (pc := 44) (tgt := 72) dX10_breakOff_44 (by decide) ?_
      cases h
      exact Y_vret (pc := 72) rfl dX10_breakOff_72 hPy2 ⟨rfl, rfl⟩
  · replace h := ifT hc1 h
    cases h
    exact Y_vret (pc := 10) rfl dX10_breakOff_10 hP ⟨rfl, rfl⟩
theorem v_X10_breakOff {M z} (hP : Lay M) (h : d_X10_breakOff M = some z) : CC Lay k_X10_breakOff [.ref 38] M z.2 (Qv (none) z.2) xF :=
  CC.ofVV (by decide) rfl (Nat.le_of_ble_eq_true rfl) (b_X10_breakOff hP h)
theorem b_X10_canExecute_33 {M z} (hP : Lay M) (h : d_X10_canExecute_33 M = some z) : VV Lay k_X10_canExecute 33 [(0, .ref 38)] [] M z.2 (Qv (some (.int z.1)) z.2) xF := by
  unfold d_X10_canExecute_33 at h
  refine Y_aload_n (pc := 33) (j := 0) dX10_canExecute_33 rfl rfl ?_
  refine Z_getr (pc := 34) dX10_canExecute_34 w3_5 (lk_38 hP) fr_10_0 (lr_38_0 hP) ?_
  obtain ⟨y1, qy1, h⟩ := bindE h
  have cy1 := v_X3_failureAhead (Or.inl rfl) hP qy1
  refine C_V0r (pc := 37) (k' := k_X3_failureAhead) dX10_canExecute_37 w6_67 i_X3_failureAhead (lk_18 hP) ⟨Nat.le_of_ble_eq_true rfl, Nat.le_of_ble_eq_true rfl⟩ rfl (Nat.le_of_ble_eq_true rfl) (Nat.le_of_ble_eq_true rfl) (Nat.le_of_ble_eq_true rfl) (cy1) ?_
  have hPy1 := cy1.1.1
  refine Y_istore_n (pc := 40) (lv1 := [(1, .int y1.1), (0, .ref 38)]) dX10_canExecute_40 rfl (by decide) rfl ?_
  refine Y_iload_n (pc := 41) (j := 0) dX10_canExecute_41 rfl rfl ?_
  refine Y_bipush (pc := 42) (v := (45 : Int32)) dX10_canExecute_42 rfl ?_
  refine Y_icmp_ne (pc := 44) (tgt := 49) dX10_canExecute_44 (by decide) (fun hc1 => ?_) (fun hc1 => ?_)
  · replace h := ifF hc1 h
    refine Y_aload_n (pc := 49) (j := 1) dX10_canExecute_49 rfl rfl ?_
    obtain ⟨y2, qy2, h⟩ := bindE h
    have cy2 := v_X10_breakOff hPy1 qy2
    refine C_V0o (pc := 50) (k' := k_X10_breakOff) dX10_canExecute_50 w6_107 i_X10_breakOff (lk_38 hPy1) ⟨Nat.le_of_ble_eq_true rfl, Nat.le_of_ble_eq_true rfl⟩ rfl (Nat.le_of_ble_eq_true rfl) (Nat.le_of_ble_eq_true rfl) (Nat.le_of_ble_eq_true rfl) (cy2) ?_
    have hPy2 := cy2.1.1
    refine Y_aload_n (pc := 53) (j := 1) dX10_canExecute_53 rfl rfl ?_
    refine Z_getr (pc := 54) dX10_canExecute_54 w3_5 (lk_38 hPy2) fr_10_0 (lr_38_0 hPy2) ?_
    refine Y_iload_n (pc := 57) (j := 0) dX10_canExecute_57 rfl rfl ?_
    obtain ⟨y3, qy3, h⟩ := bindE h
    have cy3 := v_X3_failWith (Or.inl rfl) hPy2 qy3
    refine C_V1o (pc := 58) (k' := k_X3_failWith) dX10_canExecute_58 w6_119 i_X3_failWith (lk_18 hPy2) ⟨Nat.le_of_ble_eq_true rfl, Nat.le_of_ble_eq_true rfl⟩ rfl (Nat.le_of_ble_eq_true rfl) (Nat.le_of_ble_eq_true rfl) (Nat.le_of_ble_eq_true rfl) (cy3) ?_
    have hPy3 := cy3.1.1
    refine Y_iconst (pc := 61) (v := (0 : Int32)) dX10_canExecute_61 rfl ?_
    cases h
    exact Y_iret (pc := 62) rfl (nar_bo (by decide)) dX10_canExecute_62 hPy3 ⟨rfl, rfl⟩
  · replace h := ifT hc1 h
    refine Y_iconst (pc := 47) (v := (1 : Int32)) dX10_canExecute_47 rfl ?_
    cases h
    exact Y_iret (pc := 48) rfl (nar_bo (by decide)) dX10_canExecute_48 hPy1 ⟨rfl, rfl⟩
theorem b_X10_canExecute {M z} (hP : Lay M) (h : d_X10_canExecute M = some z) : VV Lay k_X10_canExecute 0 [(0, .ref 38)] [] M z.2 (Qv (some (.int z.1)) z.2) xF := by
  unfold d_X10_canExecute at h
  refine Y_aload_n (pc := 0) (j := 0) dX10_canExecute_0 rfl rfl ?_
  refine Z_getr (pc := 1) dX10_canExecute_1 w3_5 (lk_38 hP) fr_10_0 (lr_38_0 hP) ?_
  obtain ⟨y1, qy1, h⟩ := bindE h
  have cy1 := v_X3_isAtLimit (Or.inl rfl) hP qy1
  refine C_V0r (pc := 4) (k' := k_X3_isAtLimit) dX10_canExecute_4 w6_66 i_X3_isAtLimit (lk_18 hP) ⟨Nat.le_of_ble_eq_true rfl, Nat.le_of_ble_eq_true rfl⟩ rfl (Nat.le_of_ble_eq_true rfl) (Nat.le_of_ble_eq_true rfl) (Nat.le_of_ble_eq_true rfl) (cy1) ?_
  have hPy1 := cy1.1.1
  refine Y_if_eq (pc := 7) (tgt := 19) dX10_canExecute_7 (by decide) (fun hc1 => ?_) (fun hc1 => ?_)
  · replace h := ifT hc1 h
    refine Y_aload_n (pc := 19) (j := 0) dX10_canExecute_19 rfl rfl ?_
    refine Z_getr (pc := 20) dX10_canExecute_20 w3_10 (lk_38 hPy1) fr_10_3 (lr_38_3 hPy1) ?_
    obtain ⟨y2, qy2, h⟩ := bindE h
    have cy2 := v_X6_isFull hPy1 qy2
    refine C_V0r (pc := 23) (k' := k_X6_isFull) dX10_canExecute_23 w6_103 i_X6_isFull (lk_48 hPy1) ⟨Nat.le_of_ble_eq_true rfl, Nat.le_of_ble_eq_true rfl⟩ rfl (Nat.le_of_ble_eq_true rfl) (Nat.le_of_ble_eq_true rfl) (Nat.le_of_ble_eq_true rfl) (cy2) ?_
    have hPy2 := cy2.1.1
    refine Y_if_eq (pc := 26) (tgt := 33) dX10_canExecute_26 (by decide) (fun hc2 => ?_) (fun hc2 => ?_)
    · replace h := ifT hc2 h
      refine VV.sub [0] rfl ?_
      exact b_X10_canExecute_33  hPy2 h
    · replace h := ifF hc2 h
      refine Y_aload_n (pc := 29) (j := 0) dX10_canExecute_29 rfl rfl ?_
      obtain ⟨y3, qy3, h⟩ := bindE h
      have cy3 := v_X10_breakOff hPy2 qy3
      refine C_V0o (pc := 30) (k' := k_X10_breakOff) dX10_canExecute_30 w6_107 i_X10_breakOff (lk_38 hPy2) ⟨Nat.le_of_ble_eq_true rfl, Nat.le_of_ble_eq_true rfl⟩ rfl (Nat.le_of_ble_eq_true rfl) (Nat.le_of_ble_eq_true rfl) (Nat.le_of_ble_eq_true rfl) (cy3) ?_
      have hPy3 := cy3.1.1
      refine VV.sub [0] rfl ?_
      exact b_X10_canExecute_33  hPy3 h
  · replace h := ifF hc1 h
    refine Y_aload_n (pc := 10) (j := 0) dX10_canExecute_10 rfl rfl ?_
    refine Z_getr (pc := 11) dX10_canExecute_11 w3_5 (lk_38 hPy1) fr_10_0 (lr_38_0 hPy1) ?_
    obtain ⟨y4, qy4, h⟩ := bindE h
    have cy4 := v_X3_endAtLimit (Or.inl rfl) hPy1 qy4
    refine C_V0o (pc := 14) (k' := k_X3_endAtLimit) dX10_canExecute_14 w6_102 i_X3_endAtLimit (lk_18 hPy1) ⟨Nat.le_of_ble_eq_true rfl, Nat.le_of_ble_eq_true rfl⟩ rfl (Nat.le_of_ble_eq_true rfl) (Nat.le_of_ble_eq_true rfl) (Nat.le_of_ble_eq_true rfl) (cy4) ?_
    have hPy4 := cy4.1.1
    refine Y_iconst (pc := 17) (v := (0 : Int32)) dX10_canExecute_17 rfl ?_
    cases h
    exact Y_iret (pc := 18) rfl (nar_bo (by decide)) dX10_canExecute_18 hPy4 ⟨rfl, rfl⟩
theorem v_X10_canExecute {M z} (hP : Lay M) (h : d_X10_canExecute M = some z) : CC Lay k_X10_canExecute [.ref 38] M z.2 (Qv (some (.int z.1)) z.2) xF :=
  CC.ofVV (by decide) rfl (Nat.le_of_ble_eq_true rfl) (b_X10_canExecute hP h)
theorem b_X10_meetCache {x1 : Int32} {M z} (hP : Lay M) (h : d_X10_meetCache x1 M = some z) : VV Lay k_X10_meetCache 0 [(0, .ref 38), (1, .int x1)] [] M z.2 (Qv (none) z.2) xF := by
  unfold d_X10_meetCache at h
  refine Y_iload_n (pc := 0) (j := 1) dX10_meetCache_0 rfl rfl ?_
  refine Y_bipush (pc := 1) (v := (103 : Int32)) dX10_meetCache_1 rfl ?_
  refine Y_icmp_ne (pc := 3) (tgt := 31) dX10_meetCache_3 (by decide) (fun hc1 => ?_) (fun hc1 => ?_)
  · replace h := ifF hc1 h
    refine Y_iload_n (pc := 31) (j := 1) dX10_meetCache_31 rfl rfl ?_
    refine Y_bipush (pc := 32) (v := (112 : Int32)) dX10_meetCache_32 rfl ?_
    refine Y_icmp_ne (pc := 34) (tgt := 62) dX10_meetCache_34 (by decide) (fun hc2 => ?_) (fun hc2 => ?_)
    · replace h := ifF hc2 h
      refine Y_iload_n (pc := 62) (j := 1) dX10_meetCache_62 rfl rfl ?_
      refine Y_bipush (pc := 63) (v := (109 : Int32)) dX10_meetCache_63 rfl ?_
      refine Y_icmp_ne (pc := 65) (tgt := 89) dX10_meetCache_65 (by decide) (fun hc3 => ?_) (fun hc3 => ?_)
      · replace h := ifF hc3 h
        cases h
        exact Y_vret (pc := 89) rfl dX10_meetCache_89 hP ⟨rfl, rfl⟩
      · replace h := ifT hc3 h
        refine Y_aload_n (pc := 68) (j := 0) dX10_meetCache_68 rfl rfl ?_
        refine Z_getr (pc := 69) dX10_meetCache_69 w3_6 (lk_38 hP) fr_10_1 (lr_38_1 hP) ?_
        refine Y_aload_n (pc := 72) (j := 0) dX10_meetCache_72 rfl rfl ?_
        refine Z_getr (pc := 73) dX10_meetCache_73 w3_5 (lk_38 hP) fr_10_0 (lr_38_0 hP) ?_
        obtain ⟨y1, qy1, h⟩ := bindE h
        have cy1 := v_X3_siteAhead (Or.inl rfl) hP qy1
        refine C_V0r (pc := 76) (k' := k_X3_siteAhead) dX10_meetCache_76 w6_128 i_X3_siteAhead (lk_18 hP) ⟨Nat.le_of_ble_eq_true rfl, Nat.le_of_ble_eq_true rfl⟩ rfl (Nat.le_of_ble_eq_true rfl) (Nat.le_of_ble_eq_true rfl) (Nat.le_of_ble_eq_true rfl) (cy1) ?_
        have hPy1 := cy1.1.1
        refine Y_aload_n (pc := 79) (j := 0) dX10_meetCache_79 rfl rfl ?_
        refine Z_getr (pc := 80) dX10_meetCache_80 w3_5 (lk_38 hPy1) fr_10_0 (lr_38_0 hPy1) ?_
        obtain ⟨y2, qy2, h⟩ := bindE h
        have cy2 := v_X3_classFromTop (Or.inl rfl) hPy1 qy2
        refine C_V0r (pc := 83) (k' := k_X3_classFromTop) dX10_meetCache_83 w6_138 i_X3_classFromTop (lk_18 hPy1) ⟨Nat.le_of_ble_eq_true rfl, Nat.le_of_ble_eq_true rfl⟩ rfl (Nat.le_of_ble_eq_true rfl) (Nat.le_of_ble_eq_true rfl) (Nat.le_of_ble_eq_true rfl) (cy2) ?_
        have hPy2 := cy2.1.1
        obtain ⟨y3, qy3, h⟩ := bindE h
        have cy3 := v_X0_meet hPy2 qy3
        refine C_V2o (pc := 86) (k' := k_X0_meet) dX10_meetCache_86 w6_130 i_X0_meet (lk_39 hPy2) ⟨Nat.le_of_ble_eq_true rfl, Nat.le_of_ble_eq_true rfl⟩ rfl (Nat.le_of_ble_eq_true rfl) (Nat.le_of_ble_eq_true rfl) (Nat.le_of_ble_eq_true rfl) (cy3) ?_
        have hPy3 := cy3.1.1
        cases h
        exact Y_vret (pc := 89) rfl dX10_meetCache_89 hPy3 ⟨rfl, rfl⟩
    · replace h := ifT hc2 h
      refine Y_aload_n (pc := 37) (j := 0) dX10_meetCache_37 rfl rfl ?_
      refine Z_getr (pc := 38) dX10_meetCache_38 w3_6 (lk_38 hP) fr_10_1 (lr_38_1 hP) ?_
      refine Y_aload_n (pc := 41) (j := 0) dX10_meetCache_41 rfl rfl ?_
      refine Z_getr (pc := 42) dX10_meetCache_42 w3_5 (lk_38 hP) fr_10_0 (lr_38_0 hP) ?_
      obtain ⟨y4, qy4, h⟩ := bindE h
      have cy4 := v_X3_siteAhead (Or.inl rfl) hP qy4
      refine C_V0r (pc := 45) (k' := k_X3_siteAhead) dX10_meetCache_45 w6_128 i_X3_siteAhead (lk_18 hP) ⟨Nat.le_of_ble_eq_true rfl, Nat.le_of_ble_eq_true rfl⟩ rfl (Nat.le_of_ble_eq_true rfl) (Nat.le_of_ble_eq_true rfl) (Nat.le_of_ble_eq_true rfl) (cy4) ?_
      have hPy4 := cy4.1.1
      refine Y_aload_n (pc := 48) (j := 0) dX10_meetCache_48 rfl rfl ?_
      refine Z_getr (pc := 49) dX10_meetCache_49 w3_5 (lk_38 hPy4) fr_10_0 (lr_38_0 hPy4) ?_
      refine Y_iconst (pc := 52) (v := (2 : Int32)) dX10_meetCache_52 rfl ?_
      obtain ⟨y5, qy5, h⟩ := bindE h
      have cy5 := v_X3_shapeFromTop (Or.inl rfl) hPy4 qy5
      refine C_V1r (pc := 53) (k' := k_X3_shapeFromTop) dX10_meetCache_53 w6_129 i_X3_shapeFromTop (lk_18 hPy4) ⟨Nat.le_of_ble_eq_true rfl, Nat.le_of_ble_eq_true rfl⟩ rfl (Nat.le_of_ble_eq_true rfl) (Nat.le_of_ble_eq_true rfl) (Nat.le_of_ble_eq_true rfl) (cy5) ?_
      have hPy5 := cy5.1.1
      obtain ⟨y6, qy6, h⟩ := bindE h
      have cy6 := v_X0_meet hPy5 qy6
      refine C_V2o (pc := 56) (k' := k_X0_meet) dX10_meetCache_56 w6_130 i_X0_meet (lk_39 hPy5) ⟨Nat.le_of_ble_eq_true rfl, Nat.le_of_ble_eq_true rfl⟩ rfl (Nat.le_of_ble_eq_true rfl) (Nat.le_of_ble_eq_true rfl) (Nat.le_of_ble_eq_true rfl) (cy6) ?_
      have hPy6 := cy6.1.1
      refine Y_goto (pc := 59) (tgt := 89) dX10_meetCache_59 (by decide) ?_
      cases h
      exact Y_vret (pc := 89) rfl dX10_meetCache_89 hPy6 ⟨rfl, rfl⟩
  · replace h := ifT hc1 h
    refine Y_aload_n (pc := 6) (j := 0) dX10_meetCache_6 rfl rfl ?_
    refine Z_getr (pc := 7) dX10_meetCache_7 w3_6 (lk_38 hP) fr_10_1 (lr_38_1 hP) ?_
    refine Y_aload_n (pc := 10) (j := 0) dX10_meetCache_10 rfl rfl ?_
    refine Z_getr (pc := 11) dX10_meetCache_11 w3_5 (lk_38 hP) fr_10_0 (lr_38_0 hP) ?_
    obtain ⟨y7, qy7, h⟩ := bindE h
    have cy7 := v_X3_siteAhead (Or.inl rfl) hP qy7
    refine C_V0r (pc := 14) (k' := k_X3_siteAhead) dX10_meetCache_14 w6_128 i_X3_siteAhead (lk_18 hP) ⟨Nat.le_of_ble_eq_true rfl, Nat.le_of_ble_eq_true rfl⟩ rfl (Nat.le_of_ble_eq_true rfl) (Nat.le_of_ble_eq_true rfl) (Nat.le_of_ble_eq_true rfl) (cy7) ?_
    have hPy7 := cy7.1.1
    refine Y_aload_n (pc := 17) (j := 0) dX10_meetCache_17 rfl rfl ?_
    refine Z_getr (pc := 18) dX10_meetCache_18 w3_5 (lk_38 hPy7) fr_10_0 (lr_38_0 hPy7) ?_
    refine Y_iconst (pc := 21) (v := (1 : Int32)) dX10_meetCache_21 rfl ?_
    obtain ⟨y8, qy8, h⟩ := bindE h
    have cy8 := v_X3_shapeFromTop (Or.inl rfl) hPy7 qy8
    refine C_V1r (pc := 22) (k' := k_X3_shapeFromTop) dX10_meetCache_22 w6_129 i_X3_shapeFromTop (lk_18 hPy7) ⟨Nat.le_of_ble_eq_true rfl, Nat.le_of_ble_eq_true rfl⟩ rfl (Nat.le_of_ble_eq_true rfl) (Nat.le_of_ble_eq_true rfl) (Nat.le_of_ble_eq_true rfl) (cy8) ?_
    have hPy8 := cy8.1.1
    obtain ⟨y9, qy9, h⟩ := bindE h
    have cy9 := v_X0_meet hPy8 qy9
    refine C_V2o (pc := 25) (k' := k_X0_meet) dX10_meetCache_25 w6_130 i_X0_meet (lk_39 hPy8) ⟨Nat.le_of_ble_eq_true rfl, Nat.le_of_ble_eq_true rfl⟩ rfl (Nat.le_of_ble_eq_true rfl) (Nat.le_of_ble_eq_true rfl) (Nat.le_of_ble_eq_true rfl) (cy9) ?_
    have hPy9 := cy9.1.1
    refine Y_goto (pc := 28) (tgt := 89) dX10_meetCache_28 (by decide) ?_
    cases h
    exact Y_vret (pc := 89) rfl dX10_meetCache_89 hPy9 ⟨rfl, rfl⟩
theorem v_X10_meetCache {x1 : Int32} {M z} (hP : Lay M) (h : d_X10_meetCache x1 M = some z) : CC Lay k_X10_meetCache [.ref 38, .int x1] M z.2 (Qv (none) z.2) xF :=
  CC.ofVV (by decide) rfl (Nat.le_of_ble_eq_true rfl) (b_X10_meetCache hP h)
theorem b_X10_finish_169 {x1 : Int32} {x2 : Int32} {M z} (hP : Lay M) (h : d_X10_finish_169 x1 x2 M = some z) : VV Lay k_X10_finish 169 [(0, .ref 38), (1, .int x1), (2, .int x2)] [] M z.2 (Qv (none) z.2) xF := by
  unfold d_X10_finish_169 at h
  refine Y_aload_n (pc := 169) (j := 0) dX10_finish_169 rfl rfl ?_
  refine Z_getr (pc := 170) dX10_finish_170 w3_10 (lk_38 hP) fr_10_3 (lr_38_3 hP) ?_
  refine Y_iconst (pc := 173) (v := (0 : Int32)) dX10_finish_173 rfl ?_
  refine Z_putz (pc := 174) dX10_finish_174 w2_67 (lk_48 hP) fi_6_10 (Or.inl rfl) rfl (by decide) ?_
  obtain ⟨M1, eM1, h⟩ := bndE h
  refine VV.mem eM1 ?_
  have hP1 := hP.wI eM1
  refine Y_aload_n (pc := 177) (j := 0) dX10_finish_177 rfl rfl ?_
  refine Y_iload_n (pc := 178) (j := 1) dX10_finish_178 rfl rfl ?_
  refine Y_iconst (pc := 179) (v := (-1 : Int32)) dX10_finish_179 rfl ?_
  refine Y_icmp_ne (pc := 180) (tgt := 187) dX10_finish_180 (by decide) (fun hc1 => ?_) (fun hc1 => ?_)
  · replace h := ifF hc1 h
    refine Y_iload_n (pc := 187) (j := 1) dX10_finish_187 rfl rfl ?_
    obtain ⟨y1, qy1, h⟩ := bindE h
    have cy1 := v_X10_enter hP1 qy1
    refine C_V1o (pc := 188) (k' := k_X10_enter) dX10_finish_188 w6_94 i_X10_enter (lk_38 hP1) ⟨Nat.le_of_ble_eq_true rfl, Nat.le_of_ble_eq_true rfl⟩ rfl (Nat.le_of_ble_eq_true rfl) (Nat.le_of_ble_eq_true rfl) (Nat.le_of_ble_eq_true rfl) (cy1) ?_
    have hPy1 := cy1.1.1
    cases h
    exact Y_vret (pc := 191) rfl dX10_finish_191 hPy1 ⟨rfl, rfl⟩
  · replace h := ifT hc1 h
    refine Y_iload_n (pc := 183) (j := 2) dX10_finish_183 rfl rfl ?_
    refine Y_goto (pc := 184) (tgt := 188) dX10_finish_184 (by decide) ?_
    obtain ⟨y2, qy2, h⟩ := bindE h
    have cy2 := v_X10_enter hP1 qy2
    refine C_V1o (pc := 188) (k' := k_X10_enter) dX10_finish_188 w6_94 i_X10_enter (lk_38 hP1) ⟨Nat.le_of_ble_eq_true rfl, Nat.le_of_ble_eq_true rfl⟩ rfl (Nat.le_of_ble_eq_true rfl) (Nat.le_of_ble_eq_true rfl) (Nat.le_of_ble_eq_true rfl) (cy2) ?_
    have hPy2 := cy2.1.1
    cases h
    exact Y_vret (pc := 191) rfl dX10_finish_191 hPy2 ⟨rfl, rfl⟩
theorem b_X10_finish_101 {x1 : Int32} {x2 : Int32} {s1 : Int32} {s2 : Nat} {s3 : Nat} {s5 : Int32} {M z} (hP : Lay M) (h : d_X10_finish_101 x1 x2 s1 s2 s3 s5 M = some z) : VV Lay k_X10_finish 101 [(0, .ref 38), (1, .int x1), (2, .int x2)] [.int s5, .ref 48, .ref s3, .ref s2, .int s1, .ref 68] M z.2 (Qv (none) z.2) xF := by
  unfold d_X10_finish_101 at h
  obtain ⟨hb1, h⟩ := okE h
  obtain ⟨hb2, h⟩ := okE h
  obtain ⟨y1, qy1, h⟩ := bindE h
  have cy1 := v_X9_init hP.fsh hb1 qy1
  refine C_I2o (pc := 101) (k' := k_X9_init) dX10_finish_101 w2_113 i_X9_init (Nat.le_of_ble_eq_true rfl) (Nat.le_of_ble_eq_true rfl) (Nat.le_of_ble_eq_true rfl) (cy1) ?_
  have hPy1 := hP.ini cy1.1.1 hb2
  obtain ⟨hb3, h⟩ := okE h
  obtain ⟨hb4, h⟩ := okE h
  refine Y_aast (pc := 104) dX10_finish_104 (lk_68 hPy1) (ln_68 hPy1) hb3 hb4 ?_
  obtain ⟨M1, eM1, h⟩ := bndE h
  refine VV.mem eM1 ?_
  have hP1 := hPy1.wRE (by decide +kernel) eM1
  refine Y_aload_n (pc := 105) (j := 0) dX10_finish_105 rfl rfl ?_
  refine Z_getr (pc := 106) dX10_finish_106 w3_11 (lk_38 hP1) fr_10_4 (lr_38_4 hP1) ?_
  refine Y_dup (pc := 109) dX10_finish_109 rfl ?_
  refine Z_geti (pc := 110) dX10_finish_110 w2_227 (lk_67 hP1) fi_2_3 ?_
  refine Y_iconst (pc := 113) (v := (1 : Int32)) dX10_finish_113 rfl ?_
  refine Y_iadd (pc := 114) dX10_finish_114 ?_
  refine Z_puti (pc := 115) dX10_finish_115 w2_227 (lk_67 hP1) fi_2_3 (Or.inl rfl) rfl ?_
  obtain ⟨M2, eM2, h⟩ := bndE h
  refine VV.mem eM2 ?_
  have hP2 := hP1.wI eM2
  refine Y_iload_n (pc := 118) (j := 1) dX10_finish_118 rfl rfl ?_
  refine Y_iconst (pc := 119) (v := (-1 : Int32)) dX10_finish_119 rfl ?_
  refine Y_icmp_ne (pc := 120) (tgt := 142) dX10_finish_120 (by decide) (fun hc1 => ?_) (fun hc1 => ?_)
  · replace h := ifF hc1 h
    refine Y_aload_n (pc := 142) (j := 0) dX10_finish_142 rfl rfl ?_
    refine Z_getr (pc := 143) dX10_finish_143 w3_11 (lk_38 hP2) fr_10_4 (lr_38_4 hP2) ?_
    refine Z_getr (pc := 146) dX10_finish_146 w2_224 (lk_67 hP2) fr_2_2 (lr_67_2 hP2) ?_
    refine Y_aload_n (pc := 149) (j := 0) dX10_finish_149 rfl rfl ?_
    refine Z_getr (pc := 150) dX10_finish_150 w3_10 (lk_38 hP2) fr_10_3 (lr_38_3 hP2) ?_
    refine Z_geti (pc := 153) dX10_finish_153 w2_74 (lk_48 hP2) fi_6_13 ?_
    obtain ⟨hb5, h⟩ := okE h
    obtain ⟨r_1, er_1, h⟩ := bindE h
    refine Y_aald (pc := 156) dX10_finish_156 (lk_68 hP2) (ln_68 hP2) hb5 er_1 ?_
    obtain ⟨hb6, h⟩ := okE h
    obtain ⟨r_2, er_2, h⟩ := bindE h
    refine Z_getr (pc := 157) dX10_finish_157 w2_162 hb6 fr_9_11 er_2 ?_
    refine Y_aload_n (pc := 160) (j := 0) dX10_finish_160 rfl rfl ?_
    refine Z_getr (pc := 161) dX10_finish_161 w3_10 (lk_38 hP2) fr_10_3 (lr_38_3 hP2) ?_
    refine Z_geti (pc := 164) dX10_finish_164 w2_76 (lk_48 hP2) fi_6_14 ?_
    refine Y_iload_n (pc := 167) (j := 2) dX10_finish_167 rfl rfl ?_
    obtain ⟨hb7, h⟩ := okE h
    obtain ⟨hb8, h⟩ := okE h
    refine Y_iast (pc := 168) dX10_finish_168 hb7 rfl hb8 ?_
    obtain ⟨M3, eM3, h⟩ := bndE h
    refine VV.mem eM3 ?_
    have hP3 := hP2.wI eM3
    refine VV.sub [0, 1, 2] rfl ?_
    exact b_X10_finish_169  hP3 h
  · replace h := ifT hc1 h
    refine Y_aload_n (pc := 123) (j := 0) dX10_finish_123 rfl rfl ?_
    refine Z_getr (pc := 124) dX10_finish_124 w3_8 (lk_38 hP2) fr_10_2 (lr_38_2 hP2) ?_
    refine Z_getr (pc := 127) dX10_finish_127 w2_32 (lk_44 hP2) fr_3_2 (lr_44_2 hP2) ?_
    refine Y_aload_n (pc := 130) (j := 0) dX10_finish_130 rfl rfl ?_
    refine Z_getr (pc := 131) dX10_finish_131 w3_10 (lk_38 hP2) fr_10_3 (lr_38_3 hP2) ?_
    refine Z_geti (pc := 134) dX10_finish_134 w2_70 (lk_48 hP2) fi_6_11 ?_
    refine Y_iload_n (pc := 137) (j := 2) dX10_finish_137 rfl rfl ?_
    obtain ⟨hb9, h⟩ := okE h
    refine Y_iast (pc := 138) dX10_finish_138 (lk_47 hP2) (ln_47 hP2) hb9 ?_
    obtain ⟨M4, eM4, h⟩ := bndE h
    refine VV.mem eM4 ?_
    have hP4 := hP2.wI eM4
    refine Y_goto (pc := 139) (tgt := 169) dX10_finish_139 (by decide) ?_
    refine VV.sub [0, 1, 2] rfl ?_
    exact b_X10_finish_169  hP4 h
theorem b_X10_finish_33 {s0 : Int32} {M z} (hP : Lay M) (h : d_X10_finish_33 s0 M = some z) : VV Lay k_X10_finish 33 [(0, .ref 38)] [.int s0] M z.2 (Qv (none) z.2) xF := by
  unfold d_X10_finish_33 at h
  refine Y_istore_n (pc := 33) (lv1 := [(1, .int s0), (0, .ref 38)]) dX10_finish_33 rfl (by decide) rfl ?_
  refine Y_aload_n (pc := 34) (j := 1) dX10_finish_34 rfl rfl ?_
  refine Z_getr (pc := 35) dX10_finish_35 w3_11 (lk_38 hP) fr_10_4 (lr_38_4 hP) ?_
  obtain ⟨y1, qy1, h⟩ := bindE h
  have cy1 := v_X1_isFull hP qy1
  refine C_V0r (pc := 38) (k' := k_X1_isFull) dX10_finish_38 w6_213 i_X1_isFull (lk_67 hP) ⟨Nat.le_of_ble_eq_true rfl, Nat.le_of_ble_eq_true rfl⟩ rfl (Nat.le_of_ble_eq_true rfl) (Nat.le_of_ble_eq_true rfl) (Nat.le_of_ble_eq_true rfl) (cy1) ?_
  have hPy1 := cy1.1.1
  refine Y_if_ne (pc := 41) (tgt := 62) dX10_finish_41 (by decide) (fun hc1 => ?_) (fun hc1 => ?_)
  · replace h := ifF hc1 h
    refine Y_aload_n (pc := 62) (j := 1) dX10_finish_62 rfl rfl ?_
    obtain ⟨y2, qy2, h⟩ := bindE h
    have cy2 := v_X10_breakOff hPy1 qy2
    refine C_V0o (pc := 63) (k' := k_X10_breakOff) dX10_finish_63 w6_107 i_X10_breakOff (lk_38 hPy1) ⟨Nat.le_of_ble_eq_true rfl, Nat.le_of_ble_eq_true rfl⟩ rfl (Nat.le_of_ble_eq_true rfl) (Nat.le_of_ble_eq_true rfl) (Nat.le_of_ble_eq_true rfl) (cy2) ?_
    have hPy2 := cy2.1.1
    cases h
    exact Y_vret (pc := 66) rfl dX10_finish_66 hPy2 ⟨rfl, rfl⟩
  · replace h := ifT hc1 h
    refine Y_aload_n (pc := 44) (j := 1) dX10_finish_44 rfl rfl ?_
    refine Z_getr (pc := 45) dX10_finish_45 w3_11 (lk_38 hPy1) fr_10_4 (lr_38_4 hPy1) ?_
    refine Y_aload_n (pc := 48) (j := 1) dX10_finish_48 rfl rfl ?_
    refine Z_getr (pc := 49) dX10_finish_49 w3_10 (lk_38 hPy1) fr_10_3 (lr_38_3 hPy1) ?_
    refine Z_geti (pc := 52) dX10_finish_52 w2_62 (lk_48 hPy1) fi_6_7 ?_
    refine Y_iload_n (pc := 55) (j := 0) dX10_finish_55 rfl rfl ?_
    obtain ⟨y3, qy3, h⟩ := bindE h
    have cy3 := v_X1_makeRoom hPy1 qy3
    refine C_V2r (pc := 56) (k' := k_X1_makeRoom) dX10_finish_56 w6_217 i_X1_makeRoom (lk_67 hPy1) ⟨Nat.le_of_ble_eq_true rfl, Nat.le_of_ble_eq_true rfl⟩ rfl (Nat.le_of_ble_eq_true rfl) (Nat.le_of_ble_eq_true rfl) (Nat.le_of_ble_eq_true rfl) (cy3) ?_
    have hPy3 := cy3.1.1
    refine Y_if_ne (pc := 59) (tgt := 67) dX10_finish_59 (by decide) (fun hc2 => ?_) (fun hc2 => ?_)
    · replace h := ifF hc2 h
      refine Y_aload_n (pc := 67) (j := 1) dX10_finish_67 rfl rfl ?_
      refine Z_getr (pc := 68) dX10_finish_68 w3_11 (lk_38 hPy3) fr_10_4 (lr_38_4 hPy3) ?_
      refine Z_geti (pc := 71) dX10_finish_71 w2_227 (lk_67 hPy3) fi_2_3 ?_
      obtain ⟨b1, eb1, h⟩ := bndE h
      refine VV.topI eb1 ?_
      refine Y_istore_n (pc := 74) (lv1 := [(2, .int b1), (1, .int s0), (0, .ref 38)]) dX10_finish_74 rfl (by decide) rfl ?_
      refine Y_aload_n (pc := 75) (j := 2) dX10_finish_75 rfl rfl ?_
      refine Z_getr (pc := 76) dX10_finish_76 w3_11 (lk_38 hPy3) fr_10_4 (lr_38_4 hPy3) ?_
      refine Z_getr (pc := 79) dX10_finish_79 w2_224 (lk_67 hPy3) fr_2_2 (lr_67_2 hPy3) ?_
      refine Y_iload_n (pc := 82) (j := 0) dX10_finish_82 rfl rfl ?_
      obtain ⟨r_1, er_1, h⟩ := bndE h
      obtain ⟨hb1, h⟩ := okE h
      refine Y_new (pc := 83) (a := r_1) (t := 9) dX10_finish_83 (by decide) (by decide) w2_111 w2_112 w1_11 (hPy3.free er_1) hb1 ?_
      obtain ⟨M1, eM1, h⟩ := bndE h
      refine VV.mem eM1 ?_
      have hP1 := hPy3.wN er_1 (by decide) eM1
      refine Y_dup (pc := 86) dX10_finish_86 rfl ?_
      refine Y_aload_n (pc := 87) (j := 2) dX10_finish_87 rfl rfl ?_
      refine Z_getr (pc := 88) dX10_finish_88 w3_10 (lk_38 hP1) fr_10_3 (lr_38_3 hP1) ?_
      refine Y_iload_n (pc := 91) (j := 1) dX10_finish_91 rfl rfl ?_
      refine Y_iconst (pc := 92) (v := (-1 : Int32)) dX10_finish_92 rfl ?_
      refine Y_icmp_ne (pc := 93) (tgt := 100) dX10_finish_93 (by decide) (fun hc3 => ?_) (fun hc3 => ?_)
      · replace h := ifF hc3 h
        refine Y_iload_n (pc := 100) (j := 1) dX10_finish_100 rfl rfl ?_
        refine VV.sub [2, 1, 0] rfl ?_
        exact b_X10_finish_101  hP1 h
      · replace h := ifT hc3 h
        refine Y_iload_n (pc := 96) (j := 0) dX10_finish_96 rfl rfl ?_
        refine Y_goto (pc := 97) (tgt := 101) dX10_finish_97 (by decide) ?_
        refine VV.sub [2, 1, 0] rfl ?_
        exact b_X10_finish_101  hP1 h
    · replace h := ifT hc2 h
      refine Y_aload_n (pc := 62) (j := 1) dX10_finish_62 rfl rfl ?_
      obtain ⟨y4, qy4, h⟩ := bindE h
      have cy4 := v_X10_breakOff hPy3 qy4
      refine C_V0o (pc := 63) (k' := k_X10_breakOff) dX10_finish_63 w6_107 i_X10_breakOff (lk_38 hPy3) ⟨Nat.le_of_ble_eq_true rfl, Nat.le_of_ble_eq_true rfl⟩ rfl (Nat.le_of_ble_eq_true rfl) (Nat.le_of_ble_eq_true rfl) (Nat.le_of_ble_eq_true rfl) (cy4) ?_
      have hPy4 := cy4.1.1
      cases h
      exact Y_vret (pc := 66) rfl dX10_finish_66 hPy4 ⟨rfl, rfl⟩
theorem b_X10_finish {M z} (hP : Lay M) (h : d_X10_finish M = some z) : VV Lay k_X10_finish 0 [(0, .ref 38)] [] M z.2 (Qv (none) z.2) xF := by
  unfold d_X10_finish at h
  refine Y_aload_n (pc := 0) (j := 0) dX10_finish_0 rfl rfl ?_
  refine Z_getr (pc := 1) dX10_finish_1 w3_10 (lk_38 hP) fr_10_3 (lr_38_3 hP) ?_
  refine Z_geti (pc := 4) dX10_finish_4 w2_74 (lk_48 hP) fi_6_13 ?_
  refine Y_iconst (pc := 7) (v := (-1 : Int32)) dX10_finish_7 rfl ?_
  refine Y_icmp_ne (pc := 8) (tgt := 15) dX10_finish_8 (by decide) (fun hc1 => ?_) (fun hc1 => ?_)
  · replace h := ifF hc1 h
    refine Y_aload_n (pc := 15) (j := 0) dX10_finish_15 rfl rfl ?_
    refine Z_getr (pc := 16) dX10_finish_16 w3_11 (lk_38 hP) fr_10_4 (lr_38_4 hP) ?_
    refine Z_getr (pc := 19) dX10_finish_19 w2_224 (lk_67 hP) fr_2_2 (lr_67_2 hP) ?_
    refine Y_aload_n (pc := 22) (j := 0) dX10_finish_22 rfl rfl ?_
    refine Z_getr (pc := 23) dX10_finish_23 w3_10 (lk_38 hP) fr_10_3 (lr_38_3 hP) ?_
    refine Z_geti (pc := 26) dX10_finish_26 w2_74 (lk_48 hP) fi_6_13 ?_
    obtain ⟨hb1, h⟩ := okE h
    obtain ⟨r_1, er_1, h⟩ := bindE h
    refine Y_aald (pc := 29) dX10_finish_29 (lk_68 hP) (ln_68 hP) hb1 er_1 ?_
    obtain ⟨hb2, h⟩ := okE h
    refine Z_geti (pc := 30) dX10_finish_30 w2_165 hb2 fi_9_12 ?_
    refine VV.sub [0] rfl ?_
    exact b_X10_finish_33  hP h
  · replace h := ifT hc1 h
    refine Y_iconst (pc := 11) (v := (-1 : Int32)) dX10_finish_11 rfl ?_
    refine Y_goto (pc := 12) (tgt := 33) dX10_finish_12 (by decide) ?_
    refine VV.sub [0] rfl ?_
    exact b_X10_finish_33  hP h
theorem v_X10_finish {M z} (hP : Lay M) (h : d_X10_finish M = some z) : CC Lay k_X10_finish [.ref 38] M z.2 (Qv (none) z.2) xF :=
  CC.ofVV (by decide) rfl (Nat.le_of_ble_eq_true rfl) (b_X10_finish hP h)
theorem b_X10_arrive_29 {x1 : Int32} {M z} (hP : Lay M) (h : d_X10_arrive_29 x1 M = some z) : VV Lay k_X10_arrive 29 [(0, .ref 38), (1, .int x1)] [] M z.2 (Qv (none) z.2) xF := by
  unfold d_X10_arrive_29 at h
  refine Y_aload_n (pc := 29) (j := 0) dX10_arrive_29 rfl rfl ?_
  obtain ⟨y1, qy1, h⟩ := bindE h
  have cy1 := v_X10_breakOff hP qy1
  refine C_V0o (pc := 30) (k' := k_X10_breakOff) dX10_arrive_30 w6_107 i_X10_breakOff (lk_38 hP) ⟨Nat.le_of_ble_eq_true rfl, Nat.le_of_ble_eq_true rfl⟩ rfl (Nat.le_of_ble_eq_true rfl) (Nat.le_of_ble_eq_true rfl) (Nat.le_of_ble_eq_true rfl) (cy1) ?_
  have hPy1 := cy1.1.1
  refine Y_aload_n (pc := 33) (j := 0) dX10_arrive_33 rfl rfl ?_
  refine Z_getr (pc := 34) dX10_arrive_34 w3_8 (lk_38 hPy1) fr_10_2 (lr_38_2 hPy1) ?_
  refine Z_getr (pc := 37) dX10_arrive_37 w2_32 (lk_44 hPy1) fr_3_2 (lr_44_2 hPy1) ?_
  refine Y_iload_n (pc := 40) (j := 1) dX10_arrive_40 rfl rfl ?_
  obtain ⟨hb1, h⟩ := okE h
  refine Y_iald (pc := 41) dX10_arrive_41 (lk_47 hPy1) (ln_47 hPy1) hb1 ?_
  refine Y_iconst (pc := 42) (v := (-1 : Int32)) dX10_arrive_42 rfl ?_
  refine Y_icmp_eq (pc := 43) (tgt := 60) dX10_arrive_43 (by decide) (fun hc1 => ?_) (fun hc1 => ?_)
  · replace h := ifT hc1 h
    refine Y_aload_n (pc := 60) (j := 0) dX10_arrive_60 rfl rfl ?_
    refine Z_getr (pc := 61) dX10_arrive_61 w3_8 (lk_38 hPy1) fr_10_2 (lr_38_2 hPy1) ?_
    refine Z_getr (pc := 64) dX10_arrive_64 w2_27 (lk_44 hPy1) fr_3_0 (lr_44_0 hPy1) ?_
    refine Y_iload_n (pc := 67) (j := 1) dX10_arrive_67 rfl rfl ?_
    refine Y_dup2 (pc := 68) dX10_arrive_68 rfl rfl ?_
    obtain ⟨hb2, h⟩ := okE h
    refine Y_iald (pc := 69) dX10_arrive_69 (lk_45 hPy1) (ln_45 hPy1) hb2 ?_
    refine Y_iconst (pc := 70) (v := (1 : Int32)) dX10_arrive_70 rfl ?_
    refine Y_iadd (pc := 71) dX10_arrive_71 ?_
    obtain ⟨hb3, h⟩ := okE h
    refine Y_iast (pc := 72) dX10_arrive_72 (lk_45 hPy1) (ln_45 hPy1) hb3 ?_
    obtain ⟨M1, eM1, h⟩ := bndE h
    refine VV.mem eM1 ?_
    have hP1 := hPy1.wI eM1
    refine Y_aload_n (pc := 73) (j := 0) dX10_arrive_73 rfl rfl ?_
    refine Z_getr (pc := 74) dX10_arrive_74 w3_8 (lk_38 hP1) fr_10_2 (lr_38_2 hP1) ?_
    refine Z_getr (pc := 77) dX10_arrive_77 w2_27 (lk_44 hP1) fr_3_0 (lr_44_0 hP1) ?_
    refine Y_iload_n (pc := 80) (j := 1) dX10_arrive_80 rfl rfl ?_
    obtain ⟨hb4, h⟩ := okE h
    refine Y_iald (pc := 81) dX10_arrive_81 (lk_45 hP1) (ln_45 hP1) hb4 ?_
    refine Y_aload_n (pc := 82) (j := 0) dX10_arrive_82 rfl rfl ?_
    refine Z_geti (pc := 83) dX10_arrive_83 w3_13 (lk_38 hP1) fi_10_5 ?_
    refine Y_icmp_lt (pc := 86) (tgt := 112) dX10_arrive_86 (by decide) (fun hc2 => ?_) (fun hc2 => ?_)
    · replace h := ifT hc2 h
      cases h
      exact Y_vret (pc := 112) rfl dX10_arrive_112 hP1 ⟨rfl, rfl⟩
    · replace h := ifF hc2 h
      refine Y_aload_n (pc := 89) (j := 0) dX10_arrive_89 rfl rfl ?_
      refine Z_getr (pc := 90) dX10_arrive_90 w3_8 (lk_38 hP1) fr_10_2 (lr_38_2 hP1) ?_
      refine Y_iload_n (pc := 93) (j := 1) dX10_arrive_93 rfl rfl ?_
      obtain ⟨y2, qy2, h⟩ := bindE h
      have cy2 := v_X2_bars hP1 qy2
      refine C_V1r (pc := 94) (k' := k_X2_bars) dX10_arrive_94 w6_221 i_X2_bars (lk_44 hP1) ⟨Nat.le_of_ble_eq_true rfl, Nat.le_of_ble_eq_true rfl⟩ rfl (Nat.le_of_ble_eq_true rfl) (Nat.le_of_ble_eq_true rfl) (Nat.le_of_ble_eq_true rfl) (cy2) ?_
      have hPy2 := cy2.1.1
      refine Y_if_ne (pc := 97) (tgt := 112) dX10_arrive_97 (by decide) (fun hc3 => ?_) (fun hc3 => ?_)
      · replace h := ifF hc3 h
        cases h
        exact Y_vret (pc := 112) rfl dX10_arrive_112 hPy2 ⟨rfl, rfl⟩
      · replace h := ifT hc3 h
        refine Y_aload_n (pc := 100) (j := 0) dX10_arrive_100 rfl rfl ?_
        refine Z_getr (pc := 101) dX10_arrive_101 w3_10 (lk_38 hPy2) fr_10_3 (lr_38_3 hPy2) ?_
        refine Y_aload_n (pc := 104) (j := 0) dX10_arrive_104 rfl rfl ?_
        refine Z_getr (pc := 105) dX10_arrive_105 w3_5 (lk_38 hPy2) fr_10_0 (lr_38_0 hPy2) ?_
        refine Y_iload_n (pc := 108) (j := 1) dX10_arrive_108 rfl rfl ?_
        obtain ⟨y3, qy3, h⟩ := bindE h
        have cy3 := v_X6_beginRoot hPy2 qy3
        refine C_V2o (pc := 109) (k' := k_X6_beginRoot) dX10_arrive_109 w6_225 i_X6_beginRoot (lk_48 hPy2) ⟨Nat.le_of_ble_eq_true rfl, Nat.le_of_ble_eq_true rfl⟩ rfl (Nat.le_of_ble_eq_true rfl) (Nat.le_of_ble_eq_true rfl) (Nat.le_of_ble_eq_true rfl) (cy3) ?_
        have hPy3 := cy3.1.1
        cases h
        exact Y_vret (pc := 112) rfl dX10_arrive_112 hPy3 ⟨rfl, rfl⟩
  · replace h := ifF hc1 h
    refine Y_aload_n (pc := 46) (j := 0) dX10_arrive_46 rfl rfl ?_
    refine Y_aload_n (pc := 47) (j := 0) dX10_arrive_47 rfl rfl ?_
    refine Z_getr (pc := 48) dX10_arrive_48 w3_8 (lk_38 hPy1) fr_10_2 (lr_38_2 hPy1) ?_
    refine Z_getr (pc := 51) dX10_arrive_51 w2_32 (lk_44 hPy1) fr_3_2 (lr_44_2 hPy1) ?_
    refine Y_iload_n (pc := 54) (j := 1) dX10_arrive_54 rfl rfl ?_
    obtain ⟨hb5, h⟩ := okE h
    refine Y_iald (pc := 55) dX10_arrive_55 (lk_47 hPy1) (ln_47 hPy1) hb5 ?_
    obtain ⟨y4, qy4, h⟩ := bindE h
    have cy4 := v_X10_enter hPy1 qy4
    refine C_V1o (pc := 56) (k' := k_X10_enter) dX10_arrive_56 w6_94 i_X10_enter (lk_38 hPy1) ⟨Nat.le_of_ble_eq_true rfl, Nat.le_of_ble_eq_true rfl⟩ rfl (Nat.le_of_ble_eq_true rfl) (Nat.le_of_ble_eq_true rfl) (Nat.le_of_ble_eq_true rfl) (cy4) ?_
    have hPy4 := cy4.1.1
    cases h
    exact Y_vret (pc := 59) rfl dX10_arrive_59 hPy4 ⟨rfl, rfl⟩
theorem b_X10_arrive {x1 : Int32} {M z} (hP : Lay M) (h : d_X10_arrive x1 M = some z) : VV Lay k_X10_arrive 0 [(0, .ref 38), (1, .int x1)] [] M z.2 (Qv (none) z.2) xF := by
  unfold d_X10_arrive at h
  refine Y_aload_n (pc := 0) (j := 0) dX10_arrive_0 rfl rfl ?_
  refine Z_getr (pc := 1) dX10_arrive_1 w3_10 (lk_38 hP) fr_10_3 (lr_38_3 hP) ?_
  refine Z_geti (pc := 4) dX10_arrive_4 w2_67 (lk_48 hP) fi_6_10 ?_
  refine Y_if_eq (pc := 7) (tgt := 29) dX10_arrive_7 (by decide) (fun hc1 => ?_) (fun hc1 => ?_)
  · replace h := ifT hc1 h
    refine VV.sub [0, 1] rfl ?_
    exact b_X10_arrive_29  hP h
  · replace h := ifF hc1 h
    refine Y_aload_n (pc := 10) (j := 0) dX10_arrive_10 rfl rfl ?_
    refine Z_getr (pc := 11) dX10_arrive_11 w3_10 (lk_38 hP) fr_10_3 (lr_38_3 hP) ?_
    refine Y_aload_n (pc := 14) (j := 0) dX10_arrive_14 rfl rfl ?_
    refine Z_getr (pc := 15) dX10_arrive_15 w3_5 (lk_38 hP) fr_10_0 (lr_38_0 hP) ?_
    obtain ⟨y1, qy1, h⟩ := bindE h
    have cy1 := v_X6_isClosedBy hP qy1
    refine C_V1r (pc := 18) (k' := k_X6_isClosedBy) dX10_arrive_18 w6_204 i_X6_isClosedBy (lk_48 hP) ⟨Nat.le_of_ble_eq_true rfl, Nat.le_of_ble_eq_true rfl⟩ rfl (Nat.le_of_ble_eq_true rfl) (Nat.le_of_ble_eq_true rfl) (Nat.le_of_ble_eq_true rfl) (cy1) ?_
    have hPy1 := cy1.1.1
    refine Y_if_eq (pc := 21) (tgt := 29) dX10_arrive_21 (by decide) (fun hc2 => ?_) (fun hc2 => ?_)
    · replace h := ifT hc2 h
      refine VV.sub [0, 1] rfl ?_
      exact b_X10_arrive_29  hPy1 h
    · replace h := ifF hc2 h
      refine Y_aload_n (pc := 24) (j := 0) dX10_arrive_24 rfl rfl ?_
      obtain ⟨y2, qy2, h⟩ := bindE h
      have cy2 := v_X10_finish hPy1 qy2
      refine C_V0o (pc := 25) (k' := k_X10_finish) dX10_arrive_25 w6_209 i_X10_finish (lk_38 hPy1) ⟨Nat.le_of_ble_eq_true rfl, Nat.le_of_ble_eq_true rfl⟩ rfl (Nat.le_of_ble_eq_true rfl) (Nat.le_of_ble_eq_true rfl) (Nat.le_of_ble_eq_true rfl) (cy2) ?_
      have hPy2 := cy2.1.1
      cases h
      exact Y_vret (pc := 28) rfl dX10_arrive_28 hPy2 ⟨rfl, rfl⟩
theorem v_X10_arrive {x1 : Int32} {M z} (hP : Lay M) (h : d_X10_arrive x1 M = some z) : CC Lay k_X10_arrive [.ref 38, .int x1] M z.2 (Qv (none) z.2) xF :=
  CC.ofVV (by decide) rfl (Nat.le_of_ble_eq_true rfl) (b_X10_arrive hP h)
theorem b_X10_executeOutside_91 {x2 : Int32} {M z} (hP : Lay M) (h : d_X10_executeOutside_91 x2 M = some z) : VV Lay k_X10_executeOutside 91 [(0, .ref 38), (2, .int x2)] [] M z.2 (Qv (none) z.2) xF := by
  unfold d_X10_executeOutside_91 at h
  refine Y_iload_n (pc := 91) (j := 1) dX10_executeOutside_91 rfl rfl ?_
  refine Y_if_eq (pc := 92) (tgt := 106) dX10_executeOutside_92 (by decide) (fun hc1 => ?_) (fun hc1 => ?_)
  · replace h := ifT hc1 h
    cases h
    exact Y_vret (pc := 106) rfl dX10_executeOutside_106 hP ⟨rfl, rfl⟩
  · replace h := ifF hc1 h
    refine Y_aload_n (pc := 95) (j := 0) dX10_executeOutside_95 rfl rfl ?_
    refine Y_aload_n (pc := 96) (j := 0) dX10_executeOutside_96 rfl rfl ?_
    refine Z_getr (pc := 97) dX10_executeOutside_97 w3_5 (lk_38 hP) fr_10_0 (lr_38_0 hP) ?_
    obtain ⟨y1, qy1, h⟩ := bindE h
    have cy1 := v_X3_siteAhead (Or.inl rfl) hP qy1
    refine C_V0r (pc := 100) (k' := k_X3_siteAhead) dX10_executeOutside_100 w6_128 i_X3_siteAhead (lk_18 hP) ⟨Nat.le_of_ble_eq_true rfl, Nat.le_of_ble_eq_true rfl⟩ rfl (Nat.le_of_ble_eq_true rfl) (Nat.le_of_ble_eq_true rfl) (Nat.le_of_ble_eq_true rfl) (cy1) ?_
    have hPy1 := cy1.1.1
    obtain ⟨y2, qy2, h⟩ := bindE h
    have cy2 := v_X10_arrive hPy1 qy2
    refine C_V1o (pc := 103) (k' := k_X10_arrive) dX10_executeOutside_103 w6_200 i_X10_arrive (lk_38 hPy1) ⟨Nat.le_of_ble_eq_true rfl, Nat.le_of_ble_eq_true rfl⟩ rfl (Nat.le_of_ble_eq_true rfl) (Nat.le_of_ble_eq_true rfl) (Nat.le_of_ble_eq_true rfl) (cy2) ?_
    have hPy2 := cy2.1.1
    cases h
    exact Y_vret (pc := 106) rfl dX10_executeOutside_106 hPy2 ⟨rfl, rfl⟩
theorem b_X10_executeOutside_61 {x1 : Int32} {M z} (hP : Lay M) (h : d_X10_executeOutside_61 x1 M = some z) : VV Lay k_X10_executeOutside 61 [(0, .ref 38), (1, .int x1)] [] M z.2 (Qv (none) z.2) xF := by
  unfold d_X10_executeOutside_61 at h
  refine Y_aload_n (pc := 61) (j := 0) dX10_executeOutside_61 rfl rfl ?_
  refine Z_getr (pc := 62) dX10_executeOutside_62 w3_5 (lk_38 hP) fr_10_0 (lr_38_0 hP) ?_
  obtain ⟨y1, qy1, h⟩ := bindE h
  have cy1 := v_X3_execute (Or.inl rfl) hP qy1
  refine C_V0r (pc := 65) (k' := k_X3_execute) dX10_executeOutside_65 w6_93 i_X3_execute (lk_18 hP) ⟨Nat.le_of_ble_eq_true rfl, Nat.le_of_ble_eq_true rfl⟩ rfl (Nat.le_of_ble_eq_true rfl) (Nat.le_of_ble_eq_true rfl) (Nat.le_of_ble_eq_true rfl) (cy1) ?_
  have hPy1 := cy1.1.1
  refine Y_istore_n (pc := 68) (lv1 := [(2, .int y1.1), (0, .ref 38), (1, .int x1)]) dX10_executeOutside_68 rfl (by decide) rfl ?_
  refine Y_aload_n (pc := 69) (j := 1) dX10_executeOutside_69 rfl rfl ?_
  refine Z_getr (pc := 70) dX10_executeOutside_70 w3_10 (lk_38 hPy1) fr_10_3 (lr_38_3 hPy1) ?_
  refine Z_geti (pc := 73) dX10_executeOutside_73 w2_67 (lk_48 hPy1) fi_6_10 ?_
  refine Y_if_eq (pc := 76) (tgt := 91) dX10_executeOutside_76 (by decide) (fun hc1 => ?_) (fun hc1 => ?_)
  · replace h := ifT hc1 h
    refine VV.sub [1, 0] rfl ?_
    exact b_X10_executeOutside_91  hPy1 h
  · replace h := ifF hc1 h
    refine Y_aload_n (pc := 79) (j := 1) dX10_executeOutside_79 rfl rfl ?_
    refine Z_getr (pc := 80) dX10_executeOutside_80 w3_10 (lk_38 hPy1) fr_10_3 (lr_38_3 hPy1) ?_
    refine Y_aload_n (pc := 83) (j := 1) dX10_executeOutside_83 rfl rfl ?_
    refine Z_getr (pc := 84) dX10_executeOutside_84 w3_5 (lk_38 hPy1) fr_10_0 (lr_38_0 hPy1) ?_
    refine Y_iload_n (pc := 87) (j := 2) dX10_executeOutside_87 rfl rfl ?_
    obtain ⟨y2, qy2, h⟩ := bindE h
    have cy2 := v_X6_noteBehind hPy1 qy2
    refine C_V2o (pc := 88) (k' := k_X6_noteBehind) dX10_executeOutside_88 w6_189 i_X6_noteBehind (lk_48 hPy1) ⟨Nat.le_of_ble_eq_true rfl, Nat.le_of_ble_eq_true rfl⟩ rfl (Nat.le_of_ble_eq_true rfl) (Nat.le_of_ble_eq_true rfl) (Nat.le_of_ble_eq_true rfl) (cy2) ?_
    have hPy2 := cy2.1.1
    refine VV.sub [1, 0] rfl ?_
    exact b_X10_executeOutside_91  hPy2 h
theorem b_X10_executeOutside_35 {x1 : Int32} {M z} (hP : Lay M) (h : d_X10_executeOutside_35 x1 M = some z) : VV Lay k_X10_executeOutside 35 [(0, .ref 38), (1, .int x1)] [] M z.2 (Qv (none) z.2) xF := by
  unfold d_X10_executeOutside_35 at h
  refine Y_aload_n (pc := 35) (j := 0) dX10_executeOutside_35 rfl rfl ?_
  refine Y_iload_n (pc := 36) (j := 1) dX10_executeOutside_36 rfl rfl ?_
  obtain ⟨y1, qy1, h⟩ := bindE h
  have cy1 := v_X10_meetCache hP qy1
  refine C_V1o (pc := 37) (k' := k_X10_meetCache) dX10_executeOutside_37 w6_124 i_X10_meetCache (lk_38 hP) ⟨Nat.le_of_ble_eq_true rfl, Nat.le_of_ble_eq_true rfl⟩ rfl (Nat.le_of_ble_eq_true rfl) (Nat.le_of_ble_eq_true rfl) (Nat.le_of_ble_eq_true rfl) (cy1) ?_
  have hPy1 := cy1.1.1
  refine Y_aload_n (pc := 40) (j := 0) dX10_executeOutside_40 rfl rfl ?_
  refine Z_getr (pc := 41) dX10_executeOutside_41 w3_10 (lk_38 hPy1) fr_10_3 (lr_38_3 hPy1) ?_
  refine Z_geti (pc := 44) dX10_executeOutside_44 w2_67 (lk_48 hPy1) fi_6_10 ?_
  refine Y_if_eq (pc := 47) (tgt := 61) dX10_executeOutside_47 (by decide) (fun hc1 => ?_) (fun hc1 => ?_)
  · replace h := ifT hc1 h
    refine VV.sub [0, 1] rfl ?_
    exact b_X10_executeOutside_61  hPy1 h
  · replace h := ifF hc1 h
    refine Y_aload_n (pc := 50) (j := 0) dX10_executeOutside_50 rfl rfl ?_
    refine Z_getr (pc := 51) dX10_executeOutside_51 w3_10 (lk_38 hPy1) fr_10_3 (lr_38_3 hPy1) ?_
    refine Y_aload_n (pc := 54) (j := 0) dX10_executeOutside_54 rfl rfl ?_
    refine Z_getr (pc := 55) dX10_executeOutside_55 w3_5 (lk_38 hPy1) fr_10_0 (lr_38_0 hPy1) ?_
    obtain ⟨y2, qy2, h⟩ := bindE h
    have cy2 := v_X6_noteAhead hPy1 qy2
    refine C_V1o (pc := 58) (k' := k_X6_noteAhead) dX10_executeOutside_58 w6_139 i_X6_noteAhead (lk_48 hPy1) ⟨Nat.le_of_ble_eq_true rfl, Nat.le_of_ble_eq_true rfl⟩ rfl (Nat.le_of_ble_eq_true rfl) (Nat.le_of_ble_eq_true rfl) (Nat.le_of_ble_eq_true rfl) (cy2) ?_
    have hPy2 := cy2.1.1
    refine VV.sub [0, 1] rfl ?_
    exact b_X10_executeOutside_61  hPy2 h
theorem b_X10_executeOutside {M z} (hP : Lay M) (h : d_X10_executeOutside M = some z) : VV Lay k_X10_executeOutside 0 [(0, .ref 38)] [] M z.2 (Qv (none) z.2) xF := by
  unfold d_X10_executeOutside at h
  refine Y_aload_n (pc := 0) (j := 0) dX10_executeOutside_0 rfl rfl ?_
  refine Z_getr (pc := 1) dX10_executeOutside_1 w3_5 (lk_38 hP) fr_10_0 (lr_38_0 hP) ?_
  refine Z_geti (pc := 4) dX10_executeOutside_4 w1_180 (lk_18 hP) fi_4_7 ?_
  obtain ⟨b1, eb1, h⟩ := bndE h
  refine VV.topI eb1 ?_
  refine Y_istore_n (pc := 7) (lv1 := [(1, .int b1), (0, .ref 38)]) dX10_executeOutside_7 rfl (by decide) rfl ?_
  refine Y_iload_n (pc := 8) (j := 0) dX10_executeOutside_8 rfl rfl ?_
  refine Y_bipush (pc := 9) (v := (114 : Int32)) dX10_executeOutside_9 rfl ?_
  refine Y_icmp_ne (pc := 11) (tgt := 35) dX10_executeOutside_11 (by decide) (fun hc1 => ?_) (fun hc1 => ?_)
  · replace h := ifF hc1 h
    refine VV.sub [1, 0] rfl ?_
    exact b_X10_executeOutside_35  hP h
  · replace h := ifT hc1 h
    refine Y_aload_n (pc := 14) (j := 1) dX10_executeOutside_14 rfl rfl ?_
    refine Z_getr (pc := 15) dX10_executeOutside_15 w3_5 (lk_38 hP) fr_10_0 (lr_38_0 hP) ?_
    refine Z_geti (pc := 18) dX10_executeOutside_18 w1_186 (lk_18 hP) fi_4_9 ?_
    refine Y_aload_n (pc := 21) (j := 1) dX10_executeOutside_21 rfl rfl ?_
    refine Z_getr (pc := 22) dX10_executeOutside_22 w3_10 (lk_38 hP) fr_10_3 (lr_38_3 hP) ?_
    refine Z_geti (pc := 25) dX10_executeOutside_25 w2_72 (lk_48 hP) fi_6_12 ?_
    refine Y_icmp_ne (pc := 28) (tgt := 35) dX10_executeOutside_28 (by decide) (fun hc2 => ?_) (fun hc2 => ?_)
    · replace h := ifF hc2 h
      refine VV.sub [1, 0] rfl ?_
      exact b_X10_executeOutside_35  hP h
    · replace h := ifT hc2 h
      refine Y_aload_n (pc := 31) (j := 1) dX10_executeOutside_31 rfl rfl ?_
      obtain ⟨y1, qy1, h⟩ := bindE h
      have cy1 := v_X10_breakOff hP qy1
      refine C_V0o (pc := 32) (k' := k_X10_breakOff) dX10_executeOutside_32 w6_107 i_X10_breakOff (lk_38 hP) ⟨Nat.le_of_ble_eq_true rfl, Nat.le_of_ble_eq_true rfl⟩ rfl (Nat.le_of_ble_eq_true rfl) (Nat.le_of_ble_eq_true rfl) (Nat.le_of_ble_eq_true rfl) (cy1) ?_
      have hPy1 := cy1.1.1
      refine VV.sub [1, 0] rfl ?_
      exact b_X10_executeOutside_35  hPy1 h
theorem v_X10_executeOutside {M z} (hP : Lay M) (h : d_X10_executeOutside M = some z) : CC Lay k_X10_executeOutside [.ref 38] M z.2 (Qv (none) z.2) xF :=
  CC.ofVV (by decide) rfl (Nat.le_of_ble_eq_true rfl) (b_X10_executeOutside hP h)
set_option maxRecDepth 20000 in
theorem b_X11_init {M0 : Mem} {r0 : Nat} {M z} (hP : (Kx r0 M0) M) (h : d_X11_init r0 M = some z) : VV (Kx r0 M0) k_X11_init 0 [(0, .ref r0)] [] M z.2 (Qv (none) z.2) xF := by
  unfold d_X11_init at h
  refine Y_aload_n (pc := 0) (j := 0) dX11_init_0 rfl rfl ?_
  refine Y_oinit (pc := 1) dX11_init_1 w1_40 (Nat.le_of_ble_eq_true rfl) (Nat.le_of_ble_eq_true rfl) (Nat.le_of_ble_eq_true rfl) ?_
  refine Y_aload_n (pc := 4) (j := 0) dX11_init_4 rfl rfl ?_
  obtain ⟨r_1, er_1, h⟩ := bndE h
  obtain ⟨hb1, h⟩ := okE h
  refine Y_new (pc := 5) (a := r_1) (t := 5) dX11_init_5 (by decide) (by decide) w1_43 w1_44 w1_2 (hP.free er_1) hb1 ?_
  obtain ⟨M1, eM1, h⟩ := bndE h
  refine VV.mem eM1 ?_
  have hP1 := hP.wN er_1 (by decide) eM1
  refine Y_dup (pc := 8) dX11_init_8 rfl ?_
  obtain ⟨hb2, h⟩ := okE h
  obtain ⟨hb3, h⟩ := okE h
  obtain ⟨y1, qy1, h⟩ := bindE h
  have cy1 := v_X5_init hP1.fsh hb2 qy1
  refine C_I0o (pc := 9) (k' := k_X5_init) dX11_init_9 w1_45 i_X5_init (Nat.le_of_ble_eq_true rfl) (Nat.le_of_ble_eq_true rfl) (Nat.le_of_ble_eq_true rfl) (cy1) ?_
  have hPy1 := hP1.ini cy1.1.1 hb3
  obtain ⟨hb4, h⟩ := okE h
  refine Z_putr (pc := 12) dX11_init_12 w3_52 hb4 fr_11_0 (Or.inr ⟨rfl, rfl⟩) (Or.inl ⟨_, rfl⟩) ?_
  obtain ⟨M2, eM2, h⟩ := bndE h
  refine VV.mem eM2 ?_
  have hP2 := hPy1.wR0 (by omega) eM2
  refine Y_aload_n (pc := 15) (j := 0) dX11_init_15 rfl rfl ?_
  obtain ⟨r_2, er_2, h⟩ := bndE h
  obtain ⟨hb5, h⟩ := okE h
  refine Y_new (pc := 16) (a := r_2) (t := 7) dX11_init_16 (by decide) (by decide) w1_102 w1_103 w1_4 (hP2.free er_2) hb5 ?_
  obtain ⟨M3, eM3, h⟩ := bndE h
  refine VV.mem eM3 ?_
  have hP3 := hP2.wN er_2 (by decide) eM3
  refine Y_dup (pc := 19) dX11_init_19 rfl ?_
  obtain ⟨hb6, h⟩ := okE h
  obtain ⟨hb7, h⟩ := okE h
  obtain ⟨y2, qy2, h⟩ := bindE h
  have cy2 := v_X7_init hP3.fsh hb6 qy2
  refine C_I0o (pc := 20) (k' := k_X7_init) dX11_init_20 w1_104 i_X7_init (Nat.le_of_ble_eq_true rfl) (Nat.le_of_ble_eq_true rfl) (Nat.le_of_ble_eq_true rfl) (cy2) ?_
  have hPy2 := hP3.ini cy2.1.1 hb7
  obtain ⟨hb8, h⟩ := okE h
  refine Z_putr (pc := 23) dX11_init_23 w3_53 hb8 fr_11_1 (Or.inr ⟨rfl, rfl⟩) (Or.inl ⟨_, rfl⟩) ?_
  obtain ⟨M4, eM4, h⟩ := bndE h
  refine VV.mem eM4 ?_
  have hP4 := hPy2.wR0 (by omega) eM4
  refine Y_aload_n (pc := 26) (j := 0) dX11_init_26 rfl rfl ?_
  obtain ⟨r_3, er_3, h⟩ := bndE h
  obtain ⟨hb9, h⟩ := okE h
  refine Y_new (pc := 27) (a := r_3) (t := 4) dX11_init_27 (by decide) (by decide) w1_137 w1_138 w1_5 (hP4.free er_3) hb9 ?_
  obtain ⟨M5, eM5, h⟩ := bndE h
  refine VV.mem eM5 ?_
  have hP5 := hP4.wN er_3 (by decide) eM5
  refine Y_dup (pc := 30) dX11_init_30 rfl ?_
  refine Y_aload_n (pc := 31) (j := 0) dX11_init_31 rfl rfl ?_
  obtain ⟨hb10, h⟩ := okE h
  obtain ⟨r_4, er_4, h⟩ := bindE h
  refine Z_getr (pc := 32) dX11_init_32 w3_52 hb10 fr_11_0 er_4 ?_
  refine Y_aload_n (pc := 35) (j := 0) dX11_init_35 rfl rfl ?_
  obtain ⟨hb11, h⟩ := okE h
  obtain ⟨r_5, er_5, h⟩ := bindE h
  refine Z_getr (pc := 36) dX11_init_36 w3_53 hb11 fr_11_1 er_5 ?_
  obtain ⟨hb12, h⟩ := okE h
  obtain ⟨hb13, h⟩ := okE h
  obtain ⟨y3, qy3, h⟩ := bindE h
  have cy3 := v_X3_init hP5.fsh hb12 qy3
  refine C_I2o (pc := 39) (k' := k_X3_init) dX11_init_39 w1_139 i_X3_init (Nat.le_of_ble_eq_true rfl) (Nat.le_of_ble_eq_true rfl) (Nat.le_of_ble_eq_true rfl) (cy3) ?_
  have hPy3 := hP5.ini cy3.1.1 hb13
  obtain ⟨hb14, h⟩ := okE h
  refine Z_putr (pc := 42) dX11_init_42 w3_54 hb14 fr_11_2 (Or.inr ⟨rfl, rfl⟩) (Or.inl ⟨_, rfl⟩) ?_
  obtain ⟨M6, eM6, h⟩ := bndE h
  refine VV.mem eM6 ?_
  have hP6 := hPy3.wR0 (by omega) eM6
  refine Y_aload_n (pc := 45) (j := 0) dX11_init_45 rfl rfl ?_
  obtain ⟨r_6, er_6, h⟩ := bndE h
  obtain ⟨hb15, h⟩ := okE h
  refine Y_new (pc := 46) (a := r_6) (t := 4) dX11_init_46 (by decide) (by decide) w1_137 w1_138 w1_5 (hP6.free er_6) hb15 ?_
  obtain ⟨M7, eM7, h⟩ := bndE h
  refine VV.mem eM7 ?_
  have hP7 := hP6.wN er_6 (by decide) eM7
  refine Y_dup (pc := 49) dX11_init_49 rfl ?_
  refine Y_aload_n (pc := 50) (j := 0) dX11_init_50 rfl rfl ?_
  obtain ⟨hb16, h⟩ := okE h
  obtain ⟨r_7, er_7, h⟩ := bindE h
  refine Z_getr (pc := 51) dX11_init_51 w3_52 hb16 fr_11_0 er_7 ?_
  refine Y_aload_n (pc := 54) (j := 0) dX11_init_54 rfl rfl ?_
  obtain ⟨hb17, h⟩ := okE h
  obtain ⟨r_8, er_8, h⟩ := bindE h
  refine Z_getr (pc := 55) dX11_init_55 w3_53 hb17 fr_11_1 er_8 ?_
  obtain ⟨hb18, h⟩ := okE h
  obtain ⟨hb19, h⟩ := okE h
  obtain ⟨y4, qy4, h⟩ := bindE h
  have cy4 := v_X3_init hP7.fsh hb18 qy4
  refine C_I2o (pc := 58) (k' := k_X3_init) dX11_init_58 w1_139 i_X3_init (Nat.le_of_ble_eq_true rfl) (Nat.le_of_ble_eq_true rfl) (Nat.le_of_ble_eq_true rfl) (cy4) ?_
  have hPy4 := hP7.ini cy4.1.1 hb19
  obtain ⟨hb20, h⟩ := okE h
  refine Z_putr (pc := 61) dX11_init_61 w3_55 hb20 fr_11_3 (Or.inr ⟨rfl, rfl⟩) (Or.inl ⟨_, rfl⟩) ?_
  obtain ⟨M8, eM8, h⟩ := bndE h
  refine VV.mem eM8 ?_
  have hP8 := hPy4.wR0 (by omega) eM8
  refine Y_aload_n (pc := 64) (j := 0) dX11_init_64 rfl rfl ?_
  obtain ⟨r_9, er_9, h⟩ := bndE h
  obtain ⟨hb21, h⟩ := okE h
  refine Y_new (pc := 65) (a := r_9) (t := 10) dX11_init_65 (by decide) (by decide) w1_232 w1_233 w1_7 (hP8.free er_9) hb21 ?_
  obtain ⟨M9, eM9, h⟩ := bndE h
  refine VV.mem eM9 ?_
  have hP9 := hP8.wN er_9 (by decide) eM9
  refine Y_dup (pc := 68) dX11_init_68 rfl ?_
  refine Y_aload_n (pc := 69) (j := 0) dX11_init_69 rfl rfl ?_
  obtain ⟨hb22, h⟩ := okE h
  obtain ⟨r_10, er_10, h⟩ := bindE h
  refine Z_getr (pc := 70) dX11_init_70 w3_52 hb22 fr_11_0 er_10 ?_
  refine Y_aload_n (pc := 73) (j := 0) dX11_init_73 rfl rfl ?_
  obtain ⟨hb23, h⟩ := okE h
  obtain ⟨r_11, er_11, h⟩ := bindE h
  refine Z_getr (pc := 74) dX11_init_74 w3_54 hb23 fr_11_2 er_11 ?_
  obtain ⟨hb24, h⟩ := okE h
  obtain ⟨hb25, h⟩ := okE h
  obtain ⟨y5, qy5, h⟩ := bindE h
  have cy5 := v_X10_init hP9.fsh hb24 qy5
  refine C_I2o (pc := 77) (k' := k_X10_init) dX11_init_77 w1_234 i_X10_init (Nat.le_of_ble_eq_true rfl) (Nat.le_of_ble_eq_true rfl) (Nat.le_of_ble_eq_true rfl) (cy5) ?_
  have hPy5 := hP9.ini cy5.1.1 hb25
  obtain ⟨hb26, h⟩ := okE h
  refine Z_putr (pc := 80) dX11_init_80 w3_56 hb26 fr_11_4 (Or.inr ⟨rfl, rfl⟩) (Or.inl ⟨_, rfl⟩) ?_
  obtain ⟨M10, eM10, h⟩ := bndE h
  refine VV.mem eM10 ?_
  have hP10 := hPy5.wR0 (by omega) eM10
  refine Y_aload_n (pc := 83) (j := 0) dX11_init_83 rfl rfl ?_
  refine Y_iconst (pc := 84) (v := (1 : Int32)) dX11_init_84 rfl ?_
  obtain ⟨hb27, h⟩ := okE h
  refine Z_putz (pc := 85) dX11_init_85 w3_57 hb27 fi_11_5 (Or.inl rfl) rfl (by decide) ?_
  obtain ⟨M11, eM11, h⟩ := bndE h
  refine VV.mem eM11 ?_
  have hP11 := hP10.wI eM11
  cases h
  exact Y_vret (pc := 88) rfl dX11_init_88 hP11 ⟨rfl, rfl⟩
theorem v_X11_init {r0 : Nat} {M z} (hP : Fsh M) (hr : r0 ≤ nx M) (h : d_X11_init r0 M = some z) : CC (Kx r0 M) k_X11_init [.ref r0] M z.2 (Qv (none) z.2) xF :=
  CC.ofVV (by decide) rfl (Nat.le_of_ble_eq_true rfl) (b_X11_init (Kx.refl hP hr) h)
theorem b_X11_addFunction_9 {M z} (hP : Lay M) (h : d_X11_addFunction_9 M = some z) : VV Lay k_X11_addFunction 9 [] [] M z.2 (QS (fun v => some (.int v)) z) (XS z) := by
  unfold d_X11_addFunction_9 at h
  cases h
  exact Y_throw_IllegalArgumentException (pc := 9) w3_128 w3_174 (mi := 0) rfl dX11_addFunction_9 dX11_addFunction_12 dX11_addFunction_13 dX11_addFunction_15 dX11_addFunction_18 rfl (Nat.le_of_ble_eq_true rfl) (Nat.le_of_ble_eq_true rfl) (Nat.le_of_ble_eq_true rfl) (hP.wT rfl) ⟨rfl, rfl⟩
theorem b_X11_addFunction {x1 : Int32} {M z} (hP : Lay M) (h : d_X11_addFunction x1 M = some z) : VV Lay k_X11_addFunction 0 [(0, .ref 1), (1, .int x1)] [] M z.2 (QS (fun v => some (.int v)) z) (XS z) := by
  unfold d_X11_addFunction at h
  refine Y_iload_n (pc := 0) (j := 1) dX11_addFunction_0 rfl rfl ?_
  refine Y_if_lt (pc := 1) (tgt := 9) dX11_addFunction_1 (by decide) (fun hc1 => ?_) (fun hc1 => ?_)
  · replace h := ifT hc1 h
    refine VV.sub [] rfl ?_
    exact b_X11_addFunction_9  hP h
  · replace h := ifF hc1 h
    refine Y_iload_n (pc := 4) (j := 1) dX11_addFunction_4 rfl rfl ?_
    refine Y_iconst (pc := 5) (v := (3 : Int32)) dX11_addFunction_5 rfl ?_
    refine Y_icmp_le (pc := 6) (tgt := 19) dX11_addFunction_6 (by decide) (fun hc2 => ?_) (fun hc2 => ?_)
    · replace h := ifT hc2 h
      refine Y_aload_n (pc := 19) (j := 0) dX11_addFunction_19 rfl rfl ?_
      refine Z_getr (pc := 20) dX11_addFunction_20 w3_52 (lk_1 hP) fr_11_0 (lr_1_0 hP) ?_
      refine Z_geti (pc := 23) dX11_addFunction_23 w1_76 (lk_2 hP) fi_5_8 ?_
      refine Y_bipush (pc := 26) (v := (8 : Int32)) dX11_addFunction_26 rfl ?_
      refine Y_icmp_lt (pc := 28) (tgt := 41) dX11_addFunction_28 (by decide) (fun hc3 => ?_) (fun hc3 => ?_)
      · replace h := ifT hc3 h
        refine Y_aload_n (pc := 41) (j := 0) dX11_addFunction_41 rfl rfl ?_
        refine Z_getr (pc := 42) dX11_addFunction_42 w3_52 (lk_1 hP) fr_11_0 (lr_1_0 hP) ?_
        refine Y_iload_n (pc := 45) (j := 1) dX11_addFunction_45 rfl rfl ?_
        obtain ⟨y1, qy1, h⟩ := bindE h
        have cy1 := v_X5_addFunctionWith hP qy1
        refine C_V1r (pc := 46) (k' := k_X5_addFunctionWith) dX11_addFunction_46 w3_216 i_X5_addFunctionWith (lk_2 hP) ⟨Nat.le_of_ble_eq_true rfl, Nat.le_of_ble_eq_true rfl⟩ rfl (Nat.le_of_ble_eq_true rfl) (Nat.le_of_ble_eq_true rfl) (Nat.le_of_ble_eq_true rfl) (cy1) ?_
        have hPy1 := cy1.1.1
        cases h
        exact Y_iret (pc := 49) rfl rfl dX11_addFunction_49 hPy1 ⟨_, rfl, rfl, rfl⟩
      · replace h := ifF hc3 h
        cases h
        exact Y_throw_IllegalStateException (pc := 31) w3_200 w3_210 (mi := 1) rfl dX11_addFunction_31 dX11_addFunction_34 dX11_addFunction_35 dX11_addFunction_37 dX11_addFunction_40 rfl (Nat.le_of_ble_eq_true rfl) (Nat.le_of_ble_eq_true rfl) (Nat.le_of_ble_eq_true rfl) (hP.wT rfl) ⟨rfl, rfl⟩
    · replace h := ifF hc2 h
      refine VV.sub [] rfl ?_
      exact b_X11_addFunction_9  hP h
theorem v_X11_addFunction {x1 : Int32} {M z} (hP : Lay M) (h : d_X11_addFunction x1 M = some z) : CC Lay k_X11_addFunction [.ref 1, .int x1] M z.2 (QS (fun v => some (.int v)) z) (XS z) :=
  CC.ofVV (by decide) rfl (Nat.le_of_ble_eq_true rfl) (b_X11_addFunction hP h)
end VCR

