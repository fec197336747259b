/-! ===== members of the JDK: indexOf, rint ===== -/
section VXD
variable {k k' : MI} {pc : Nat} {lv lv1 : List (Nat × Value)} {st avs : List Value} {nc ns n : Nat} {M z : Mem} {Q Q1 : xQ} {X : xX} {P : Mem → Prop}
theorem V_sc {index : Nat} (hd : decode (kCC k) pc = .ok (.invokestatic index, 3)) (hl : Cond.methodLink (kOwn k) index (kY k') ∈ xTs) (hb : kIS k' n) (hn : avs.length = n) (hcat : (st.map fun v => v.category).sum ≤ 8) (hdep : kDep k' + 1 ≤ kDep k) (hloc : 8 + (kNL k' + 11) + kLoc k' ≤ kLoc k) (hc : CTk k' 0 0 avs M Q1 xF)
    (kk : ∀ r M', Q1 r M' → V k (pc + 3) lv (r.toList ++ st) nc ns M' Q X) : V k pc lv (avs.reverse ++ st) nc ns M Q X :=
  V_callS (nc1 := 0) (ns1 := 0) hd hl hb.1 hb.2.1 hb.2.2.1 hb.2.2.2 hn hcat hdep hloc (Nat.zero_le _) (Nat.zero_le _) (CTk.mono (nc' := 0) (ns' := 0) (fun r M' h => kk r M' h) (fun _ _ h => False.elim h) hc)
theorem V_sv {index : Nat} {v : Value} (hd : decode (kCC k) pc = .ok (.invokestatic index, 3)) (hl : Cond.methodLink (kOwn k) index (kY k') ∈ xTs) (hb : kIS k' n) (hn : avs.length = n) (hcat : (st.map fun v => v.category).sum ≤ 8) (hdep : kDep k' + 1 ≤ kDep k) (hloc : 8 + (kNL k' + 11) + kLoc k' ≤ kLoc k) (hc : CTk k' 0 0 avs M (Qv (some v) M) xF)
    (kk : V k (pc + 3) lv (v :: st) nc ns M Q X) : V k pc lv (avs.reverse ++ st) nc ns M Q X := by
  refine V_sc hd hl hb hn hcat hdep hloc hc ?_
  rintro r M' ⟨rfl, rfl⟩
  exact kk
set_option maxHeartbeats 1000000 in
/-- a virtual call on the i-th string constant -/
theorem V_callVs {i index : Nat} {q : String × Nat × String × List Int32} (hs9 : xSTab[i]? = some q) (hd : decode (kCC k) pc = .ok (.invokevirtual index, 3)) (hl : Cond.methodLink (kOwn k) index (kY k') ∈ xTs) (hb9 : kIV k' n) (hS9 : (kY k').cls = "java/lang/String") (hn : avs.length = n)
    (hcat : (st.map fun v => v.category).sum ≤ 8) (hdep : kDep k' + 1 ≤ kDep k) (hloc : 8 + (kNL k' + 11) + kLoc k' ≤ kLoc k) (hc : CTk k' 0 0 (.retAddr i :: avs) M Q1 xF)
    (k9 : ∀ r M', Q1 r M' → V k (pc + 3) lv (r.toList ++ st) nc ns M' Q X) : V k pc lv (avs.reverse ++ .retAddr i :: st) nc ns M Q X := by
  have kk : CTk k' 0 0 (.retAddr i :: avs) M (fun r M' => V k (pc + 3) lv (r.toList ++ st) (nc - 0) (ns - 0) M' Q X) (fun E M' => VT k pc lv E (nc - 0) (ns - 0) M' Q X) := CTk.mono (nc' := 0) (ns' := 0) (fun r M' h => k9 r M' h) (fun _ _ h => False.elim h) hc
  obtain ⟨hi, hs, hhd, hh, hini, hok⟩ := hb9
  intro p l e R s m args below meth c base D Z M0 ad0 mc ms ad H locs cells slots d ls rst hF hN hst T hT Xs
  have hF' := hF
  have hN' := hN
  obtain ⟨hx, hb, hml, hlk, hret, hnm, htb, hown, hts, hfl, hKn, hEv, hbase, hRf, hRl, hRc, hRs, hE⟩ := hF
  obtain ⟨a1, a2, a3, a4, a5, a6, lvr, a7, a8⟩ := hN
  obtain ⟨y1, y2, rfl, e1, e2⟩ := xRvs_app hst
  obtain ⟨y3, y4, rfl, e3, e4⟩ := xRvs_cons e2
  cases (show y3 = .ref (ad (2147483648 + i)) from e3)
  have hrev : xRvs ad M avs y1.reverse := by have := xRvs_rev e1; rwa [List.reverse_reverse] at this
  have hts' : ∀ w ∈ xTs, w.before args (s.setDrawn d) = true := dr_words hts d
  have hbk := xd_backK (p := p) (e := e) (below := below) (R := R) (D := D) (base := base) (ravs := .ref (ad (2147483648 + i)) :: y1.reverse) kk hfl ⟨rfl, hrev⟩ hts' hhd hini (by omega) (by omega)
  obtain ⟨cell, g1, g3, g2, g4⟩ := (hEv.2.2.2.2.1 i _ hs9).2.1
  have g1' : H[ad (2147483648 + i)]? = some cell := by
    rw [a6.2 i, a2.2.1 _ (Array.getElem?_eq_some_iff.mp g1).1 g4]
    exact g1
  have hcls : (s.setDrawn d).vm.findClass (kY k').cls = some cell.cls := by rw [hS9]; exact g2
  have hcode : (Cond.code (kY k') (kCC k') (kNL k') (kRet k')).before args (s.setDrawn d) = true := by rw [← kHd_of (hh := hh)]; exact hts' _ hhd
  have hcd := xRvs_cat e4
  exact xcall_fin (nc1 := 0) (ns1 := 0) (rest := y4) (aa := (.ref (ad (2147483648 + i)) :: y1.reverse : List Value).toArray) hF' hN' e4 (Nat.zero_le _) (Nat.zero_le _) hT
    (xd_callV Xs hx (C := (kY k').cls) (own := kOwn k) (index := index) hown (hts' _ hl) (hts' _ hi) (hts' _ hs) hcode ⟨hok.1, hok.2.1⟩ hbk (b := ad (2147483648 + i)) (cellB := cell) (by rw [hT]; exact g1') g3 hcls (g := F0 m pc ls (y1 ++ .ref (ad (2147483648 + i)) :: y4)) rfl (a7.1.trans hml.symm) (argsL := y1.reverse) (rest := y4)
      (fun sig hsig => by rw [xRvs_len hrev, hn]; exact kOK_len hok sig hsig) (by rw [List.reverse_reverse]) (lv_room (by rw [hcd]; exact hcat)) (by rw [hb]; exact hd)
      (fun vm₁ hW => ⟨by show cells + 0 ≤ _; omega, by show slots + 0 ≤ _; omega, rfl, by show base ≤ T.heap.size; rw [hT]; exact Nat.le_trans hbase a2.1, by show xRep D ad base M T.heap; rw [hT]; exact a1, xKn_move (u := s) (U := T.setVm vm₁) (show s.vm.Alike vm₁ from (show s.WarmedH vm₁ from hW).alike) hKn, by
        show xEv base ad (T.setVm vm₁) T.heap
        rw [hT]
        exact xEv_ad a6.2 (xEv_move (s := s) (U := T.setVm vm₁) (show s.WarmedH vm₁ from hW) (fun q g1 g2 => a2.2.1 q g1 g2) hEv)⟩))
theorem V_vs {i index : Nat} {v : Value} {q : String × Nat × String × List Int32} (hs9 : xSTab[i]? = some q) (hd : decode (kCC k) pc = .ok (.invokevirtual index, 3)) (hl : Cond.methodLink (kOwn k) index (kY k') ∈ xTs) (hb9 : kIV k' n) (hS9 : (kY k').cls = "java/lang/String") (hn : avs.length = n)
    (hcat : (st.map fun v => v.category).sum ≤ 8) (hdep : kDep k' + 1 ≤ kDep k) (hloc : 8 + (kNL k' + 11) + kLoc k' ≤ kLoc k) (hc : CTk k' 0 0 (.retAddr i :: avs) M (Qv (some v) M) xF)
    (k9 : V k (pc + 3) lv (v :: st) nc ns M Q X) : V k pc lv (avs.reverse ++ .retAddr i :: st) nc ns M Q X := by
  refine V_callVs hs9 hd hl hb9 hS9 hn hcat hdep hloc hc ?_
  rintro r M' ⟨rfl, rfl⟩
  exact k9

/-! indexOf -/
def k_sco : MI := ("java/lang/String", yJ0_coder_7d493, cJ0_coder_7d493, 1, some .byte, 0, 10, [])
theorem i_sco : kIV k_sco 0 := ⟨w4_52, w4_53, hd_of rfl w4_54, rfl, w1_23, ⟨by decide, by decide, by decide +kernel⟩⟩
def k_sla : MI := ("java/lang/String", yJ0_isLatin1_aae02, cJ0_isLatin1_aae02, 1, some .boolean, 0, 10, [])
theorem i_sla : kIV k_sla 0 := ⟨w4_42, w4_43, hd_of rfl w4_44, rfl, w1_23, ⟨by decide, by decide, by decide +kernel⟩⟩
def k_sln : MI := ("java/lang/String", yJ0_length_8abf5, cJ0_length_8abf5, 1, some .int, 1, 40, [])
theorem i_sln : kIV k_sln 0 := ⟨w4_48, w4_49, hd_of rfl w4_50, rfl, w1_23, ⟨by decide, by decide, by decide +kernel⟩⟩
def k_six : MI := ("java/lang/String", yJ0_indexOf_0f7a4, cJ0_indexOf_0f7a4, 2, some .int, 4, 120, [])
theorem i_six : kIV k_six 1 := ⟨w4_34, w4_35, hd_of rfl w4_36, rfl, w1_23, ⟨by decide, by decide, by decide +kernel⟩⟩
def k_si2 : MI := ("java/lang/String", yJ0_indexOf_7cf53, cJ0_indexOf_7cf53, 3, some .int, 3, 80, [])
theorem i_si2 : kIV k_si2 2 := ⟨w4_38, w4_39, hd_of rfl w4_40, rfl, w1_23, ⟨by decide, by decide, by decide +kernel⟩⟩
def k_lca : MI := ("java/lang/StringLatin1", yJ1_canEncode_9a6ad, cJ1_canEncode_9a6ad, 1, some .boolean, 0, 10, [])
theorem i_lca : kIS k_lca 1 := ⟨w4_59, hd_of rfl w4_60, w1_24, ⟨by decide, by decide, by decide +kernel⟩⟩
def k_lix : MI := ("java/lang/StringLatin1", yJ1_indexOf_4cfef, cJ1_indexOf_4cfef, 4, some .int, 2, 40, [])
theorem i_lix : kIS k_lix 4 := ⟨w4_56, hd_of rfl w4_57, w1_24, ⟨by decide, by decide, by decide +kernel⟩⟩
def k_lic : MI := ("java/lang/StringLatin1", yJ1_indexOfChar_4cfef, cJ1_indexOfChar_4cfef, 6, some .int, 0, 10, [])
theorem i_lic : kIS k_lic 4 := ⟨w4_66, hd_of rfl w4_67, w1_24, ⟨by decide, by decide, by decide +kernel⟩⟩
def k_max : MI := ("java/lang/Math", yJ9_max_7cf53, cJ9_max_7cf53, 2, some .int, 0, 10, [])
theorem i_max : kIS k_max 2 := ⟨w4_62, hd_of rfl w4_63, w1_12, ⟨by decide, by decide, by decide +kernel⟩⟩
def k_min : MI := ("java/lang/Math", yJ9_min_7cf53, cJ9_min_7cf53, 2, some .int, 0, 10, [])
theorem i_min : kIS k_min 2 := ⟨w2_128, hd_of rfl w2_129, w1_12, ⟨by decide, by decide, by decide +kernel⟩⟩
theorem c_max {a b v : Int32} (hv : (if a < b then b else a) = v) : CTk k_max 0 0 [.int a, .int b] M (Qv (some (.int v)) M) xF := by
  refine CTk.ofVF (by decide +kernel) rfl (Nat.le_of_ble_eq_true rfl) ?_
  refine V_iload_n (k := k_max) (pc := 0) (j := 0) dJ9_max_7cf53_0 rfl rfl ?_
  refine V_iload_n (pc := 1) (j := 1) dJ9_max_7cf53_1 rfl rfl ?_
  refine V_icmp_lt (pc := 2) (tgt := 9) dJ9_max_7cf53_2 rfl (fun h => ?_) (fun h => ?_)
  · refine V_iload_n (pc := 9) (j := 1) dJ9_max_7cf53_9 rfl rfl ?_
    exact V_iret (pc := 10) rfl rfl dJ9_max_7cf53_10 ⟨by rw [if_pos h] at hv; rw [hv], rfl⟩
  · refine V_iload_n (pc := 5) (j := 0) dJ9_max_7cf53_5 rfl rfl ?_
    refine V_goto (pc := 6) (tgt := 10) dJ9_max_7cf53_6 rfl ?_
    exact V_iret (pc := 10) rfl rfl dJ9_max_7cf53_10 ⟨by rw [if_neg h] at hv; rw [hv], rfl⟩
theorem c_min {a b v : Int32} (hv : (if b < a then b else a) = v) : CTk k_min 0 0 [.int a, .int b] M (Qv (some (.int v)) M) xF := by
  refine CTk.ofVF (by decide +kernel) rfl (Nat.le_of_ble_eq_true rfl) ?_
  refine V_iload_n (k := k_min) (pc := 0) (j := 0) dJ9_min_7cf53_0 rfl rfl ?_
  refine V_iload_n (pc := 1) (j := 1) dJ9_min_7cf53_1 rfl rfl ?_
  refine V_icmp_gt (pc := 2) (tgt := 9) dJ9_min_7cf53_2 rfl (fun h => ?_) (fun h => ?_)
  · refine V_iload_n (pc := 9) (j := 1) dJ9_min_7cf53_9 rfl rfl ?_
    exact V_iret (pc := 10) rfl rfl dJ9_min_7cf53_10 ⟨by rw [if_pos h] at hv; rw [hv], rfl⟩
  · refine V_iload_n (pc := 5) (j := 0) dJ9_min_7cf53_5 rfl rfl ?_
    refine V_goto (pc := 6) (tgt := 10) dJ9_min_7cf53_6 rfl ?_
    exact V_iret (pc := 10) rfl rfl dJ9_min_7cf53_10 ⟨by rw [if_neg h] at hv; rw [hv], rfl⟩
theorem c_sco {i : Nat} {q : String × Nat × String × List Int32} (hs : xSTab[i]? = some q) : CTk k_sco 0 0 [.retAddr i] M (Qv (some (.int 0)) M) xF := by
  refine CTk.ofV (by decide) rfl (Nat.le_of_ble_eq_true rfl) ?_
  refine V_gcomp (k := k_sco) (pc := 0) dJ0_coder_7d493_0 w4_45 ?_
  refine V_if_eq (pc := 3) (tgt := 13) dJ0_coder_7d493_3 rfl (fun h => absurd h (by decide)) (fun h => ?_)
  refine V_saload (pc := 6) (i := 0) (j := 0) dJ0_coder_7d493_6 rfl rfl ?_
  refine V_gcoder (pc := 7) dJ0_coder_7d493_7 w11_102 hs ?_
  refine V_goto (pc := 10) (tgt := 14) dJ0_coder_7d493_10 rfl ?_
  exact V_iret (pc := 14) rfl rfl dJ0_coder_7d493_14 ⟨rfl, rfl⟩
theorem c_sla {i : Nat} {q : String × Nat × String × List Int32} (hs : xSTab[i]? = some q) : CTk k_sla 0 0 [.retAddr i] M (Qv (some (.int 1)) M) xF := by
  refine CTk.ofV (by decide) rfl (Nat.le_of_ble_eq_true rfl) ?_
  refine V_gcomp (k := k_sla) (pc := 0) dJ0_isLatin1_aae02_0 w4_45 ?_
  refine V_if_eq (pc := 3) (tgt := 17) dJ0_isLatin1_aae02_3 rfl (fun h => absurd h (by decide)) (fun h => ?_)
  refine V_saload (pc := 6) (i := 0) (j := 0) dJ0_isLatin1_aae02_6 rfl rfl ?_
  refine V_gcoder (pc := 7) dJ0_isLatin1_aae02_7 w11_102 hs ?_
  refine V_if_ne (pc := 10) (tgt := 17) dJ0_isLatin1_aae02_10 rfl (fun h => absurd rfl h) (fun h => ?_)
  refine V_iconst (pc := 13) dJ0_isLatin1_aae02_13 rfl ?_
  refine V_goto (pc := 14) (tgt := 18) dJ0_isLatin1_aae02_14 rfl ?_
  exact V_iret (pc := 18) rfl rfl dJ0_isLatin1_aae02_18 ⟨rfl, rfl⟩
theorem c_sln {i : Nat} {q : String × Nat × String × List Int32} (hs : xSTab[i]? = some q) : CTk k_sln 0 0 [.retAddr i] M (Qv (some (.int (Int32.ofNat (sB i).length))) M) xF := by
  refine CTk.ofV (by decide) rfl (Nat.le_of_ble_eq_true rfl) ?_
  refine V_saload (k := k_sln) (pc := 0) (i := 0) (j := 0) dJ0_length_8abf5_0 rfl rfl ?_
  refine V_gvalue (pc := 1) dJ0_length_8abf5_1 w11_103 hs ?_
  refine V_salen (pc := 4) dJ0_length_8abf5_4 hs ?_
  refine V_saload (pc := 5) (i := 0) (j := 0) dJ0_length_8abf5_5 rfl rfl ?_
  refine V_vs (k' := k_sco) (pc := 6) (avs := []) hs dJ0_length_8abf5_6 w4_51 i_sco rfl rfl (Nat.le_of_ble_eq_true rfl) (Nat.le_of_ble_eq_true rfl) (Nat.le_of_ble_eq_true rfl) (c_sco hs) ?_
  refine V_ishr (pc := 9) dJ0_length_8abf5_9 ?_
  have e : Int32.ofNat (sB i).length >>> ((0 : Int32) &&& 31) = Int32.ofNat (sB i).length := by
    rw [show ((0 : Int32) &&& 31) = 0 by decide]
    exact Int32.shiftRight_zero
  rw [e]
  exact V_iret (pc := 10) rfl rfl dJ0_length_8abf5_10 ⟨rfl, rfl⟩
theorem c_lca {x v : Int32} (hv : (if 0 ≤ x ∧ x ≤ 255 then 1 else 0) = v) : CTk k_lca 0 0 [.int x] M (Qv (some (.int v)) M) xF := by
  refine CTk.ofV (by decide) rfl (Nat.le_of_ble_eq_true rfl) ?_
  refine V_iload_n (k := k_lca) (pc := 0) (j := 0) dJ1_canEncode_9a6ad_0 rfl rfl ?_
  refine V_if_lt (pc := 1) (tgt := 15) dJ1_canEncode_9a6ad_1 rfl (fun h => ?_) (fun h => ?_)
  · refine V_iconst (pc := 15) dJ1_canEncode_9a6ad_15 rfl ?_
    rw [if_neg (fun q => Int32.not_lt.mpr q.1 h)] at hv
    exact V_iret (pc := 16) rfl rfl dJ1_canEncode_9a6ad_16 ⟨by rw [← hv]; rfl, rfl⟩
  · refine V_iload_n (pc := 4) (j := 0) dJ1_canEncode_9a6ad_4 rfl rfl ?_
    refine V_sipush (pc := 5) dJ1_canEncode_9a6ad_5 rfl ?_
    refine V_icmp_gt (pc := 8) (tgt := 15) dJ1_canEncode_9a6ad_8 rfl (fun h2 => ?_) (fun h2 => ?_)
    · refine V_iconst (pc := 15) dJ1_canEncode_9a6ad_15 rfl ?_
      rw [if_neg (fun q => Int32.not_lt.mpr q.2 h2)] at hv
      exact V_iret (pc := 16) rfl rfl dJ1_canEncode_9a6ad_16 ⟨by rw [← hv]; rfl, rfl⟩
    · refine V_iconst (pc := 11) dJ1_canEncode_9a6ad_11 rfl ?_
      refine V_goto (pc := 12) (tgt := 16) dJ1_canEncode_9a6ad_12 rfl ?_
      rw [if_pos ⟨Int32.not_lt.mp h, Int32.not_lt.mp h2⟩] at hv
      exact V_iret (pc := 16) rfl rfl dJ1_canEncode_9a6ad_16 ⟨by rw [← hv]; rfl, rfl⟩
theorem sB_len : ∀ i, i < 7 → 0 < (sB i).length ∧ (sB i).length < 100 := by decide +kernel
theorem sB_byte : ∀ i, i < 7 → ∀ b ∈ sB i, 0 ≤ b ∧ b ≤ 127 := by decide +kernel
theorem ofN_lt {a b : Nat} (ha : a < 1000) (hb : b < 1000) : Int32.ofNat a < Int32.ofNat b ↔ a < b := Int32.ofNat_lt_iff_lt (by omega) (by omega)
theorem ofN_le {a b : Nat} (ha : a < 1000) (hb : b < 1000) : Int32.ofNat a ≤ Int32.ofNat b ↔ a ≤ b := Int32.ofNat_le_iff_le (by omega) (by omega)
theorem c_lic_loop {i : Nat} {x : Int32} {q : String × Nat × String × List Int32} (hs : xSTab[i]? = some q) (hi : i < 7) : ∀ w j, j + w = (sB i).length →
    V k_lic 7 [(5, .int (Int32.ofNat j)), (4, .int x.toInt8.toInt32), (0, .retAddr (1000 + i)), (1, .int x), (2, .int 0), (3, .int (Int32.ofNat (sB i).length))] [] 0 0 M (Qv (some (.int (xIdxF x.toInt8.toInt32 ((sB i).drop j) j))) M) xF
  | w, j, hj => by
    have hl := sB_len i hi
    refine V_iload (pc := 7) (j := 0) dJ1_indexOfChar_4cfef_7 rfl ?_
    refine V_iload_n (pc := 9) (j := 5) dJ1_indexOfChar_4cfef_9 rfl rfl ?_
    refine V_icmp_ge (pc := 10) (tgt := 31) dJ1_indexOfChar_4cfef_10 rfl (fun h => ?_) (fun h => ?_)
    · have h1 : (sB i).length ≤ j := (ofN_le (by omega) (by omega)).mp h
      refine V_iconst (pc := 31) (v := -1) dJ1_indexOfChar_4cfef_31 (by decide) ?_
      exact V_iret (pc := 32) rfl rfl dJ1_indexOfChar_4cfef_32 ⟨by rw [List.drop_eq_nil_of_le h1]; rfl, rfl⟩
    · have h1 : j < (sB i).length := by
        by_cases h2 : j < (sB i).length
        · exact h2
        · exact absurd ((ofN_le (by omega) (by omega)).mpr (Nat.not_lt.mp h2)) h
      have hcl : (Int32.ofNat j).toNatClampNeg = j := by
        unfold Int32.toNatClampNeg
        rw [Int32.toInt_ofNat_of_lt (by omega)]
        rfl
      have h0 : ¬ Int32.ofNat j < 0 := fun h2 => by
        rw [Int32.lt_iff_toInt_lt, Int32.toInt_ofNat_of_lt (by omega)] at h2
        have : (0 : Int32).toInt = 0 := by decide
        omega
      refine V_saload (pc := 13) (i := 0) (j := 2) dJ1_indexOfChar_4cfef_13 rfl rfl ?_
      refine V_iload (pc := 14) (j := 0) dJ1_indexOfChar_4cfef_14 rfl ?_
      refine V_sbald (pc := 16) dJ1_indexOfChar_4cfef_16 hs (by rintro (q | q); exact h0 q; rw [hcl] at q; omega) ?_
      rw [hcl]
      have hd : (sB i).drop j = (sB i).getD j 0 :: (sB i).drop (j + 1) := by
        rw [List.drop_eq_getElem_cons h1, List.getD_eq_getElem?_getD, List.getElem?_eq_getElem h1]
        rfl
      refine V_iload (pc := 17) (j := 1) dJ1_indexOfChar_4cfef_17 rfl ?_
      refine V_icmp_ne (pc := 19) (tgt := 25) dJ1_indexOfChar_4cfef_19 rfl (fun hne => ?_) (fun heq => ?_)
      · have e1 : Int32.ofNat j + Int32.ofInt 1 = Int32.ofNat (j + 1) := by
          rw [Int32.ofNat_add]
          rfl
        refine V_iinc (pc := 25) (j := 0) dJ1_indexOfChar_4cfef_25 rfl e1 (Nat.le_of_ble_eq_true rfl) rfl ?_
        refine V_goto (pc := 28) (tgt := 7) dJ1_indexOfChar_4cfef_28 rfl ?_
        have e2 : xIdxF x.toInt8.toInt32 ((sB i).drop j) j = xIdxF x.toInt8.toInt32 ((sB i).drop (j + 1)) (j + 1) := by
          rw [hd]
          show (if _ = _ then _ else _) = _
          rw [if_neg hne]
        rw [e2]
        exact match w, hj with
          | 0, hj => by omega
          | w + 1, hj => c_lic_loop hs hi w (j + 1) (by omega)
      · refine V_iload (pc := 22) (j := 0) dJ1_indexOfChar_4cfef_22 rfl ?_
        have e2 : xIdxF x.toInt8.toInt32 ((sB i).drop j) j = Int32.ofNat j := by
          rw [hd]
          show (if _ = _ then _ else _) = _
          rw [if_pos heq]
        rw [e2]
        exact V_iret (pc := 24) rfl rfl dJ1_indexOfChar_4cfef_24 ⟨rfl, rfl⟩
theorem c_lic {i : Nat} {x : Int32} {q : String × Nat × String × List Int32} (hs : xSTab[i]? = some q) (hi : i < 7) : CTk k_lic 0 0 [.retAddr (1000 + i), .int x, .int 0, .int (Int32.ofNat (sB i).length)] M (Qv (some (.int (xIdxF x.toInt8.toInt32 (sB i) 0))) M) xF := by
  refine CTk.ofV (by decide) rfl (Nat.le_of_ble_eq_true rfl) ?_
  refine V_iload_n (k := k_lic) (pc := 0) (j := 1) dJ1_indexOfChar_4cfef_0 rfl rfl ?_
  refine V_i2b (pc := 1) dJ1_indexOfChar_4cfef_1 ?_
  refine V_istore (pc := 2) dJ1_indexOfChar_4cfef_2 (Nat.le_of_ble_eq_true rfl) rfl ?_
  refine V_iload_n (pc := 4) (j := 3) dJ1_indexOfChar_4cfef_4 rfl rfl ?_
  refine V_istore (pc := 5) dJ1_indexOfChar_4cfef_5 (Nat.le_of_ble_eq_true rfl) rfl ?_
  exact c_lic_loop hs hi (sB i).length 0 (by omega)
theorem xIdxF_no {x : Int32} : ∀ (l : List Int32) (k : Nat), (∀ b ∈ l, b ≠ x) → xIdxF x l k = -1
  | [], _, _ => rfl
  | b :: l, k, h => by
    show (if b = x then _ else _) = _
    rw [if_neg (h b List.mem_cons_self)]
    exact xIdxF_no l (k + 1) (fun c hc => h c (List.mem_cons_of_mem _ hc))
theorem xIdxF_eq {x y : Int32} : ∀ (l : List Int32) (k : Nat), (∀ b ∈ l, (b = y ↔ b = x)) → xIdxF y l k = xIdxF x l k
  | [], _, _ => rfl
  | b :: l, k, h => by
    show (if b = y then _ else _) = (if b = x then _ else _)
    rw [xIdxF_eq l (k + 1) (fun c hc => h c (List.mem_cons_of_mem _ hc))]
    by_cases hb : b = x
    · rw [if_pos hb, if_pos ((h b List.mem_cons_self).mpr hb)]
    · rw [if_neg hb, if_neg (fun q => hb ((h b List.mem_cons_self).mp q))]
theorem i2b_tab : ∀ n, n < 256 → (n < 128 ∧ (Int32.ofNat n).toInt8.toInt32 = Int32.ofNat n) ∨ (127 < n ∧ (Int32.ofNat n).toInt8.toInt32 < 0) := by decide +kernel
theorem i2b_byte {x b : Int32} (hx : 0 ≤ x ∧ x ≤ 255) (hb : 0 ≤ b ∧ b ≤ 127) : b = x.toInt8.toInt32 ↔ b = x := by
  obtain ⟨h1, h2⟩ := hx
  obtain ⟨h3, h4⟩ := hb
  rw [Int32.le_iff_toInt_le] at h1 h2 h3 h4
  rw [show (0 : Int32).toInt = 0 by decide] at h1 h3
  rw [show (255 : Int32).toInt = 255 by decide] at h2
  rw [show (127 : Int32).toInt = 127 by decide] at h4
  have e : x = Int32.ofNat x.toInt.toNat := by
    apply Int32.toInt_inj.mp
    rw [Int32.toInt_ofNat_of_lt (by omega)]
    omega
  generalize hn : x.toInt.toNat = n at e
  have hn2 : x.toInt = (n : Int) := by omega
  subst e
  rcases i2b_tab n (by omega) with ⟨t1, t2⟩ | ⟨t1, t2⟩
  · rw [t2]
  · rw [Int32.lt_iff_toInt_lt, show (0 : Int32).toInt = 0 by decide] at t2
    constructor
    · intro q
      rw [← q] at t2
      omega
    · intro q
      rw [q] at h4
      omega
theorem xIdx_eq {i : Nat} {x : Int32} (hi : i < 7) (hx : 0 ≤ x ∧ x ≤ 255) : xIdxF x.toInt8.toInt32 (sB i) 0 = xIdx i x := xIdxF_eq _ _ fun b hb => i2b_byte hx (sB_byte i hi b hb)
theorem xIdx_no {i : Nat} {x : Int32} (hi : i < 7) (hx : ¬ (0 ≤ x ∧ x ≤ 255)) : xIdx i x = -1 := xIdxF_no _ _ fun b hb q => by
  subst q
  obtain ⟨h1, h2⟩ := sB_byte i hi b hb
  exact hx ⟨h1, Int32.le_trans h2 (by decide)⟩
theorem c_lix {i : Nat} {x : Int32} {q : String × Nat × String × List Int32} (hs : xSTab[i]? = some q) (hi : i < 7) : CTk k_lix 0 0 [.retAddr (1000 + i), .int x, .int 0, .int (Int32.ofNat (sB i).length)] M (Qv (some (.int (xIdx i x))) M) xF := by
  have hl := sB_len i hi
  refine CTk.ofV (by decide) rfl (Nat.le_of_ble_eq_true rfl) ?_
  refine V_iload_n (k := k_lix) (pc := 0) (j := 1) dJ1_indexOf_4cfef_0 rfl rfl ?_
  refine V_sv (k' := k_lca) (pc := 1) (avs := [.int x]) dJ1_indexOf_4cfef_1 w4_58 i_lca rfl (Nat.le_of_ble_eq_true rfl) (Nat.le_of_ble_eq_true rfl) (Nat.le_of_ble_eq_true rfl) (c_lca rfl) ?_
  refine V_if_ne (pc := 4) (tgt := 9) dJ1_indexOf_4cfef_4 rfl (fun h => ?_) (fun h => ?_)
  · have hx : 0 ≤ x ∧ x ≤ 255 := by
      by_cases hx : 0 ≤ x ∧ x ≤ 255
      · exact hx
      · rw [if_neg hx] at h
        exact absurd rfl h
    refine V_iload_n (pc := 9) (j := 2) dJ1_indexOf_4cfef_9 rfl rfl ?_
    refine V_iconst (pc := 10) (v := 0) dJ1_indexOf_4cfef_10 rfl ?_
    refine V_sv (k' := k_max) (pc := 11) (avs := [.int 0, .int 0]) dJ1_indexOf_4cfef_11 w4_61 i_max rfl (Nat.le_of_ble_eq_true rfl) (Nat.le_of_ble_eq_true rfl) (Nat.le_of_ble_eq_true rfl) (c_max (v := 0) (by decide)) ?_
    refine V_istore_n (pc := 14) dJ1_indexOf_4cfef_14 rfl (Nat.le_of_ble_eq_true rfl) rfl ?_
    refine V_iload_n (pc := 15) (j := 3) dJ1_indexOf_4cfef_15 rfl rfl ?_
    refine V_saload (pc := 16) (i := 0) (j := 1) dJ1_indexOf_4cfef_16 rfl rfl ?_
    refine V_salen (pc := 17) dJ1_indexOf_4cfef_17 hs ?_
    refine V_sv (k' := k_min) (pc := 18) (avs := [.int (Int32.ofNat (sB i).length), .int (Int32.ofNat (sB i).length)]) dJ1_indexOf_4cfef_18 w4_64 i_min rfl (Nat.le_of_ble_eq_true rfl) (Nat.le_of_ble_eq_true rfl) (Nat.le_of_ble_eq_true rfl) (c_min (v := Int32.ofNat (sB i).length) (by split <;> rfl)) ?_
    refine V_istore_n (pc := 21) dJ1_indexOf_4cfef_21 rfl (Nat.le_of_ble_eq_true rfl) rfl ?_
    refine V_iload_n (pc := 22) (j := 1) dJ1_indexOf_4cfef_22 rfl rfl ?_
    refine V_iload_n (pc := 23) (j := 0) dJ1_indexOf_4cfef_23 rfl rfl ?_
    refine V_icmp_lt (pc := 24) (tgt := 29) dJ1_indexOf_4cfef_24 rfl (fun h => ?_) (fun h => absurd (show Int32.ofNat 0 < _ from (ofN_lt (by omega) (by omega)).mpr hl.1) h)
    refine V_saload (pc := 29) (i := 0) (j := 2) dJ1_indexOf_4cfef_29 rfl rfl ?_
    refine V_iload_n (pc := 30) (j := 3) dJ1_indexOf_4cfef_30 rfl rfl ?_
    refine V_iload_n (pc := 31) (j := 1) dJ1_indexOf_4cfef_31 rfl rfl ?_
    refine V_iload_n (pc := 32) (j := 0) dJ1_indexOf_4cfef_32 rfl rfl ?_
    refine V_sv (k' := k_lic) (pc := 33) (avs := [.retAddr (1000 + i), .int x, .int 0, .int (Int32.ofNat (sB i).length)]) dJ1_indexOf_4cfef_33 w4_65 i_lic rfl (Nat.le_of_ble_eq_true rfl) (Nat.le_of_ble_eq_true rfl) (Nat.le_of_ble_eq_true rfl) (c_lic hs hi) ?_
    exact V_iret (pc := 36) rfl rfl dJ1_indexOf_4cfef_36 ⟨by rw [xIdx_eq hi hx], rfl⟩
  · have hx : ¬ (0 ≤ x ∧ x ≤ 255) := fun hx => by
      rw [if_pos hx] at h
      exact absurd h (by decide)
    refine V_iconst (pc := 7) (v := -1) dJ1_indexOf_4cfef_7 (by decide) ?_
    exact V_iret (pc := 8) rfl rfl dJ1_indexOf_4cfef_8 ⟨by rw [xIdx_no hi hx], rfl⟩
theorem c_si2 {i : Nat} {x : Int32} {q : String × Nat × String × List Int32} (hs : xSTab[i]? = some q) (hi : i < 7) : CTk k_si2 0 0 [.retAddr i, .int x, .int 0] M (Qv (some (.int (xIdx i x))) M) xF := by
  refine CTk.ofV (by decide) rfl (Nat.le_of_ble_eq_true rfl) ?_
  refine V_saload (k := k_si2) (pc := 0) (i := 0) (j := 0) dJ0_indexOf_7cf53_0 rfl rfl ?_
  refine V_vs (k' := k_sla) (pc := 1) (avs := []) hs dJ0_indexOf_7cf53_1 w4_41 i_sla rfl rfl (Nat.le_of_ble_eq_true rfl) (Nat.le_of_ble_eq_true rfl) (Nat.le_of_ble_eq_true rfl) (c_sla hs) ?_
  refine V_if_eq (pc := 4) (tgt := 23) dJ0_indexOf_7cf53_4 rfl (fun h => absurd h (by decide)) (fun h => ?_)
  refine V_saload (pc := 7) (i := 0) (j := 0) dJ0_indexOf_7cf53_7 rfl rfl ?_
  refine V_gvalue (pc := 8) dJ0_indexOf_7cf53_8 w11_103 hs ?_
  refine V_iload_n (pc := 11) (j := 1) dJ0_indexOf_7cf53_11 rfl rfl ?_
  refine V_iload_n (pc := 12) (j := 2) dJ0_indexOf_7cf53_12 rfl rfl ?_
  refine V_saload (pc := 13) (i := 0) (j := 0) dJ0_indexOf_7cf53_13 rfl rfl ?_
  refine V_vs (k' := k_sln) (pc := 14) (avs := []) hs dJ0_indexOf_7cf53_14 w4_47 i_sln rfl rfl (Nat.le_of_ble_eq_true rfl) (Nat.le_of_ble_eq_true rfl) (Nat.le_of_ble_eq_true rfl) (c_sln hs) ?_
  refine V_sv (k' := k_lix) (pc := 17) (avs := [.retAddr (1000 + i), .int x, .int 0, .int (Int32.ofNat (sB i).length)]) dJ0_indexOf_7cf53_17 w4_55 i_lix rfl (Nat.le_of_ble_eq_true rfl) (Nat.le_of_ble_eq_true rfl) (Nat.le_of_ble_eq_true rfl) (c_lix hs hi) ?_
  refine V_goto (pc := 20) (tgt := 36) dJ0_indexOf_7cf53_20 rfl ?_
  exact V_iret (pc := 36) rfl rfl dJ0_indexOf_7cf53_36 ⟨rfl, rfl⟩
theorem c_six {i : Nat} {x : Int32} {q : String × Nat × String × List Int32} (hs : xSTab[i]? = some q) (hi : i < 7) : CTk k_six 0 0 [.retAddr i, .int x] M (Qv (some (.int (xIdx i x))) M) xF := by
  refine CTk.ofV (by decide) rfl (Nat.le_of_ble_eq_true rfl) ?_
  refine V_saload (k := k_six) (pc := 0) (i := 0) (j := 0) dJ0_indexOf_0f7a4_0 rfl rfl ?_
  refine V_iload_n (pc := 1) (j := 1) dJ0_indexOf_0f7a4_1 rfl rfl ?_
  refine V_iconst (pc := 2) (v := 0) dJ0_indexOf_0f7a4_2 rfl ?_
  refine V_vs (k' := k_si2) (pc := 3) (avs := [.int x, .int 0]) hs dJ0_indexOf_0f7a4_3 w4_37 i_si2 rfl rfl (Nat.le_of_ble_eq_true rfl) (Nat.le_of_ble_eq_true rfl) (Nat.le_of_ble_eq_true rfl) (c_si2 hs hi) ?_
  exact V_iret (pc := 6) rfl rfl dJ0_indexOf_0f7a4_6 ⟨rfl, rfl⟩
theorem xSTab_len : xSTab.length = 7 := by decide +kernel
theorem Y_indexOf {index i : Nat} {x : Int32} (hd : decode (kCC k) pc = .ok (.invokevirtual index, 3)) (hl : Cond.methodLink (kOwn k) index ⟨"java/lang/String", "indexOf", "(I)I"⟩ ∈ xTs) (hi : i < 7) (hdep : 10 ≤ kDep k) (hloc : 400 ≤ kLoc k) (hcat : (st.map fun v => v.category).sum ≤ 8)
    (kk : VV P k (pc + 3) lv (.int (xIdx i x) :: st) M z Q X) : VV P k pc lv (.int x :: .retAddr i :: st) M z Q X := by
  have hs : xSTab[i]? = some (xSTab[i]'(by rw [xSTab_len]; exact hi)) := List.getElem?_eq_getElem _
  have h1 : kDep k_six + 1 ≤ kDep k := Nat.le_trans (Nat.le_of_ble_eq_true rfl : kDep k_six + 1 ≤ 10) hdep
  have h2 : 8 + (kNL k_six + 11) + kLoc k_six ≤ kLoc k := Nat.le_trans (Nat.le_of_ble_eq_true rfl : 8 + (kNL k_six + 11) + kLoc k_six ≤ 400) hloc
  exact ⟨kk.1, fun nc ns g1 g2 => V_vs (k' := k_six) (avs := [.int x]) hs hd hl i_six rfl rfl hcat h1 h2 (c_six hs hi) (kk.2 nc ns g1 g2)⟩

end VXD

