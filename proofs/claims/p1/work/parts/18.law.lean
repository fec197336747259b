/-! ===== the law from its entry, where the script holds one call at most ===== -/
section LAW1
/-- the loop's end -/
theorem b_L_law_end {x5 : Int32} {M : Mem} (hP : Lay M) (hc : (nI (mN M 0)) - (4 : Int32) < x5) : VV Lay k_L_law 28 [(0, .ref 0), (1, .ref 1), (2, .ref 69), (3, .ref 127), (4, .ref 128), (5, .int x5)] [] M M (Qv (some (.int (1 : Int32))) M) xF := by
  refine Y_iload (pc := 28) (j := 5) dL_law_28 rfl ?_
  refine Y_aload_n (pc := 30) (j := 0) dL_law_30 rfl rfl ?_
  refine Y_alen (pc := 31) dL_law_31 (lk_0 hP) (by decide) ?_
  refine Y_iconst (pc := 32) (v := (4 : Int32)) dL_law_32 rfl ?_
  refine Y_isub (pc := 33) dL_law_33 ?_
  refine Y_icmp_gt (pc := 34) (tgt := 2627) dL_law_34 (by decide) (fun hc1 => ?_) (fun hc1 => absurd hc hc1)
  refine Y_iconst (pc := 2627) (v := (1 : Int32)) dL_law_2627 rfl ?_
  exact Y_iret (pc := 2628) rfl (nar_bo (by decide)) dL_law_2628 hP ⟨rfl, rfl⟩
/-- behind the first call nothing is left -/
noncomputable def k_1 (a : Int32) (M : Mem) : Option (Int32 × Mem) := okk ((nI (mN M 0)) - (4 : Int32) < a) (some ((1 : Int32), M))
theorem law_1 {n ns nc : Nat} {M : Mem} (hn : n ≤ 4) (hN : mN M 0 = n) (hP : Lay M) (hI : INV M M 0 ns nc 0) : ∃ E, VV Lay k_L_law 28 [(0, .ref 0), (1, .ref 1), (2, .ref 69), (3, .ref 127), (4, .ref 128), (5, .int 0)] [] M E (Qv (some (.int 1)) E) xF ∧ uC E ≤ uC M + 740 ∧ uS E ≤ uS M + 25100 := by
  by_cases h4 : n < 4
  · refine ⟨M, b_L_law_end hP ?_, by omega, by omega⟩
    rw [hN]
    have : n = 0 ∨ n = 1 ∨ n = 2 ∨ n = 3 := by omega
    rcases this with rfl | rfl | rfl | rfl <;> decide
  · have hn4 : n = 4 := by omega
    subst hn4
    have hL : LGO (uC M + 740) (uS M + 25100) (d_L_law_28b k_1 (nI 0) M) := by
      refine law_b hI hN (by decide) (by decide) (fun E c2 ns2 nc2 nf2 hIE hW => ?_)
      obtain ⟨⟨-, w2⟩, w3, w4, w5⟩ := hW
      have hc2 : c2 ≤ 20 := by
        obtain ⟨_, _, _, _, _, _, _, -, -, -, hF, -⟩ := hIE
        exact hF.2.2.1
      refine ⟨E, ?_, by omega, by omega⟩
      unfold k_1
      rw [okk_pos (by rw [w2, hN]; decide)]
      rfl
    obtain ⟨E, eE, e1, e2⟩ := hL
    refine ⟨E, ?_, e1, e2⟩
    refine b_L_law_28b (k28 := k_1) (x5 := nI 0) (z := (nI 1, E)) (fun a M1 z hP1 h => ?_) hP (fun x1 x2 x3 y22 y h1 h2 => ?_) eE
    · unfold k_1 at h
      obtain ⟨hc, h⟩ := okE h
      cases h
      exact b_L_law_end hP1 hc
    · obtain ⟨k, v, N, E9, c9, n1, n2, n3, q1, -, -, -, -, q6⟩ := s_run (x1 := x1) (x2 := x2) hI
      cases Option.some.inj (q1.symm.trans h1)
      have hz : mI N 69 1 = 0 := by
        rw [(q6.1 69 1 (by omega) (by omega)).1]
        obtain ⟨ob, hR, hW, -⟩ := inv_m hI
        exact hW.2.2.2.2.1.1
      unfold d_X12_isFunction d_X12_in at h2
      rw [(mI_ne (by omega) : mI (sI N 69 0 (0 : Int32)) 69 1 = mI N 69 1), hz] at h2
      by_cases hx : x3 < 0
      · rw [if_pos hx] at h2
        obtain ⟨-, h2⟩ := okE (show okk (isBo (0 : Int32)) (some ((0 : Int32), sI N 69 0 (0 : Int32))) = some y from h2)
        cases h2
        rfl
      · have hx2 : (0 : Int32) - (1 : Int32) < x3 := by
          rw [Int32.lt_iff_toInt_lt] at hx ⊢
          rw [show (0 : Int32).toInt = 0 by decide] at hx
          rw [show ((0 : Int32) - (1 : Int32)).toInt = -1 by decide]
          omega
        rw [if_neg hx, if_pos hx2] at h2
        obtain ⟨-, h2⟩ := okE (show okk (isBo (0 : Int32)) (some ((0 : Int32), sI N 69 0 (0 : Int32))) = some y from h2)
        cases h2
        rfl
end LAW1
/-! ===== the law from its entry ===== -/
section LAW
theorem law_entry {n : Nat} {s : Nat → Int32} {M : Mem} (hn : n ≤ 4) (h : STA n s 1 0 [] M) : ∃ E, VV Lay k_L_law 0 [(0, .ref 0)] [] M E (Qv (some (.int 1)) E) xF ∧ uC E ≤ 868 ∧ uS E ≤ 412100 := by
  obtain ⟨M2, M4, e2, n2, e4, n4, h6⟩ := st_start h
  obtain ⟨E, hVE, hc, hs⟩ := law_1 hn ((h6.N (a := 0) (by decide)).trans rfl) (st_lay h6) (st_inv h6)
  have hF : Fsh M := h.2.1
  have n1 : nx M = 1 := h.1
  have f1 : Fsh (sN M 1 11 6) := hF.wN n1.symm
  have cy1 := v_X11_init (r0 := 1) f1 (show 1 ≤ 1 + 1 by omega) e2
  have f2 : Fsh M2 := cy1.1.1.1
  have f3 : Fsh (sN M2 69 12 91) := f2.wN n2.symm
  have cy2 := v_X12_init (r0 := 69) f3 (show 69 ≤ 69 + 1 by omega) e4
  have f4 : Fsh M4 := cy2.1.1.1
  have f5 : Fsh (sN M4 127 24 1) := f4.wN n4.symm
  refine ⟨E, ?_, ?_, ?_⟩
  · refine Y_new (k := k_L_law) (pc := 0) (a := 1) (t := 11) dL_law_0 (by decide) (by decide) w1_35 w1_36 w1_1 (hF 1 (by rw [n1]; exact Nat.le_refl _)) (by decide) ?_
    refine Y_dup (pc := 3) dL_law_3 rfl ?_
    refine C_I0o (pc := 4) (k' := k_X11_init) dL_law_4 w1_37 i_X11_init (Nat.le_of_ble_eq_true rfl) (Nat.le_of_ble_eq_true rfl) (Nat.le_of_ble_eq_true rfl) cy1 ?_
    refine Y_astore_n (pc := 7) dL_law_7 rfl (Nat.le_of_ble_eq_true rfl) rfl ?_
    refine Y_new (pc := 8) (a := 69) (t := 12) dL_law_8 (by decide) (by decide) w8_60 w8_61 w1_15 (f2 69 (by rw [n2]; exact Nat.le_refl _)) (by decide) ?_
    refine Y_dup (pc := 11) dL_law_11 rfl ?_
    refine C_I0o (pc := 12) (k' := k_X12_init) dL_law_12 w8_62 i_X12_init (Nat.le_of_ble_eq_true rfl) (Nat.le_of_ble_eq_true rfl) (Nat.le_of_ble_eq_true rfl) cy2 ?_
    refine Y_astore_n (pc := 15) dL_law_15 rfl (Nat.le_of_ble_eq_true rfl) rfl ?_
    refine Y_iconst (pc := 16) (v := (1 : Int32)) dL_law_16 rfl ?_
    refine Y_newa (pc := 17) (a := 127) (t := 24) (N := 1) dL_law_17 (by decide) (by decide) rfl w9_101 (f4 127 (by rw [n4]; exact Nat.le_refl _)) (by decide) (by decide) rfl (by decide) ?_
    refine Y_astore_n (pc := 19) dL_law_19 rfl (Nat.le_of_ble_eq_true rfl) rfl ?_
    refine Y_iconst (pc := 20) (v := (1 : Int32)) dL_law_20 rfl ?_
    refine Y_newa (pc := 21) (a := 128) (t := 25) (N := 1) dL_law_21 (by decide) (by decide) rfl w1_166 (f5 128 (Nat.le_refl _)) (by decide) (by decide) rfl (by decide) ?_
    refine Y_astore (pc := 23) dL_law_23 (Nat.le_of_ble_eq_true rfl) rfl ?_
    refine Y_iconst (pc := 25) (v := (0 : Int32)) dL_law_25 rfl ?_
    refine Y_istore (pc := 26) dL_law_26 (Nat.le_of_ble_eq_true rfl) rfl ?_
    refine VV.sub (lv1 := [(0, .ref 0), (1, .ref 1), (2, .ref 69), (3, .ref 127), (4, .ref 128), (5, .int 0)]) [5, 4, 3, 2, 1, 0] rfl ?_
    exact hVE
  · have := h6.2.2.1.1
    omega
  · have := h6.2.2.1.2
    omega
/-- the memory at the law's entry: the script under the name 0 -/
def M_0 (L : Nat) (xs : Nat → Int32) : Mem := ((fun a j => if a = 0 then xs j else 0), (fun _ _ => 0), (fun _ _ => 0), (fun _ _ => none), (fun a => if a = 0 then (27, L) else (0, 0)), (1, 0, 0))
theorem sta_0 (L : Nat) (xs : Nat → Int32) : STA L xs 1 0 [] (M_0 L xs) := by
  refine ⟨rfl, fun a ha => ?_, ⟨Nat.le_refl _, Nat.zero_le _⟩, fun a ha => ?_, fun m hm => absurd hm (by omega), fun a j h0 h1 => absurd h0 (by omega), fun j => ?_⟩
  · have h1 : 1 ≤ a := ha
    show (if a = 0 then (27, L) else (0, 0)).1 = 0
    rw [if_neg (by omega)]
  · have h1 : a = 0 := by omega
    subst h1
    rfl
  · show (if (0 : Nat) = 0 then xs j else 0) = xs j
    rw [if_pos rfl]
end LAW
