/-! ===== the first memory: the constructors ===== -/
section MA2
section
variable {n : Nat} {s : Nat → Int32} {c k : Nat} {L : List (Nat × Nat × Nat × Int32)} {M : Mem}
theorem all_l (hc : 69 ≤ c) (hk : 71 < k ∧ k ≤ 131) : ∀ (j i N : Nat) (M : Mem), 20 = i + j → j < N → STA n s c k L M → PG (STA n s c k ((67, 4, 5, (80 : Int32)) :: L)) (d_X1_init_26 67 56 N (nI i) M) := by
  have hw : ∀ m, m < 131 → (WLf m).1 ≠ 68 := by decide +kernel
  intro j
  induction j with
  | zero =>
    intro i N M hi hN h
    obtain ⟨q, rfl, -⟩ := ex_pred hN
    obtain rfl : i = 20 := by omega
    rw [show d_X1_init_26 67 56 (q + 1) (nI 20) M = d_X1_init_26b (d_X1_init_26 67 56 q) 67 56 (nI 20) M from id rfl]
    unfold d_X1_init_26b
    rw [if_pos (show (20 : Int32) ≤ nI 20 by decide)]
    exact p_okk (h.K (a := 67) (by omega) rfl) (p_sI (a := 67) (i := 4) (v := 80) h rfl rfl (by decide) (fun X h1 => p_end h1))
  | succ j ih =>
    intro i N M hi hN h
    obtain ⟨q, rfl, hq⟩ := ex_pred hN
    rw [show d_X1_init_26 67 56 (q + 1) (nI i) M = d_X1_init_26b (d_X1_init_26 67 56 q) 67 56 (nI i) M from id rfl]
    unfold d_X1_init_26b
    rw [if_neg (show ¬ (20 : Int32) ≤ nI i by rw [l_20]; exact of_eq_false (qleF (by omega) (by omega)))]
    refine p_okk (h.K (a := 67) (by omega) rfl) (p_mR (m := 71) (b := 68) h hk.1 rfl (p_okk (h.K (a := 68) (by omega) rfl) (p_okk ?_ (p_okk (h.K (a := 56) (by omega) rfl) (p_okk (by decide) ?_)))))
    · rw [h.N (a := 68) (by omega)]; exact of_eq_true (qinT (show i < 20 by omega) (by omega))
    · rw [bnd_eq, bnd_eq, l_1, qadd]
      refine ih (i + 1) q _ (by omega) (by omega) ?_
      obtain ⟨h1, h2, h3, h5, h6, h7, h8⟩ := h
      exact ⟨h1, h2, h3, h5, fun m hm => ⟨(mR_ne (.inl (hw m (by omega)))).trans (h6 m hm).1, (h6 m hm).2⟩, h7, h8⟩
theorem p_all (h : STA n s 69 72 L M) : PG (STA n s 69 72 ((67, 4, 5, (80 : Int32)) :: L)) (d_X1_init_26 67 56 fuel (0 : Int32) M) := by
  have := fuel_big
  exact all_l (by decide) (by decide) 20 0 fuel M (by omega) (by omega) h
theorem l_560 (hc : 127 ≤ c) (hk : 131 ≤ k) : ∀ (j i N : Nat) (M : Mem), 8 = i + j → j < N → STA n s c k ((74, 0, i, (-1 : Int32)) :: L) M → PG (STA n s c k ([(74, 0, 8, (-1 : Int32))] ++ L)) (d_X12_init_560 69 N (nI i) M) := by
  intro j
  induction j with
  | zero =>
    intro i N M hi hN h
    obtain ⟨q, rfl, -⟩ := ex_pred hN
    obtain rfl : i = 8 := by omega
    rw [show d_X12_init_560 69 (q + 1) (nI 8) M = d_X12_init_560b (d_X12_init_560 69 q) 69 (nI 8) M from id rfl]
    unfold d_X12_init_560b
    rw [if_pos (show (8 : Int32) ≤ nI 8 by decide)]
    have := fuel_big
    exact p_end h
  | succ j ih =>
    intro i N M hi hN h
    obtain ⟨q, rfl, hq⟩ := ex_pred hN
    rw [show d_X12_init_560 69 (q + 1) (nI i) M = d_X12_init_560b (d_X12_init_560 69 q) 69 (nI i) M from id rfl]
    unfold d_X12_init_560b
    rw [if_neg (show ¬ (8 : Int32) ≤ nI i by rw [show (8 : Int32) = nI 8 from rfl]; exact of_eq_false (qleF (by omega) (by omega)))]
    refine p_okk (h.K (a := 69) (by omega) rfl) (p_mR (m := 78) (b := 74) h (by omega) rfl (p_okk (h.K (a := 74) (by omega) rfl) (p_okk ?_ ?_)))
    · rw [h.N (a := 74) (by omega)]; exact of_eq_true (qinT (show i < 8 by omega) (by omega))
    · rw [bnd_eq, bnd_eq, qcl (by omega), l_1, qadd]
      exact ih (i + 1) q _ (by omega) (by omega) (h.fl (m := 8) (by decide))
theorem l_538 (hc : 127 ≤ c) (hk : 131 ≤ k) : ∀ (j i N : Nat) (M : Mem), 360 = i + j → j < N → STA n s c k ((82, 0, i, (-1 : Int32)) :: L) M → PG (STA n s c k ([(74, 0, 8, (-1 : Int32)), (82, 0, 360, (-1 : Int32))] ++ L)) (d_X12_init_538 69 N (nI i) M) := by
  intro j
  induction j with
  | zero =>
    intro i N M hi hN h
    obtain ⟨q, rfl, -⟩ := ex_pred hN
    obtain rfl : i = 360 := by omega
    rw [show d_X12_init_538 69 (q + 1) (nI 360) M = d_X12_init_538b (d_X12_init_538 69 q) 69 (nI 360) M from id rfl]
    unfold d_X12_init_538b
    rw [if_pos (show (360 : Int32) ≤ nI 360 by decide)]
    have := fuel_big
    exact l_560 hc hk 8 0 fuel M (by omega) (by omega) h.f0
  | succ j ih =>
    intro i N M hi hN h
    obtain ⟨q, rfl, hq⟩ := ex_pred hN
    rw [show d_X12_init_538 69 (q + 1) (nI i) M = d_X12_init_538b (d_X12_init_538 69 q) 69 (nI i) M from id rfl]
    unfold d_X12_init_538b
    rw [if_neg (show ¬ (360 : Int32) ≤ nI i by rw [show (360 : Int32) = nI 360 from rfl]; exact of_eq_false (qleF (by omega) (by omega)))]
    refine p_okk (h.K (a := 69) (by omega) rfl) (p_mR (m := 86) (b := 82) h (by omega) rfl (p_okk (h.K (a := 82) (by omega) rfl) (p_okk ?_ ?_)))
    · rw [h.N (a := 82) (by omega)]; exact of_eq_true (qinT (show i < 360 by omega) (by omega))
    · rw [bnd_eq, bnd_eq, qcl (by omega), l_1, qadd]
      exact ih (i + 1) q _ (by omega) (by omega) (h.fl (m := 360) (by decide))
theorem l_517 (hc : 127 ≤ c) (hk : 131 ≤ k) : ∀ (j i N : Nat) (M : Mem), 30 = i + j → j < N → STA n s c k ((77, 0, i, (-1 : Int32)) :: L) M → PG (STA n s c k ([(74, 0, 8, (-1 : Int32)), (82, 0, 360, (-1 : Int32)), (77, 0, 30, (-1 : Int32))] ++ L)) (d_X12_init_517 69 N (nI i) M) := by
  intro j
  induction j with
  | zero =>
    intro i N M hi hN h
    obtain ⟨q, rfl, -⟩ := ex_pred hN
    obtain rfl : i = 30 := by omega
    rw [show d_X12_init_517 69 (q + 1) (nI 30) M = d_X12_init_517b (d_X12_init_517 69 q) 69 (nI 30) M from id rfl]
    unfold d_X12_init_517b
    rw [if_pos (show (30 : Int32) ≤ nI 30 by decide)]
    have := fuel_big
    exact l_538 hc hk 360 0 fuel M (by omega) (by omega) h.f0
  | succ j ih =>
    intro i N M hi hN h
    obtain ⟨q, rfl, hq⟩ := ex_pred hN
    rw [show d_X12_init_517 69 (q + 1) (nI i) M = d_X12_init_517b (d_X12_init_517 69 q) 69 (nI i) M from id rfl]
    unfold d_X12_init_517b
    rw [if_neg (show ¬ (30 : Int32) ≤ nI i by rw [show (30 : Int32) = nI 30 from rfl]; exact of_eq_false (qleF (by omega) (by omega)))]
    refine p_okk (h.K (a := 69) (by omega) rfl) (p_mR (m := 81) (b := 77) h (by omega) rfl (p_okk (h.K (a := 77) (by omega) rfl) (p_okk ?_ ?_)))
    · rw [h.N (a := 77) (by omega)]; exact of_eq_true (qinT (show i < 30 by omega) (by omega))
    · rw [bnd_eq, bnd_eq, qcl (by omega), l_1, qadd]
      exact ih (i + 1) q _ (by omega) (by omega) (h.fl (m := 30) (by decide))
theorem p_517 (h : STA n s 127 131 L M) : PG (STA n s 127 131 ((74, 0, 8, (-1 : Int32)) :: (82, 0, 360, (-1 : Int32)) :: (77, 0, 30, (-1 : Int32)) :: L)) (d_X12_init_517 69 fuel (0 : Int32) M) := by
  have := fuel_big
  exact l_517 (by decide) (by decide) 30 0 fuel M (by omega) (by omega) h.f0
end
theorem in_X5_2 {n : Nat} {s : Nat → Int32} {M : Mem} (h0 : STA n s 3 0 [] M) : PG (STA n s 11 8 [(10, 0, 30, (-1 : Int32)), (5, 0, 8, (-1 : Int32))]) (d_X5_init 2 M) := by
  unfold d_X5_init
  refine p_nx h0.1 ?_
  refine p_okk (by decide) ?_
  refine p_sN (m := 8) h0 rfl rfl (fun _ => rfl) (by decide) (by decide) (fun X1 h1 => ?_)
  refine p_okk (h1.K (a := 2) (by decide) rfl) ?_
  refine p_sR (a := 2) (b := 3) h1 rfl (by decide) (by decide) (fun X2 h2 => ?_)
  refine p_nx h2.1 ?_
  refine p_okk (by decide) ?_
  refine p_sN (m := 8) h2 rfl rfl (fun _ => rfl) (by decide) (by decide) (fun X3 h3 => ?_)
  refine p_okk (h3.K (a := 2) (by decide) rfl) ?_
  refine p_sR (a := 2) (b := 4) h3 rfl (by decide) (by decide) (fun X4 h4 => ?_)
  refine p_nx h4.1 ?_
  refine p_okk (by decide) ?_
  refine p_sN (m := 8) h4 rfl rfl (fun _ => rfl) (by decide) (by decide) (fun X5 h5 => ?_)
  refine p_okk (h5.K (a := 2) (by decide) rfl) ?_
  refine p_sR (a := 2) (b := 5) h5 rfl (by decide) (by decide) (fun X6 h6 => ?_)
  refine p_nx h6.1 ?_
  refine p_okk (by decide) ?_
  refine p_sN (m := 320) h6 rfl rfl (fun _ => rfl) (by decide) (by decide) (fun X7 h7 => ?_)
  refine p_okk (h7.K (a := 2) (by decide) rfl) ?_
  refine p_sR (a := 2) (b := 6) h7 rfl (by decide) (by decide) (fun X8 h8 => ?_)
  refine p_nx h8.1 ?_
  refine p_okk (by decide) ?_
  refine p_sN (m := 320) h8 rfl rfl (fun _ => rfl) (by decide) (by decide) (fun X9 h9 => ?_)
  refine p_okk (h9.K (a := 2) (by decide) rfl) ?_
  refine p_sR (a := 2) (b := 7) h9 rfl (by decide) (by decide) (fun X10 h10 => ?_)
  refine p_nx h10.1 ?_
  refine p_okk (by decide) ?_
  refine p_sN (m := 8) h10 rfl rfl (fun _ => rfl) (by decide) (by decide) (fun X11 h11 => ?_)
  refine p_okk (h11.K (a := 2) (by decide) rfl) ?_
  refine p_sR (a := 2) (b := 8) h11 rfl (by decide) (by decide) (fun X12 h12 => ?_)
  refine p_nx h12.1 ?_
  refine p_okk (by decide) ?_
  refine p_sN (m := 5) h12 rfl rfl (fun _ => rfl) (by decide) (by decide) (fun X13 h13 => ?_)
  refine p_okk (h13.K (a := 2) (by decide) rfl) ?_
  refine p_sR (a := 2) (b := 9) h13 rfl (by decide) (by decide) (fun X14 h14 => ?_)
  refine p_nx h14.1 ?_
  refine p_okk (by decide) ?_
  refine p_sN (m := 30) h14 rfl rfl (fun _ => rfl) (by decide) (by decide) (fun X15 h15 => ?_)
  refine p_okk (h15.K (a := 2) (by decide) rfl) ?_
  refine p_sR (a := 2) (b := 10) h15 rfl (by decide) (by decide) (fun X16 h16 => ?_)
  refine p_okk (h16.K (a := 2) (by decide) rfl) ?_
  refine p_mR (m := 2) (b := 5) h16 (by decide) rfl ?_
  refine p_fill (a := 5) (m := 8) h16 rfl (by decide) (by decide) (fun X17 h17 => ?_)
  refine p_okk (h17.K (a := 2) (by decide) rfl) ?_
  refine p_mR (m := 7) (b := 10) h17 (by decide) rfl ?_
  refine p_fill (a := 10) (m := 30) h17 rfl (by decide) (by decide) (fun X18 h18 => ?_)
  exact p_end h18
theorem in_X7_11 {n : Nat} {s : Nat → Int32} {M : Mem} (h0 : STA n s 12 9 [(10, 0, 30, (-1 : Int32)), (5, 0, 8, (-1 : Int32))] M) : PG (STA n s 18 15 [(10, 0, 30, (-1 : Int32)), (5, 0, 8, (-1 : Int32))]) (d_X7_init 11 M) := by
  unfold d_X7_init
  refine p_nx h0.1 ?_
  refine p_okk (by decide) ?_
  refine p_sN (m := 60) h0 rfl rfl (fun _ => rfl) (by decide) (by decide) (fun X1 h1 => ?_)
  refine p_okk (h1.K (a := 11) (by decide) rfl) ?_
  refine p_sR (a := 11) (b := 12) h1 rfl (by decide) (by decide) (fun X2 h2 => ?_)
  refine p_nx h2.1 ?_
  refine p_okk (by decide) ?_
  refine p_sN (m := 60) h2 rfl rfl (fun _ => rfl) (by decide) (by decide) (fun X3 h3 => ?_)
  refine p_okk (h3.K (a := 11) (by decide) rfl) ?_
  refine p_sR (a := 11) (b := 13) h3 rfl (by decide) (by decide) (fun X4 h4 => ?_)
  refine p_nx h4.1 ?_
  refine p_okk (by decide) ?_
  refine p_sN (m := 60) h4 rfl rfl (fun _ => rfl) (by decide) (by decide) (fun X5 h5 => ?_)
  refine p_okk (h5.K (a := 11) (by decide) rfl) ?_
  refine p_sR (a := 11) (b := 14) h5 rfl (by decide) (by decide) (fun X6 h6 => ?_)
  refine p_nx h6.1 ?_
  refine p_okk (by decide) ?_
  refine p_sN (m := 360) h6 rfl rfl (fun _ => rfl) (by decide) (by decide) (fun X7 h7 => ?_)
  refine p_okk (h7.K (a := 11) (by decide) rfl) ?_
  refine p_sR (a := 11) (b := 15) h7 rfl (by decide) (by decide) (fun X8 h8 => ?_)
  refine p_nx h8.1 ?_
  refine p_okk (by decide) ?_
  refine p_sN (m := 360) h8 rfl rfl (fun _ => rfl) (by decide) (by decide) (fun X9 h9 => ?_)
  refine p_okk (h9.K (a := 11) (by decide) rfl) ?_
  refine p_sR (a := 11) (b := 16) h9 rfl (by decide) (by decide) (fun X10 h10 => ?_)
  refine p_nx h10.1 ?_
  refine p_okk (by decide) ?_
  refine p_sN (m := 5) h10 rfl rfl (fun _ => rfl) (by decide) (by decide) (fun X11 h11 => ?_)
  refine p_okk (h11.K (a := 11) (by decide) rfl) ?_
  refine p_sR (a := 11) (b := 17) h11 rfl (by decide) (by decide) (fun X12 h12 => ?_)
  exact p_end h12
theorem in_X8_19 {n : Nat} {s : Nat → Int32} {M : Mem} (h0 : STA n s 20 18 [(10, 0, 30, (-1 : Int32)), (5, 0, 8, (-1 : Int32))] M) : PG (STA n s 24 22 [(10, 0, 30, (-1 : Int32)), (5, 0, 8, (-1 : Int32))]) (d_X8_init 19 M) := by
  unfold d_X8_init
  refine p_nx h0.1 ?_
  refine p_okk (by decide) ?_
  refine p_sN (m := 549) h0 rfl rfl (fun _ => rfl) (by decide) (by decide) (fun X1 h1 => ?_)
  refine p_okk (h1.K (a := 19) (by decide) rfl) ?_
  refine p_sR (a := 19) (b := 20) h1 rfl (by decide) (by decide) (fun X2 h2 => ?_)
  refine p_nx h2.1 ?_
  refine p_okk (by decide) ?_
  refine p_sN (m := 549) h2 rfl rfl (fun _ => rfl) (by decide) (by decide) (fun X3 h3 => ?_)
  refine p_okk (h3.K (a := 19) (by decide) rfl) ?_
  refine p_sR (a := 19) (b := 21) h3 rfl (by decide) (by decide) (fun X4 h4 => ?_)
  refine p_nx h4.1 ?_
  refine p_okk (by decide) ?_
  refine p_sN (m := 549) h4 rfl rfl (fun _ => rfl) (by decide) (by decide) (fun X5 h5 => ?_)
  refine p_okk (h5.K (a := 19) (by decide) rfl) ?_
  refine p_sR (a := 19) (b := 22) h5 rfl (by decide) (by decide) (fun X6 h6 => ?_)
  refine p_nx h6.1 ?_
  refine p_okk (by decide) ?_
  refine p_sN (m := 549) h6 rfl rfl (fun _ => rfl) (by decide) (by decide) (fun X7 h7 => ?_)
  refine p_okk (h7.K (a := 19) (by decide) rfl) ?_
  refine p_sR (a := 19) (b := 23) h7 rfl (by decide) (by decide) (fun X8 h8 => ?_)
  exact p_end h8
theorem in_X3_18 {n : Nat} {s : Nat → Int32} {M : Mem} (h0 : STA n s 19 16 [(10, 0, 30, (-1 : Int32)), (5, 0, 8, (-1 : Int32))] M) : PG (STA n s 28 27 [(18, 14, 15, (45 : Int32)), (18, 13, 14, (45 : Int32)), (10, 0, 30, (-1 : Int32)), (5, 0, 8, (-1 : Int32))]) (d_X3_init 18 2 11 M) := by
  unfold d_X3_init
  refine p_okk (h0.K (a := 18) (by decide) rfl) ?_
  refine p_sR (a := 18) (b := 2) h0 rfl (by decide) (by decide) (fun X1 h1 => ?_)
  refine p_okk (h1.K (a := 18) (by decide) rfl) ?_
  refine p_sR (a := 18) (b := 11) h1 rfl (by decide) (by decide) (fun X2 h2 => ?_)
  refine p_nx h2.1 ?_
  refine p_okk (by decide) ?_
  refine p_sN (m := 4) h2 rfl rfl (fun _ => rfl) (by decide) (by decide) (fun X3 h3 => ?_)
  refine p_okk (by rw [h3.1]; decide) ?_
  refine p_okk (by decide) ?_
  refine p_call (in_X8_19 h3) (fun X4 h4 => ?_)
  refine p_okk (h4.K (a := 18) (by decide) rfl) ?_
  refine p_sR (a := 18) (b := 19) h4 rfl (by decide) (by decide) (fun X5 h5 => ?_)
  refine p_nx h5.1 ?_
  refine p_okk (by decide) ?_
  refine p_sN (m := 12) h5 rfl rfl (fun _ => rfl) (by decide) (by decide) (fun X6 h6 => ?_)
  refine p_okk (h6.K (a := 18) (by decide) rfl) ?_
  refine p_sR (a := 18) (b := 24) h6 rfl (by decide) (by decide) (fun X7 h7 => ?_)
  refine p_nx h7.1 ?_
  refine p_okk (by decide) ?_
  refine p_sN (m := 12) h7 rfl rfl (fun _ => rfl) (by decide) (by decide) (fun X8 h8 => ?_)
  refine p_okk (h8.K (a := 18) (by decide) rfl) ?_
  refine p_sR (a := 18) (b := 25) h8 rfl (by decide) (by decide) (fun X9 h9 => ?_)
  refine p_nx h9.1 ?_
  refine p_okk (by decide) ?_
  refine p_sN (m := 12) h9 rfl rfl (fun _ => rfl) (by decide) (by decide) (fun X10 h10 => ?_)
  refine p_okk (h10.K (a := 18) (by decide) rfl) ?_
  refine p_sR (a := 18) (b := 26) h10 rfl (by decide) (by decide) (fun X11 h11 => ?_)
  refine p_nx h11.1 ?_
  refine p_okk (by decide) ?_
  refine p_sN (m := 60) h11 rfl rfl (fun _ => rfl) (by decide) (by decide) (fun X12 h12 => ?_)
  refine p_okk (h12.K (a := 18) (by decide) rfl) ?_
  refine p_sR (a := 18) (b := 27) h12 rfl (by decide) (by decide) (fun X13 h13 => ?_)
  refine p_okk (h13.K (a := 18) (by decide) rfl) ?_
  refine p_sI (a := 18) (i := 13) (v := 45) h13 rfl rfl (by decide) (fun X14 h14 => ?_)
  refine p_okk (h14.K (a := 18) (by decide) rfl) ?_
  refine p_sI (a := 18) (i := 14) (v := 45) h14 rfl rfl (by decide) (fun X15 h15 => ?_)
  exact p_end h15
theorem in_X8_29 {n : Nat} {s : Nat → Int32} {M : Mem} (h0 : STA n s 30 30 [(18, 14, 15, (45 : Int32)), (18, 13, 14, (45 : Int32)), (10, 0, 30, (-1 : Int32)), (5, 0, 8, (-1 : Int32))] M) : PG (STA n s 34 34 [(18, 14, 15, (45 : Int32)), (18, 13, 14, (45 : Int32)), (10, 0, 30, (-1 : Int32)), (5, 0, 8, (-1 : Int32))]) (d_X8_init 29 M) := by
  unfold d_X8_init
  refine p_nx h0.1 ?_
  refine p_okk (by decide) ?_
  refine p_sN (m := 549) h0 rfl rfl (fun _ => rfl) (by decide) (by decide) (fun X1 h1 => ?_)
  refine p_okk (h1.K (a := 29) (by decide) rfl) ?_
  refine p_sR (a := 29) (b := 30) h1 rfl (by decide) (by decide) (fun X2 h2 => ?_)
  refine p_nx h2.1 ?_
  refine p_okk (by decide) ?_
  refine p_sN (m := 549) h2 rfl rfl (fun _ => rfl) (by decide) (by decide) (fun X3 h3 => ?_)
  refine p_okk (h3.K (a := 29) (by decide) rfl) ?_
  refine p_sR (a := 29) (b := 31) h3 rfl (by decide) (by decide) (fun X4 h4 => ?_)
  refine p_nx h4.1 ?_
  refine p_okk (by decide) ?_
  refine p_sN (m := 549) h4 rfl rfl (fun _ => rfl) (by decide) (by decide) (fun X5 h5 => ?_)
  refine p_okk (h5.K (a := 29) (by decide) rfl) ?_
  refine p_sR (a := 29) (b := 32) h5 rfl (by decide) (by decide) (fun X6 h6 => ?_)
  refine p_nx h6.1 ?_
  refine p_okk (by decide) ?_
  refine p_sN (m := 549) h6 rfl rfl (fun _ => rfl) (by decide) (by decide) (fun X7 h7 => ?_)
  refine p_okk (h7.K (a := 29) (by decide) rfl) ?_
  refine p_sR (a := 29) (b := 33) h7 rfl (by decide) (by decide) (fun X8 h8 => ?_)
  exact p_end h8
theorem in_X3_28 {n : Nat} {s : Nat → Int32} {M : Mem} (h0 : STA n s 29 28 [(18, 14, 15, (45 : Int32)), (18, 13, 14, (45 : Int32)), (10, 0, 30, (-1 : Int32)), (5, 0, 8, (-1 : Int32))] M) : PG (STA n s 38 39 [(28, 14, 15, (45 : Int32)), (28, 13, 14, (45 : Int32)), (18, 14, 15, (45 : Int32)), (18, 13, 14, (45 : Int32)), (10, 0, 30, (-1 : Int32)), (5, 0, 8, (-1 : Int32))]) (d_X3_init 28 2 11 M) := by
  unfold d_X3_init
  refine p_okk (h0.K (a := 28) (by decide) rfl) ?_
  refine p_sR (a := 28) (b := 2) h0 rfl (by decide) (by decide) (fun X1 h1 => ?_)
  refine p_okk (h1.K (a := 28) (by decide) rfl) ?_
  refine p_sR (a := 28) (b := 11) h1 rfl (by decide) (by decide) (fun X2 h2 => ?_)
  refine p_nx h2.1 ?_
  refine p_okk (by decide) ?_
  refine p_sN (m := 4) h2 rfl rfl (fun _ => rfl) (by decide) (by decide) (fun X3 h3 => ?_)
  refine p_okk (by rw [h3.1]; decide) ?_
  refine p_okk (by decide) ?_
  refine p_call (in_X8_29 h3) (fun X4 h4 => ?_)
  refine p_okk (h4.K (a := 28) (by decide) rfl) ?_
  refine p_sR (a := 28) (b := 29) h4 rfl (by decide) (by decide) (fun X5 h5 => ?_)
  refine p_nx h5.1 ?_
  refine p_okk (by decide) ?_
  refine p_sN (m := 12) h5 rfl rfl (fun _ => rfl) (by decide) (by decide) (fun X6 h6 => ?_)
  refine p_okk (h6.K (a := 28) (by decide) rfl) ?_
  refine p_sR (a := 28) (b := 34) h6 rfl (by decide) (by decide) (fun X7 h7 => ?_)
  refine p_nx h7.1 ?_
  refine p_okk (by decide) ?_
  refine p_sN (m := 12) h7 rfl rfl (fun _ => rfl) (by decide) (by decide) (fun X8 h8 => ?_)
  refine p_okk (h8.K (a := 28) (by decide) rfl) ?_
  refine p_sR (a := 28) (b := 35) h8 rfl (by decide) (by decide) (fun X9 h9 => ?_)
  refine p_nx h9.1 ?_
  refine p_okk (by decide) ?_
  refine p_sN (m := 12) h9 rfl rfl (fun _ => rfl) (by decide) (by decide) (fun X10 h10 => ?_)
  refine p_okk (h10.K (a := 28) (by decide) rfl) ?_
  refine p_sR (a := 28) (b := 36) h10 rfl (by decide) (by decide) (fun X11 h11 => ?_)
  refine p_nx h11.1 ?_
  refine p_okk (by decide) ?_
  refine p_sN (m := 60) h11 rfl rfl (fun _ => rfl) (by decide) (by decide) (fun X12 h12 => ?_)
  refine p_okk (h12.K (a := 28) (by decide) rfl) ?_
  refine p_sR (a := 28) (b := 37) h12 rfl (by decide) (by decide) (fun X13 h13 => ?_)
  refine p_okk (h13.K (a := 28) (by decide) rfl) ?_
  refine p_sI (a := 28) (i := 13) (v := 45) h13 rfl rfl (by decide) (fun X14 h14 => ?_)
  refine p_okk (h14.K (a := 28) (by decide) rfl) ?_
  refine p_sI (a := 28) (i := 14) (v := 45) h14 rfl rfl (by decide) (fun X15 h15 => ?_)
  exact p_end h15
theorem in_X0_39 {n : Nat} {s : Nat → Int32} {M : Mem} (h0 : STA n s 40 41 [(28, 14, 15, (45 : Int32)), (28, 13, 14, (45 : Int32)), (18, 14, 15, (45 : Int32)), (18, 13, 14, (45 : Int32)), (10, 0, 30, (-1 : Int32)), (5, 0, 8, (-1 : Int32))] M) : PG (STA n s 44 45 [(28, 14, 15, (45 : Int32)), (28, 13, 14, (45 : Int32)), (18, 14, 15, (45 : Int32)), (18, 13, 14, (45 : Int32)), (10, 0, 30, (-1 : Int32)), (5, 0, 8, (-1 : Int32))]) (d_X0_init 39 M) := by
  unfold d_X0_init
  refine p_nx h0.1 ?_
  refine p_okk (by decide) ?_
  refine p_sN (m := 960) h0 rfl rfl (fun _ => rfl) (by decide) (by decide) (fun X1 h1 => ?_)
  refine p_okk (h1.K (a := 39) (by decide) rfl) ?_
  refine p_sR (a := 39) (b := 40) h1 rfl (by decide) (by decide) (fun X2 h2 => ?_)
  refine p_nx h2.1 ?_
  refine p_okk (by decide) ?_
  refine p_sN (m := 320) h2 rfl rfl (fun _ => rfl) (by decide) (by decide) (fun X3 h3 => ?_)
  refine p_okk (h3.K (a := 39) (by decide) rfl) ?_
  refine p_sR (a := 39) (b := 41) h3 rfl (by decide) (by decide) (fun X4 h4 => ?_)
  refine p_nx h4.1 ?_
  refine p_okk (by decide) ?_
  refine p_sN (m := 320) h4 rfl rfl (fun _ => rfl) (by decide) (by decide) (fun X5 h5 => ?_)
  refine p_okk (h5.K (a := 39) (by decide) rfl) ?_
  refine p_sR (a := 39) (b := 42) h5 rfl (by decide) (by decide) (fun X6 h6 => ?_)
  refine p_nx h6.1 ?_
  refine p_okk (by decide) ?_
  refine p_sN (m := 320) h6 rfl rfl (fun _ => rfl) (by decide) (by decide) (fun X7 h7 => ?_)
  refine p_okk (h7.K (a := 39) (by decide) rfl) ?_
  refine p_sR (a := 39) (b := 43) h7 rfl (by decide) (by decide) (fun X8 h8 => ?_)
  exact p_end h8
theorem in_X2_44 {n : Nat} {s : Nat → Int32} {M : Mem} (h0 : STA n s 45 46 [(28, 14, 15, (45 : Int32)), (28, 13, 14, (45 : Int32)), (18, 14, 15, (45 : Int32)), (18, 13, 14, (45 : Int32)), (10, 0, 30, (-1 : Int32)), (5, 0, 8, (-1 : Int32))] M) : PG (STA n s 48 49 [(47, 0, 320, (-1 : Int32)), (28, 14, 15, (45 : Int32)), (28, 13, 14, (45 : Int32)), (18, 14, 15, (45 : Int32)), (18, 13, 14, (45 : Int32)), (10, 0, 30, (-1 : Int32)), (5, 0, 8, (-1 : Int32))]) (d_X2_init 44 M) := by
  unfold d_X2_init
  refine p_nx h0.1 ?_
  refine p_okk (by decide) ?_
  refine p_sN (m := 320) h0 rfl rfl (fun _ => rfl) (by decide) (by decide) (fun X1 h1 => ?_)
  refine p_okk (h1.K (a := 44) (by decide) rfl) ?_
  refine p_sR (a := 44) (b := 45) h1 rfl (by decide) (by decide) (fun X2 h2 => ?_)
  refine p_nx h2.1 ?_
  refine p_okk (by decide) ?_
  refine p_sN (m := 320) h2 rfl rfl (fun _ => rfl) (by decide) (by decide) (fun X3 h3 => ?_)
  refine p_okk (h3.K (a := 44) (by decide) rfl) ?_
  refine p_sR (a := 44) (b := 46) h3 rfl (by decide) (by decide) (fun X4 h4 => ?_)
  refine p_nx h4.1 ?_
  refine p_okk (by decide) ?_
  refine p_sN (m := 320) h4 rfl rfl (fun _ => rfl) (by decide) (by decide) (fun X5 h5 => ?_)
  refine p_okk (h5.K (a := 44) (by decide) rfl) ?_
  refine p_sR (a := 44) (b := 47) h5 rfl (by decide) (by decide) (fun X6 h6 => ?_)
  refine p_okk (h6.K (a := 44) (by decide) rfl) ?_
  refine p_mR (m := 48) (b := 47) h6 (by decide) rfl ?_
  refine p_fill (a := 47) (m := 320) h6 rfl (by decide) (by decide) (fun X7 h7 => ?_)
  exact p_end h7
theorem in_X6_48 {n : Nat} {s : Nat → Int32} {M : Mem} (h0 : STA n s 49 50 [(47, 0, 320, (-1 : Int32)), (28, 14, 15, (45 : Int32)), (28, 13, 14, (45 : Int32)), (18, 14, 15, (45 : Int32)), (18, 13, 14, (45 : Int32)), (10, 0, 30, (-1 : Int32)), (5, 0, 8, (-1 : Int32))] M) : PG (STA n s 56 57 [(47, 0, 320, (-1 : Int32)), (28, 14, 15, (45 : Int32)), (28, 13, 14, (45 : Int32)), (18, 14, 15, (45 : Int32)), (18, 13, 14, (45 : Int32)), (10, 0, 30, (-1 : Int32)), (5, 0, 8, (-1 : Int32))]) (d_X6_init 48 M) := by
  unfold d_X6_init
  refine p_nx h0.1 ?_
  refine p_okk (by decide) ?_
  refine p_sN (m := 30) h0 rfl rfl (fun _ => rfl) (by decide) (by decide) (fun X1 h1 => ?_)
  refine p_okk (h1.K (a := 48) (by decide) rfl) ?_
  refine p_sR (a := 48) (b := 49) h1 rfl (by decide) (by decide) (fun X2 h2 => ?_)
  refine p_nx h2.1 ?_
  refine p_okk (by decide) ?_
  refine p_sN (m := 31) h2 rfl rfl (fun _ => rfl) (by decide) (by decide) (fun X3 h3 => ?_)
  refine p_okk (h3.K (a := 48) (by decide) rfl) ?_
  refine p_sR (a := 48) (b := 50) h3 rfl (by decide) (by decide) (fun X4 h4 => ?_)
  refine p_nx h4.1 ?_
  refine p_okk (by decide) ?_
  refine p_sN (m := 120) h4 rfl rfl (fun _ => rfl) (by decide) (by decide) (fun X5 h5 => ?_)
  refine p_okk (h5.K (a := 48) (by decide) rfl) ?_
  refine p_sR (a := 48) (b := 51) h5 rfl (by decide) (by decide) (fun X6 h6 => ?_)
  refine p_nx h6.1 ?_
  refine p_okk (by decide) ?_
  refine p_sN (m := 120) h6 rfl rfl (fun _ => rfl) (by decide) (by decide) (fun X7 h7 => ?_)
  refine p_okk (h7.K (a := 48) (by decide) rfl) ?_
  refine p_sR (a := 48) (b := 52) h7 rfl (by decide) (by decide) (fun X8 h8 => ?_)
  refine p_nx h8.1 ?_
  refine p_okk (by decide) ?_
  refine p_sN (m := 120) h8 rfl rfl (fun _ => rfl) (by decide) (by decide) (fun X9 h9 => ?_)
  refine p_okk (h9.K (a := 48) (by decide) rfl) ?_
  refine p_sR (a := 48) (b := 53) h9 rfl (by decide) (by decide) (fun X10 h10 => ?_)
  refine p_nx h10.1 ?_
  refine p_okk (by decide) ?_
  refine p_sN (m := 120) h10 rfl rfl (fun _ => rfl) (by decide) (by decide) (fun X11 h11 => ?_)
  refine p_okk (h11.K (a := 48) (by decide) rfl) ?_
  refine p_sR (a := 48) (b := 54) h11 rfl (by decide) (by decide) (fun X12 h12 => ?_)
  refine p_nx h12.1 ?_
  refine p_okk (by decide) ?_
  refine p_sN (m := 378) h12 rfl rfl (fun _ => rfl) (by decide) (by decide) (fun X13 h13 => ?_)
  refine p_okk (h13.K (a := 48) (by decide) rfl) ?_
  refine p_sR (a := 48) (b := 55) h13 rfl (by decide) (by decide) (fun X14 h14 => ?_)
  exact p_end h14
theorem in_X9_56 {n : Nat} {s : Nat → Int32} {M : Mem} (h0 : STA n s 57 58 [(47, 0, 320, (-1 : Int32)), (28, 14, 15, (45 : Int32)), (28, 13, 14, (45 : Int32)), (18, 14, 15, (45 : Int32)), (18, 13, 14, (45 : Int32)), (10, 0, 30, (-1 : Int32)), (5, 0, 8, (-1 : Int32))] M) : PG (STA n s 67 68 [(56, 14, 15, (1 : Int32)), (56, 13, 14, (0 : Int32)), (56, 12, 13, (-1 : Int32)), (58, 0, 1, (0 : Int32)), (56, 1, 2, (0 : Int32)), (56, 0, 1, (0 : Int32)), (47, 0, 320, (-1 : Int32)), (28, 14, 15, (45 : Int32)), (28, 13, 14, (45 : Int32)), (18, 14, 15, (45 : Int32)), (18, 13, 14, (45 : Int32)), (10, 0, 30, (-1 : Int32)), (5, 0, 8, (-1 : Int32))]) (d_X9_init 56 48 (-1 : Int32) M) := by
  unfold d_X9_init
  refine p_okk (h0.K (a := 48) (by decide) rfl) ?_
  refine p_okk (h0.K (a := 56) (by decide) rfl) ?_
  refine p_sI (a := 56) (i := 0) (v := 0) h0 rfl (by rw [(show mI _ 48 7 = (0 : Int32) from (h0.I (by decide) (by decide)).trans rfl)]) (by decide) (fun X1 h1 => ?_)
  refine p_okk (h1.K (a := 48) (by decide) rfl) ?_
  refine p_okk (h1.K (a := 56) (by decide) rfl) ?_
  refine p_sI (a := 56) (i := 1) (v := 0) h1 rfl (by rw [(show mI _ 48 8 = (0 : Int32) from (h1.I (by decide) (by decide)).trans rfl)]) (by decide) (fun X2 h2 => ?_)
  refine p_okk (h2.K (a := 48) (by decide) rfl) ?_
  refine p_mR (m := 50) (b := 49) h2 (by decide) rfl ?_
  refine p_okk (h2.K (a := 56) (by decide) rfl) ?_
  refine p_copy (a := 49) (m := 0) (ln := 30) h2 (by rw [(show mI _ 56 0 = (0 : Int32) from (h2.I (by decide) (by decide)).trans rfl)] <;> rfl) rfl (by decide) (by decide) rfl (fun _ => rfl) (by decide) (by decide) (fun X3 h3 => ?_)
  refine p_okk (h3.K (a := 56) (by decide) rfl) ?_
  refine p_sR (a := 56) (b := 57) h3 rfl (by decide) (by decide) (fun X4 h4 => ?_)
  refine p_okk (h4.K (a := 48) (by decide) rfl) ?_
  refine p_mR (m := 51) (b := 50) h4 (by decide) rfl ?_
  refine p_okk (h4.K (a := 56) (by decide) rfl) ?_
  refine p_copy (a := 50) (m := 1) (ln := 31) h4 (by rw [(show mI _ 56 0 = (0 : Int32) from (h4.I (by decide) (by decide)).trans rfl)] <;> rfl) rfl (by decide) (by decide) rfl (fun _ => rfl) (by decide) (by decide) (fun X5 h5 => ?_)
  refine p_okk (h5.K (a := 56) (by decide) rfl) ?_
  refine p_sR (a := 56) (b := 58) h5 rfl (by decide) (by decide) (fun X6 h6 => ?_)
  refine p_okk (h6.K (a := 56) (by decide) rfl) ?_
  refine p_mR (m := 59) (b := 58) h6 (by decide) rfl ?_
  refine p_okk (h6.K (a := 56) (by decide) rfl) ?_
  refine p_okk (h6.K (a := 56) (by decide) rfl) ?_
  refine p_okk (h6.K (a := 58) (by decide) rfl) ?_
  refine p_okk (by rw [(show mI _ 56 0 = (0 : Int32) from (h6.I (by decide) (by decide)).trans rfl), (show mN _ 58 = 1 from (h6.N (a := 58) (by decide)).trans rfl)]; show ¬ (_ < _ ∨ _ ≤ _); decide) ?_
  refine p_sI (a := 58) (i := 0) (v := 0) h6 (by rw [(show mI _ 56 0 = (0 : Int32) from (h6.I (by decide) (by decide)).trans rfl)] <;> rfl) (by rw [(show mI _ 56 1 = (0 : Int32) from (h6.I (by decide) (by decide)).trans rfl)]) (by decide) (fun X7 h7 => ?_)
  refine p_okk (h7.K (a := 48) (by decide) rfl) ?_
  refine p_mR (m := 52) (b := 51) h7 (by decide) rfl ?_
  refine p_okk (h7.K (a := 56) (by decide) rfl) ?_
  refine p_copy (a := 51) (m := 0) (ln := 120) h7 (by rw [(show mI _ 56 1 = (0 : Int32) from (h7.I (by decide) (by decide)).trans rfl)] <;> rfl) rfl (by decide) (by decide) rfl (fun _ => rfl) (by decide) (by decide) (fun X8 h8 => ?_)
  refine p_okk (h8.K (a := 56) (by decide) rfl) ?_
  refine p_sR (a := 56) (b := 59) h8 rfl (by decide) (by decide) (fun X9 h9 => ?_)
  refine p_okk (h9.K (a := 48) (by decide) rfl) ?_
  refine p_mR (m := 53) (b := 52) h9 (by decide) rfl ?_
  refine p_okk (h9.K (a := 56) (by decide) rfl) ?_
  refine p_copy (a := 52) (m := 0) (ln := 120) h9 (by rw [(show mI _ 56 1 = (0 : Int32) from (h9.I (by decide) (by decide)).trans rfl)] <;> rfl) rfl (by decide) (by decide) rfl (fun _ => rfl) (by decide) (by decide) (fun X10 h10 => ?_)
  refine p_okk (h10.K (a := 56) (by decide) rfl) ?_
  refine p_sR (a := 56) (b := 60) h10 rfl (by decide) (by decide) (fun X11 h11 => ?_)
  refine p_okk (h11.K (a := 48) (by decide) rfl) ?_
  refine p_mR (m := 54) (b := 53) h11 (by decide) rfl ?_
  refine p_okk (h11.K (a := 56) (by decide) rfl) ?_
  refine p_copy (a := 53) (m := 0) (ln := 120) h11 (by rw [(show mI _ 56 1 = (0 : Int32) from (h11.I (by decide) (by decide)).trans rfl)] <;> rfl) rfl (by decide) (by decide) rfl (fun _ => rfl) (by decide) (by decide) (fun X12 h12 => ?_)
  refine p_okk (h12.K (a := 56) (by decide) rfl) ?_
  refine p_sR (a := 56) (b := 61) h12 rfl (by decide) (by decide) (fun X13 h13 => ?_)
  refine p_okk (h13.K (a := 48) (by decide) rfl) ?_
  refine p_mR (m := 55) (b := 54) h13 (by decide) rfl ?_
  refine p_okk (h13.K (a := 56) (by decide) rfl) ?_
  refine p_copy (a := 54) (m := 0) (ln := 120) h13 (by rw [(show mI _ 56 1 = (0 : Int32) from (h13.I (by decide) (by decide)).trans rfl)] <;> rfl) rfl (by decide) (by decide) rfl (fun _ => rfl) (by decide) (by decide) (fun X14 h14 => ?_)
  refine p_okk (h14.K (a := 56) (by decide) rfl) ?_
  refine p_sR (a := 56) (b := 62) h14 rfl (by decide) (by decide) (fun X15 h15 => ?_)
  refine p_okk (h15.K (a := 56) (by decide) rfl) ?_
  refine p_nx h15.1 ?_
  refine p_okk (by decide) ?_
  refine p_okk (by rw [(show mI _ 56 1 = (0 : Int32) from (h15.I (by decide) (by decide)).trans rfl)]; decide) ?_
  refine p_sN (m := 0) h15 (by rw [(show mI _ 56 1 = (0 : Int32) from (h15.I (by decide) (by decide)).trans rfl)] <;> rfl) rfl (fun _ => rfl) (by decide) (by decide) (fun X16 h16 => ?_)
  refine p_okk (h16.K (a := 56) (by decide) rfl) ?_
  refine p_sR (a := 56) (b := 63) h16 rfl (by decide) (by decide) (fun X17 h17 => ?_)
  refine p_okk (h17.K (a := 56) (by decide) rfl) ?_
  refine p_nx h17.1 ?_
  refine p_okk (by decide) ?_
  refine p_okk (by rw [(show mI _ 56 1 = (0 : Int32) from (h17.I (by decide) (by decide)).trans rfl)]; decide) ?_
  refine p_sN (m := 0) h17 (by rw [(show mI _ 56 1 = (0 : Int32) from (h17.I (by decide) (by decide)).trans rfl)] <;> rfl) rfl (fun _ => rfl) (by decide) (by decide) (fun X18 h18 => ?_)
  refine p_okk (h18.K (a := 56) (by decide) rfl) ?_
  refine p_sR (a := 56) (b := 64) h18 rfl (by decide) (by decide) (fun X19 h19 => ?_)
  refine p_okk (h19.K (a := 56) (by decide) rfl) ?_
  refine p_nx h19.1 ?_
  refine p_okk (by decide) ?_
  refine p_okk (by rw [(show mI _ 56 1 = (0 : Int32) from (h19.I (by decide) (by decide)).trans rfl)]; decide) ?_
  refine p_sN (m := 0) h19 (by rw [(show mI _ 56 1 = (0 : Int32) from (h19.I (by decide) (by decide)).trans rfl)] <;> rfl) rfl (fun _ => rfl) (by decide) (by decide) (fun X20 h20 => ?_)
  refine p_okk (h20.K (a := 56) (by decide) rfl) ?_
  refine p_sR (a := 56) (b := 65) h20 rfl (by decide) (by decide) (fun X21 h21 => ?_)
  refine p_okk (h21.K (a := 56) (by decide) rfl) ?_
  refine p_nx h21.1 ?_
  refine p_okk (by decide) ?_
  refine p_okk (by rw [(show mI _ 56 1 = (0 : Int32) from (h21.I (by decide) (by decide)).trans rfl)]; decide) ?_
  refine p_sN (m := 0) h21 (by rw [(show mI _ 56 1 = (0 : Int32) from (h21.I (by decide) (by decide)).trans rfl)] <;> rfl) rfl (fun _ => rfl) (by decide) (by decide) (fun X22 h22 => ?_)
  refine p_okk (h22.K (a := 56) (by decide) rfl) ?_
  refine p_sR (a := 56) (b := 66) h22 rfl (by decide) (by decide) (fun X23 h23 => ?_)
  refine p_okk (h23.K (a := 56) (by decide) rfl) ?_
  refine p_mR (m := 67) (b := 66) h23 (by decide) rfl ?_
  refine p_fill0 (a := 66) h23 rfl (by decide) (by decide) (fun X24 h24 => ?_)
  refine p_okk (h24.K (a := 56) (by decide) rfl) ?_
  refine p_sI (a := 56) (i := 12) (v := -1) h24 rfl rfl (by decide) (fun X25 h25 => ?_)
  refine p_okk (h25.K (a := 48) (by decide) rfl) ?_
  refine p_okk (h25.K (a := 56) (by decide) rfl) ?_
  refine p_sI (a := 56) (i := 13) (v := 0) h25 rfl (by rw [(show mI _ 48 11 = (0 : Int32) from (h25.I (by decide) (by decide)).trans rfl)]) (by decide) (fun X26 h26 => ?_)
  refine p_okk (h26.K (a := 56) (by decide) rfl) ?_
  refine p_sI (a := 56) (i := 14) (v := 1) h26 rfl rfl (by decide) (fun X27 h27 => ?_)
  exact p_end h27
theorem in_X1_67 {n : Nat} {s : Nat → Int32} {M : Mem} (h0 : STA n s 68 69 [(56, 14, 15, (1 : Int32)), (56, 13, 14, (0 : Int32)), (56, 12, 13, (-1 : Int32)), (58, 0, 1, (0 : Int32)), (56, 1, 2, (0 : Int32)), (56, 0, 1, (0 : Int32)), (47, 0, 320, (-1 : Int32)), (28, 14, 15, (45 : Int32)), (28, 13, 14, (45 : Int32)), (18, 14, 15, (45 : Int32)), (18, 13, 14, (45 : Int32)), (10, 0, 30, (-1 : Int32)), (5, 0, 8, (-1 : Int32))] M) : PG (STA n s 69 72 [(67, 4, 5, (80 : Int32)), (56, 14, 15, (1 : Int32)), (56, 13, 14, (0 : Int32)), (56, 12, 13, (-1 : Int32)), (58, 0, 1, (0 : Int32)), (56, 1, 2, (0 : Int32)), (56, 0, 1, (0 : Int32)), (47, 0, 320, (-1 : Int32)), (28, 14, 15, (45 : Int32)), (28, 13, 14, (45 : Int32)), (18, 14, 15, (45 : Int32)), (18, 13, 14, (45 : Int32)), (10, 0, 30, (-1 : Int32)), (5, 0, 8, (-1 : Int32))]) (d_X1_init 67 2 44 56 M) := by
  unfold d_X1_init
  refine p_okk (h0.K (a := 67) (by decide) rfl) ?_
  refine p_sR (a := 67) (b := 2) h0 rfl (by decide) (by decide) (fun X1 h1 => ?_)
  refine p_okk (h1.K (a := 67) (by decide) rfl) ?_
  refine p_sR (a := 67) (b := 44) h1 rfl (by decide) (by decide) (fun X2 h2 => ?_)
  refine p_nx h2.1 ?_
  refine p_okk (by decide) ?_
  refine p_sN (m := 20) h2 rfl rfl (fun _ => rfl) (by decide) (by decide) (fun X3 h3 => ?_)
  refine p_okk (h3.K (a := 67) (by decide) rfl) ?_
  refine p_sR (a := 67) (b := 68) h3 rfl (by decide) (by decide) (fun X4 h4 => ?_)
  exact p_all h4
theorem in_X10_38 {n : Nat} {s : Nat → Int32} {M : Mem} (h0 : STA n s 39 40 [(28, 14, 15, (45 : Int32)), (28, 13, 14, (45 : Int32)), (18, 14, 15, (45 : Int32)), (18, 13, 14, (45 : Int32)), (10, 0, 30, (-1 : Int32)), (5, 0, 8, (-1 : Int32))] M) : PG (STA n s 69 73 [(38, 6, 7, (2 : Int32)), (38, 5, 6, (3 : Int32)), (67, 4, 5, (80 : Int32)), (56, 14, 15, (1 : Int32)), (56, 13, 14, (0 : Int32)), (56, 12, 13, (-1 : Int32)), (58, 0, 1, (0 : Int32)), (56, 1, 2, (0 : Int32)), (56, 0, 1, (0 : Int32)), (47, 0, 320, (-1 : Int32)), (28, 14, 15, (45 : Int32)), (28, 13, 14, (45 : Int32)), (18, 14, 15, (45 : Int32)), (18, 13, 14, (45 : Int32)), (10, 0, 30, (-1 : Int32)), (5, 0, 8, (-1 : Int32))]) (d_X10_init 38 2 18 M) := by
  unfold d_X10_init
  refine p_okk (h0.K (a := 38) (by decide) rfl) ?_
  refine p_sR (a := 38) (b := 18) h0 rfl (by decide) (by decide) (fun X1 h1 => ?_)
  refine p_nx h1.1 ?_
  refine p_okk (by decide) ?_
  refine p_sN (m := 4) h1 rfl rfl (fun _ => rfl) (by decide) (by decide) (fun X2 h2 => ?_)
  refine p_okk (by rw [h2.1]; decide) ?_
  refine p_okk (by decide) ?_
  refine p_call (in_X0_39 h2) (fun X3 h3 => ?_)
  refine p_okk (h3.K (a := 38) (by decide) rfl) ?_
  refine p_sR (a := 38) (b := 39) h3 rfl (by decide) (by decide) (fun X4 h4 => ?_)
  refine p_nx h4.1 ?_
  refine p_okk (by decide) ?_
  refine p_sN (m := 3) h4 rfl rfl (fun _ => rfl) (by decide) (by decide) (fun X5 h5 => ?_)
  refine p_okk (by rw [h5.1]; decide) ?_
  refine p_okk (by decide) ?_
  refine p_call (in_X2_44 h5) (fun X6 h6 => ?_)
  refine p_okk (h6.K (a := 38) (by decide) rfl) ?_
  refine p_sR (a := 38) (b := 44) h6 rfl (by decide) (by decide) (fun X7 h7 => ?_)
  refine p_nx h7.1 ?_
  refine p_okk (by decide) ?_
  refine p_sN (m := 16) h7 rfl rfl (fun _ => rfl) (by decide) (by decide) (fun X8 h8 => ?_)
  refine p_okk (by rw [h8.1]; decide) ?_
  refine p_okk (by decide) ?_
  refine p_call (in_X6_48 h8) (fun X9 h9 => ?_)
  refine p_okk (h9.K (a := 38) (by decide) rfl) ?_
  refine p_sR (a := 38) (b := 48) h9 rfl (by decide) (by decide) (fun X10 h10 => ?_)
  refine p_nx h10.1 ?_
  refine p_okk (by decide) ?_
  refine p_sN (m := 17) h10 rfl rfl (fun _ => rfl) (by decide) (by decide) (fun X11 h11 => ?_)
  refine p_okk (h11.K (a := 38) (by decide) rfl) ?_
  refine p_mR (m := 57) (b := 48) h11 (by decide) rfl ?_
  refine p_okk (by rw [h11.1]; decide) ?_
  refine p_okk (by decide) ?_
  refine p_call (in_X9_56 h11) (fun X12 h12 => ?_)
  refine p_okk (h12.K (a := 38) (by decide) rfl) ?_
  refine p_sR (a := 38) (b := 56) h12 rfl (by decide) (by decide) (fun X13 h13 => ?_)
  refine p_nx h13.1 ?_
  refine p_okk (by decide) ?_
  refine p_sN (m := 6) h13 rfl rfl (fun _ => rfl) (by decide) (by decide) (fun X14 h14 => ?_)
  refine p_okk (h14.K (a := 38) (by decide) rfl) ?_
  refine p_mR (m := 49) (b := 44) h14 (by decide) rfl ?_
  refine p_okk (h14.K (a := 38) (by decide) rfl) ?_
  refine p_mR (m := 68) (b := 56) h14 (by decide) rfl ?_
  refine p_okk (by rw [h14.1]; decide) ?_
  refine p_okk (by decide) ?_
  refine p_call (in_X1_67 h14) (fun X15 h15 => ?_)
  refine p_okk (h15.K (a := 38) (by decide) rfl) ?_
  refine p_sR (a := 38) (b := 67) h15 rfl (by decide) (by decide) (fun X16 h16 => ?_)
  refine p_okk (h16.K (a := 38) (by decide) rfl) ?_
  refine p_sI (a := 38) (i := 5) (v := 3) h16 rfl rfl (by decide) (fun X17 h17 => ?_)
  refine p_okk (h17.K (a := 38) (by decide) rfl) ?_
  refine p_sI (a := 38) (i := 6) (v := 2) h17 rfl rfl (by decide) (fun X18 h18 => ?_)
  exact p_end h18
theorem in_X11_1 {n : Nat} {s : Nat → Int32} {M : Mem} (h0 : STA n s 2 0 [] M) : PG (STA n s 69 74 [(1, 5, 6, (1 : Int32)), (38, 6, 7, (2 : Int32)), (38, 5, 6, (3 : Int32)), (67, 4, 5, (80 : Int32)), (56, 14, 15, (1 : Int32)), (56, 13, 14, (0 : Int32)), (56, 12, 13, (-1 : Int32)), (58, 0, 1, (0 : Int32)), (56, 1, 2, (0 : Int32)), (56, 0, 1, (0 : Int32)), (47, 0, 320, (-1 : Int32)), (28, 14, 15, (45 : Int32)), (28, 13, 14, (45 : Int32)), (18, 14, 15, (45 : Int32)), (18, 13, 14, (45 : Int32)), (10, 0, 30, (-1 : Int32)), (5, 0, 8, (-1 : Int32))]) (d_X11_init 1 M) := by
  unfold d_X11_init
  refine p_nx h0.1 ?_
  refine p_okk (by decide) ?_
  refine p_sN (m := 10) h0 rfl rfl (fun _ => rfl) (by decide) (by decide) (fun X1 h1 => ?_)
  refine p_okk (by rw [h1.1]; decide) ?_
  refine p_okk (by decide) ?_
  refine p_call (in_X5_2 h1) (fun X2 h2 => ?_)
  refine p_okk (h2.K (a := 1) (by decide) rfl) ?_
  refine p_sR (a := 1) (b := 2) h2 rfl (by decide) (by decide) (fun X3 h3 => ?_)
  refine p_nx h3.1 ?_
  refine p_okk (by decide) ?_
  refine p_sN (m := 7) h3 rfl rfl (fun _ => rfl) (by decide) (by decide) (fun X4 h4 => ?_)
  refine p_okk (by rw [h4.1]; decide) ?_
  refine p_okk (by decide) ?_
  refine p_call (in_X7_11 h4) (fun X5 h5 => ?_)
  refine p_okk (h5.K (a := 1) (by decide) rfl) ?_
  refine p_sR (a := 1) (b := 11) h5 rfl (by decide) (by decide) (fun X6 h6 => ?_)
  refine p_nx h6.1 ?_
  refine p_okk (by decide) ?_
  refine p_sN (m := 16) h6 rfl rfl (fun _ => rfl) (by decide) (by decide) (fun X7 h7 => ?_)
  refine p_okk (h7.K (a := 1) (by decide) rfl) ?_
  refine p_mR (m := 8) (b := 2) h7 (by decide) rfl ?_
  refine p_okk (h7.K (a := 1) (by decide) rfl) ?_
  refine p_mR (m := 15) (b := 11) h7 (by decide) rfl ?_
  refine p_okk (by rw [h7.1]; decide) ?_
  refine p_okk (by decide) ?_
  refine p_call (in_X3_18 h7) (fun X8 h8 => ?_)
  refine p_okk (h8.K (a := 1) (by decide) rfl) ?_
  refine p_sR (a := 1) (b := 18) h8 rfl (by decide) (by decide) (fun X9 h9 => ?_)
  refine p_nx h9.1 ?_
  refine p_okk (by decide) ?_
  refine p_sN (m := 16) h9 rfl rfl (fun _ => rfl) (by decide) (by decide) (fun X10 h10 => ?_)
  refine p_okk (h10.K (a := 1) (by decide) rfl) ?_
  refine p_mR (m := 8) (b := 2) h10 (by decide) rfl ?_
  refine p_okk (h10.K (a := 1) (by decide) rfl) ?_
  refine p_mR (m := 15) (b := 11) h10 (by decide) rfl ?_
  refine p_okk (by rw [h10.1]; decide) ?_
  refine p_okk (by decide) ?_
  refine p_call (in_X3_28 h10) (fun X11 h11 => ?_)
  refine p_okk (h11.K (a := 1) (by decide) rfl) ?_
  refine p_sR (a := 1) (b := 28) h11 rfl (by decide) (by decide) (fun X12 h12 => ?_)
  refine p_nx h12.1 ?_
  refine p_okk (by decide) ?_
  refine p_sN (m := 13) h12 rfl rfl (fun _ => rfl) (by decide) (by decide) (fun X13 h13 => ?_)
  refine p_okk (h13.K (a := 1) (by decide) rfl) ?_
  refine p_mR (m := 8) (b := 2) h13 (by decide) rfl ?_
  refine p_okk (h13.K (a := 1) (by decide) rfl) ?_
  refine p_mR (m := 27) (b := 18) h13 (by decide) rfl ?_
  refine p_okk (by rw [h13.1]; decide) ?_
  refine p_okk (by decide) ?_
  refine p_call (in_X10_38 h13) (fun X14 h14 => ?_)
  refine p_okk (h14.K (a := 1) (by decide) rfl) ?_
  refine p_sR (a := 1) (b := 38) h14 rfl (by decide) (by decide) (fun X15 h15 => ?_)
  refine p_okk (h15.K (a := 1) (by decide) rfl) ?_
  refine p_sI (a := 1) (i := 5) (v := 1) h15 rfl rfl (by decide) (fun X16 h16 => ?_)
  exact p_end h16
theorem in_X12_69 {n : Nat} {s : Nat → Int32} {M : Mem} (h0 : STA n s 70 74 [(1, 5, 6, (1 : Int32)), (38, 6, 7, (2 : Int32)), (38, 5, 6, (3 : Int32)), (67, 4, 5, (80 : Int32)), (56, 14, 15, (1 : Int32)), (56, 13, 14, (0 : Int32)), (56, 12, 13, (-1 : Int32)), (58, 0, 1, (0 : Int32)), (56, 1, 2, (0 : Int32)), (56, 0, 1, (0 : Int32)), (47, 0, 320, (-1 : Int32)), (28, 14, 15, (45 : Int32)), (28, 13, 14, (45 : Int32)), (18, 14, 15, (45 : Int32)), (18, 13, 14, (45 : Int32)), (10, 0, 30, (-1 : Int32)), (5, 0, 8, (-1 : Int32))] M) : PG (STA n s 127 131 [(74, 0, 8, (-1 : Int32)), (82, 0, 360, (-1 : Int32)), (77, 0, 30, (-1 : Int32)), (69, 68, 69, (-1 : Int32)), (69, 62, 63, (45 : Int32)), (69, 25, 26, (80 : Int32)), (69, 24, 25, (2 : Int32)), (69, 23, 24, (3 : Int32)), (1, 5, 6, (1 : Int32)), (38, 6, 7, (2 : Int32)), (38, 5, 6, (3 : Int32)), (67, 4, 5, (80 : Int32)), (56, 14, 15, (1 : Int32)), (56, 13, 14, (0 : Int32)), (56, 12, 13, (-1 : Int32)), (58, 0, 1, (0 : Int32)), (56, 1, 2, (0 : Int32)), (56, 0, 1, (0 : Int32)), (47, 0, 320, (-1 : Int32)), (28, 14, 15, (45 : Int32)), (28, 13, 14, (45 : Int32)), (18, 14, 15, (45 : Int32)), (18, 13, 14, (45 : Int32)), (10, 0, 30, (-1 : Int32)), (5, 0, 8, (-1 : Int32))]) (d_X12_init 69 M) := by
  unfold d_X12_init
  refine p_nx h0.1 ?_
  refine p_okk (by decide) ?_
  refine p_sN (m := 8) h0 rfl rfl (fun _ => rfl) (by decide) (by decide) (fun X1 h1 => ?_)
  refine p_okk (h1.K (a := 69) (by decide) rfl) ?_
  refine p_sR (a := 69) (b := 70) h1 rfl (by decide) (by decide) (fun X2 h2 => ?_)
  refine p_nx h2.1 ?_
  refine p_okk (by decide) ?_
  refine p_sN (m := 8) h2 rfl rfl (fun _ => rfl) (by decide) (by decide) (fun X3 h3 => ?_)
  refine p_okk (h3.K (a := 69) (by decide) rfl) ?_
  refine p_sR (a := 69) (b := 71) h3 rfl (by decide) (by decide) (fun X4 h4 => ?_)
  refine p_nx h4.1 ?_
  refine p_okk (by decide) ?_
  refine p_sN (m := 320) h4 rfl rfl (fun _ => rfl) (by decide) (by decide) (fun X5 h5 => ?_)
  refine p_okk (h5.K (a := 69) (by decide) rfl) ?_
  refine p_sR (a := 69) (b := 72) h5 rfl (by decide) (by decide) (fun X6 h6 => ?_)
  refine p_nx h6.1 ?_
  refine p_okk (by decide) ?_
  refine p_sN (m := 320) h6 rfl rfl (fun _ => rfl) (by decide) (by decide) (fun X7 h7 => ?_)
  refine p_okk (h7.K (a := 69) (by decide) rfl) ?_
  refine p_sR (a := 69) (b := 73) h7 rfl (by decide) (by decide) (fun X8 h8 => ?_)
  refine p_nx h8.1 ?_
  refine p_okk (by decide) ?_
  refine p_sN (m := 8) h8 rfl rfl (fun _ => rfl) (by decide) (by decide) (fun X9 h9 => ?_)
  refine p_okk (h9.K (a := 69) (by decide) rfl) ?_
  refine p_sR (a := 69) (b := 74) h9 rfl (by decide) (by decide) (fun X10 h10 => ?_)
  refine p_nx h10.1 ?_
  refine p_okk (by decide) ?_
  refine p_sN (m := 8) h10 rfl rfl (fun _ => rfl) (by decide) (by decide) (fun X11 h11 => ?_)
  refine p_okk (h11.K (a := 69) (by decide) rfl) ?_
  refine p_sR (a := 69) (b := 75) h11 rfl (by decide) (by decide) (fun X12 h12 => ?_)
  refine p_nx h12.1 ?_
  refine p_okk (by decide) ?_
  refine p_sN (m := 5) h12 rfl rfl (fun _ => rfl) (by decide) (by decide) (fun X13 h13 => ?_)
  refine p_okk (h13.K (a := 69) (by decide) rfl) ?_
  refine p_sR (a := 69) (b := 76) h13 rfl (by decide) (by decide) (fun X14 h14 => ?_)
  refine p_nx h14.1 ?_
  refine p_okk (by decide) ?_
  refine p_sN (m := 30) h14 rfl rfl (fun _ => rfl) (by decide) (by decide) (fun X15 h15 => ?_)
  refine p_okk (h15.K (a := 69) (by decide) rfl) ?_
  refine p_sR (a := 69) (b := 77) h15 rfl (by decide) (by decide) (fun X16 h16 => ?_)
  refine p_nx h16.1 ?_
  refine p_okk (by decide) ?_
  refine p_sN (m := 5) h16 rfl rfl (fun _ => rfl) (by decide) (by decide) (fun X17 h17 => ?_)
  refine p_okk (h17.K (a := 69) (by decide) rfl) ?_
  refine p_sR (a := 69) (b := 78) h17 rfl (by decide) (by decide) (fun X18 h18 => ?_)
  refine p_nx h18.1 ?_
  refine p_okk (by decide) ?_
  refine p_sN (m := 60) h18 rfl rfl (fun _ => rfl) (by decide) (by decide) (fun X19 h19 => ?_)
  refine p_okk (h19.K (a := 69) (by decide) rfl) ?_
  refine p_sR (a := 69) (b := 79) h19 rfl (by decide) (by decide) (fun X20 h20 => ?_)
  refine p_nx h20.1 ?_
  refine p_okk (by decide) ?_
  refine p_sN (m := 60) h20 rfl rfl (fun _ => rfl) (by decide) (by decide) (fun X21 h21 => ?_)
  refine p_okk (h21.K (a := 69) (by decide) rfl) ?_
  refine p_sR (a := 69) (b := 80) h21 rfl (by decide) (by decide) (fun X22 h22 => ?_)
  refine p_nx h22.1 ?_
  refine p_okk (by decide) ?_
  refine p_sN (m := 360) h22 rfl rfl (fun _ => rfl) (by decide) (by decide) (fun X23 h23 => ?_)
  refine p_okk (h23.K (a := 69) (by decide) rfl) ?_
  refine p_sR (a := 69) (b := 81) h23 rfl (by decide) (by decide) (fun X24 h24 => ?_)
  refine p_nx h24.1 ?_
  refine p_okk (by decide) ?_
  refine p_sN (m := 360) h24 rfl rfl (fun _ => rfl) (by decide) (by decide) (fun X25 h25 => ?_)
  refine p_okk (h25.K (a := 69) (by decide) rfl) ?_
  refine p_sR (a := 69) (b := 82) h25 rfl (by decide) (by decide) (fun X26 h26 => ?_)
  refine p_nx h26.1 ?_
  refine p_okk (by decide) ?_
  refine p_sN (m := 320) h26 rfl rfl (fun _ => rfl) (by decide) (by decide) (fun X27 h27 => ?_)
  refine p_okk (h27.K (a := 69) (by decide) rfl) ?_
  refine p_sR (a := 69) (b := 83) h27 rfl (by decide) (by decide) (fun X28 h28 => ?_)
  refine p_nx h28.1 ?_
  refine p_okk (by decide) ?_
  refine p_sN (m := 960) h28 rfl rfl (fun _ => rfl) (by decide) (by decide) (fun X29 h29 => ?_)
  refine p_okk (h29.K (a := 69) (by decide) rfl) ?_
  refine p_sR (a := 69) (b := 84) h29 rfl (by decide) (by decide) (fun X30 h30 => ?_)
  refine p_nx h30.1 ?_
  refine p_okk (by decide) ?_
  refine p_sN (m := 320) h30 rfl rfl (fun _ => rfl) (by decide) (by decide) (fun X31 h31 => ?_)
  refine p_okk (h31.K (a := 69) (by decide) rfl) ?_
  refine p_sR (a := 69) (b := 85) h31 rfl (by decide) (by decide) (fun X32 h32 => ?_)
  refine p_nx h32.1 ?_
  refine p_okk (by decide) ?_
  refine p_sN (m := 320) h32 rfl rfl (fun _ => rfl) (by decide) (by decide) (fun X33 h33 => ?_)
  refine p_okk (h33.K (a := 69) (by decide) rfl) ?_
  refine p_sR (a := 69) (b := 86) h33 rfl (by decide) (by decide) (fun X34 h34 => ?_)
  refine p_nx h34.1 ?_
  refine p_okk (by decide) ?_
  refine p_sN (m := 320) h34 rfl rfl (fun _ => rfl) (by decide) (by decide) (fun X35 h35 => ?_)
  refine p_okk (h35.K (a := 69) (by decide) rfl) ?_
  refine p_sR (a := 69) (b := 87) h35 rfl (by decide) (by decide) (fun X36 h36 => ?_)
  refine p_nx h36.1 ?_
  refine p_okk (by decide) ?_
  refine p_sN (m := 320) h36 rfl rfl (fun _ => rfl) (by decide) (by decide) (fun X37 h37 => ?_)
  refine p_okk (h37.K (a := 69) (by decide) rfl) ?_
  refine p_sR (a := 69) (b := 88) h37 rfl (by decide) (by decide) (fun X38 h38 => ?_)
  refine p_okk (h38.K (a := 69) (by decide) rfl) ?_
  refine p_sI (a := 69) (i := 23) (v := 3) h38 rfl rfl (by decide) (fun X39 h39 => ?_)
  refine p_okk (h39.K (a := 69) (by decide) rfl) ?_
  refine p_sI (a := 69) (i := 24) (v := 2) h39 rfl rfl (by decide) (fun X40 h40 => ?_)
  refine p_okk (h40.K (a := 69) (by decide) rfl) ?_
  refine p_sI (a := 69) (i := 25) (v := 80) h40 rfl rfl (by decide) (fun X41 h41 => ?_)
  refine p_nx h41.1 ?_
  refine p_okk (by decide) ?_
  refine p_sN (m := 20) h41 rfl rfl (fun _ => rfl) (by decide) (by decide) (fun X42 h42 => ?_)
  refine p_okk (h42.K (a := 69) (by decide) rfl) ?_
  refine p_sR (a := 69) (b := 89) h42 rfl (by decide) (by decide) (fun X43 h43 => ?_)
  refine p_nx h43.1 ?_
  refine p_okk (by decide) ?_
  refine p_sN (m := 20) h43 rfl rfl (fun _ => rfl) (by decide) (by decide) (fun X44 h44 => ?_)
  refine p_okk (h44.K (a := 69) (by decide) rfl) ?_
  refine p_sR (a := 69) (b := 90) h44 rfl (by decide) (by decide) (fun X45 h45 => ?_)
  refine p_nx h45.1 ?_
  refine p_okk (by decide) ?_
  refine p_sN (m := 600) h45 rfl rfl (fun _ => rfl) (by decide) (by decide) (fun X46 h46 => ?_)
  refine p_okk (h46.K (a := 69) (by decide) rfl) ?_
  refine p_sR (a := 69) (b := 91) h46 rfl (by decide) (by decide) (fun X47 h47 => ?_)
  refine p_nx h47.1 ?_
  refine p_okk (by decide) ?_
  refine p_sN (m := 20) h47 rfl rfl (fun _ => rfl) (by decide) (by decide) (fun X48 h48 => ?_)
  refine p_okk (h48.K (a := 69) (by decide) rfl) ?_
  refine p_sR (a := 69) (b := 92) h48 rfl (by decide) (by decide) (fun X49 h49 => ?_)
  refine p_nx h49.1 ?_
  refine p_okk (by decide) ?_
  refine p_sN (m := 20) h49 rfl rfl (fun _ => rfl) (by decide) (by decide) (fun X50 h50 => ?_)
  refine p_okk (h50.K (a := 69) (by decide) rfl) ?_
  refine p_sR (a := 69) (b := 93) h50 rfl (by decide) (by decide) (fun X51 h51 => ?_)
  refine p_nx h51.1 ?_
  refine p_okk (by decide) ?_
  refine p_sN (m := 20) h51 rfl rfl (fun _ => rfl) (by decide) (by decide) (fun X52 h52 => ?_)
  refine p_okk (h52.K (a := 69) (by decide) rfl) ?_
  refine p_sR (a := 69) (b := 94) h52 rfl (by decide) (by decide) (fun X53 h53 => ?_)
  refine p_nx h53.1 ?_
  refine p_okk (by decide) ?_
  refine p_sN (m := 20) h53 rfl rfl (fun _ => rfl) (by decide) (by decide) (fun X54 h54 => ?_)
  refine p_okk (h54.K (a := 69) (by decide) rfl) ?_
  refine p_sR (a := 69) (b := 95) h54 rfl (by decide) (by decide) (fun X55 h55 => ?_)
  refine p_nx h55.1 ?_
  refine p_okk (by decide) ?_
  refine p_sN (m := 20) h55 rfl rfl (fun _ => rfl) (by decide) (by decide) (fun X56 h56 => ?_)
  refine p_okk (h56.K (a := 69) (by decide) rfl) ?_
  refine p_sR (a := 69) (b := 96) h56 rfl (by decide) (by decide) (fun X57 h57 => ?_)
  refine p_nx h57.1 ?_
  refine p_okk (by decide) ?_
  refine p_sN (m := 2400) h57 rfl rfl (fun _ => rfl) (by decide) (by decide) (fun X58 h58 => ?_)
  refine p_okk (h58.K (a := 69) (by decide) rfl) ?_
  refine p_sR (a := 69) (b := 97) h58 rfl (by decide) (by decide) (fun X59 h59 => ?_)
  refine p_nx h59.1 ?_
  refine p_okk (by decide) ?_
  refine p_sN (m := 2400) h59 rfl rfl (fun _ => rfl) (by decide) (by decide) (fun X60 h60 => ?_)
  refine p_okk (h60.K (a := 69) (by decide) rfl) ?_
  refine p_sR (a := 69) (b := 98) h60 rfl (by decide) (by decide) (fun X61 h61 => ?_)
  refine p_nx h61.1 ?_
  refine p_okk (by decide) ?_
  refine p_sN (m := 2400) h61 rfl rfl (fun _ => rfl) (by decide) (by decide) (fun X62 h62 => ?_)
  refine p_okk (h62.K (a := 69) (by decide) rfl) ?_
  refine p_sR (a := 69) (b := 99) h62 rfl (by decide) (by decide) (fun X63 h63 => ?_)
  refine p_nx h63.1 ?_
  refine p_okk (by decide) ?_
  refine p_sN (m := 2400) h63 rfl rfl (fun _ => rfl) (by decide) (by decide) (fun X64 h64 => ?_)
  refine p_okk (h64.K (a := 69) (by decide) rfl) ?_
  refine p_sR (a := 69) (b := 100) h64 rfl (by decide) (by decide) (fun X65 h65 => ?_)
  refine p_nx h65.1 ?_
  refine p_okk (by decide) ?_
  refine p_sN (m := 2400) h65 rfl rfl (fun _ => rfl) (by decide) (by decide) (fun X66 h66 => ?_)
  refine p_okk (h66.K (a := 69) (by decide) rfl) ?_
  refine p_sR (a := 69) (b := 101) h66 rfl (by decide) (by decide) (fun X67 h67 => ?_)
  refine p_nx h67.1 ?_
  refine p_okk (by decide) ?_
  refine p_sN (m := 2400) h67 rfl rfl (fun _ => rfl) (by decide) (by decide) (fun X68 h68 => ?_)
  refine p_okk (h68.K (a := 69) (by decide) rfl) ?_
  refine p_sR (a := 69) (b := 102) h68 rfl (by decide) (by decide) (fun X69 h69 => ?_)
  refine p_nx h69.1 ?_
  refine p_okk (by decide) ?_
  refine p_sN (m := 2400) h69 rfl rfl (fun _ => rfl) (by decide) (by decide) (fun X70 h70 => ?_)
  refine p_okk (h70.K (a := 69) (by decide) rfl) ?_
  refine p_sR (a := 69) (b := 103) h70 rfl (by decide) (by decide) (fun X71 h71 => ?_)
  refine p_nx h71.1 ?_
  refine p_okk (by decide) ?_
  refine p_sN (m := 2400) h71 rfl rfl (fun _ => rfl) (by decide) (by decide) (fun X72 h72 => ?_)
  refine p_okk (h72.K (a := 69) (by decide) rfl) ?_
  refine p_sR (a := 69) (b := 104) h72 rfl (by decide) (by decide) (fun X73 h73 => ?_)
  refine p_nx h73.1 ?_
  refine p_okk (by decide) ?_
  refine p_sN (m := 168) h73 rfl rfl (fun _ => rfl) (by decide) (by decide) (fun X74 h74 => ?_)
  refine p_okk (h74.K (a := 69) (by decide) rfl) ?_
  refine p_sR (a := 69) (b := 105) h74 rfl (by decide) (by decide) (fun X75 h75 => ?_)
  refine p_nx h75.1 ?_
  refine p_okk (by decide) ?_
  refine p_sN (m := 168) h75 rfl rfl (fun _ => rfl) (by decide) (by decide) (fun X76 h76 => ?_)
  refine p_okk (h76.K (a := 69) (by decide) rfl) ?_
  refine p_sR (a := 69) (b := 106) h76 rfl (by decide) (by decide) (fun X77 h77 => ?_)
  refine p_nx h77.1 ?_
  refine p_okk (by decide) ?_
  refine p_sN (m := 168) h77 rfl rfl (fun _ => rfl) (by decide) (by decide) (fun X78 h78 => ?_)
  refine p_okk (h78.K (a := 69) (by decide) rfl) ?_
  refine p_sR (a := 69) (b := 107) h78 rfl (by decide) (by decide) (fun X79 h79 => ?_)
  refine p_nx h79.1 ?_
  refine p_okk (by decide) ?_
  refine p_sN (m := 168) h79 rfl rfl (fun _ => rfl) (by decide) (by decide) (fun X80 h80 => ?_)
  refine p_okk (h80.K (a := 69) (by decide) rfl) ?_
  refine p_sR (a := 69) (b := 108) h80 rfl (by decide) (by decide) (fun X81 h81 => ?_)
  refine p_nx h81.1 ?_
  refine p_okk (by decide) ?_
  refine p_sN (m := 12) h81 rfl rfl (fun _ => rfl) (by decide) (by decide) (fun X82 h82 => ?_)
  refine p_okk (h82.K (a := 69) (by decide) rfl) ?_
  refine p_sR (a := 69) (b := 109) h82 rfl (by decide) (by decide) (fun X83 h83 => ?_)
  refine p_nx h83.1 ?_
  refine p_okk (by decide) ?_
  refine p_sN (m := 12) h83 rfl rfl (fun _ => rfl) (by decide) (by decide) (fun X84 h84 => ?_)
  refine p_okk (h84.K (a := 69) (by decide) rfl) ?_
  refine p_sR (a := 69) (b := 110) h84 rfl (by decide) (by decide) (fun X85 h85 => ?_)
  refine p_nx h85.1 ?_
  refine p_okk (by decide) ?_
  refine p_sN (m := 12) h85 rfl rfl (fun _ => rfl) (by decide) (by decide) (fun X86 h86 => ?_)
  refine p_okk (h86.K (a := 69) (by decide) rfl) ?_
  refine p_sR (a := 69) (b := 111) h86 rfl (by decide) (by decide) (fun X87 h87 => ?_)
  refine p_nx h87.1 ?_
  refine p_okk (by decide) ?_
  refine p_sN (m := 60) h87 rfl rfl (fun _ => rfl) (by decide) (by decide) (fun X88 h88 => ?_)
  refine p_okk (h88.K (a := 69) (by decide) rfl) ?_
  refine p_sR (a := 69) (b := 112) h88 rfl (by decide) (by decide) (fun X89 h89 => ?_)
  refine p_nx h89.1 ?_
  refine p_okk (by decide) ?_
  refine p_sN (m := 360) h89 rfl rfl (fun _ => rfl) (by decide) (by decide) (fun X90 h90 => ?_)
  refine p_okk (h90.K (a := 69) (by decide) rfl) ?_
  refine p_sR (a := 69) (b := 113) h90 rfl (by decide) (by decide) (fun X91 h91 => ?_)
  refine p_nx h91.1 ?_
  refine p_okk (by decide) ?_
  refine p_sN (m := 360) h91 rfl rfl (fun _ => rfl) (by decide) (by decide) (fun X92 h92 => ?_)
  refine p_okk (h92.K (a := 69) (by decide) rfl) ?_
  refine p_sR (a := 69) (b := 114) h92 rfl (by decide) (by decide) (fun X93 h93 => ?_)
  refine p_nx h93.1 ?_
  refine p_okk (by decide) ?_
  refine p_sN (m := 360) h93 rfl rfl (fun _ => rfl) (by decide) (by decide) (fun X94 h94 => ?_)
  refine p_okk (h94.K (a := 69) (by decide) rfl) ?_
  refine p_sR (a := 69) (b := 115) h94 rfl (by decide) (by decide) (fun X95 h95 => ?_)
  refine p_nx h95.1 ?_
  refine p_okk (by decide) ?_
  refine p_sN (m := 20) h95 rfl rfl (fun _ => rfl) (by decide) (by decide) (fun X96 h96 => ?_)
  refine p_okk (h96.K (a := 69) (by decide) rfl) ?_
  refine p_sR (a := 69) (b := 116) h96 rfl (by decide) (by decide) (fun X97 h97 => ?_)
  refine p_nx h97.1 ?_
  refine p_okk (by decide) ?_
  refine p_sN (m := 20) h97 rfl rfl (fun _ => rfl) (by decide) (by decide) (fun X98 h98 => ?_)
  refine p_okk (h98.K (a := 69) (by decide) rfl) ?_
  refine p_sR (a := 69) (b := 117) h98 rfl (by decide) (by decide) (fun X99 h99 => ?_)
  refine p_okk (h99.K (a := 69) (by decide) rfl) ?_
  refine p_sI (a := 69) (i := 62) (v := 45) h99 rfl rfl (by decide) (fun X100 h100 => ?_)
  refine p_okk (h100.K (a := 69) (by decide) rfl) ?_
  refine p_sI (a := 69) (i := 68) (v := -1) h100 rfl rfl (by decide) (fun X101 h101 => ?_)
  refine p_nx h101.1 ?_
  refine p_okk (by decide) ?_
  refine p_sN (m := 30) h101 rfl rfl (fun _ => rfl) (by decide) (by decide) (fun X102 h102 => ?_)
  refine p_okk (h102.K (a := 69) (by decide) rfl) ?_
  refine p_sR (a := 69) (b := 118) h102 rfl (by decide) (by decide) (fun X103 h103 => ?_)
  refine p_nx h103.1 ?_
  refine p_okk (by decide) ?_
  refine p_sN (m := 120) h103 rfl rfl (fun _ => rfl) (by decide) (by decide) (fun X104 h104 => ?_)
  refine p_okk (h104.K (a := 69) (by decide) rfl) ?_
  refine p_sR (a := 69) (b := 119) h104 rfl (by decide) (by decide) (fun X105 h105 => ?_)
  refine p_nx h105.1 ?_
  refine p_okk (by decide) ?_
  refine p_sN (m := 120) h105 rfl rfl (fun _ => rfl) (by decide) (by decide) (fun X106 h106 => ?_)
  refine p_okk (h106.K (a := 69) (by decide) rfl) ?_
  refine p_sR (a := 69) (b := 120) h106 rfl (by decide) (by decide) (fun X107 h107 => ?_)
  refine p_nx h107.1 ?_
  refine p_okk (by decide) ?_
  refine p_sN (m := 120) h107 rfl rfl (fun _ => rfl) (by decide) (by decide) (fun X108 h108 => ?_)
  refine p_okk (h108.K (a := 69) (by decide) rfl) ?_
  refine p_sR (a := 69) (b := 121) h108 rfl (by decide) (by decide) (fun X109 h109 => ?_)
  refine p_nx h109.1 ?_
  refine p_okk (by decide) ?_
  refine p_sN (m := 120) h109 rfl rfl (fun _ => rfl) (by decide) (by decide) (fun X110 h110 => ?_)
  refine p_okk (h110.K (a := 69) (by decide) rfl) ?_
  refine p_sR (a := 69) (b := 122) h110 rfl (by decide) (by decide) (fun X111 h111 => ?_)
  refine p_nx h111.1 ?_
  refine p_okk (by decide) ?_
  refine p_sN (m := 600) h111 rfl rfl (fun _ => rfl) (by decide) (by decide) (fun X112 h112 => ?_)
  refine p_okk (h112.K (a := 69) (by decide) rfl) ?_
  refine p_sR (a := 69) (b := 123) h112 rfl (by decide) (by decide) (fun X113 h113 => ?_)
  refine p_nx h113.1 ?_
  refine p_okk (by decide) ?_
  refine p_sN (m := 600) h113 rfl rfl (fun _ => rfl) (by decide) (by decide) (fun X114 h114 => ?_)
  refine p_okk (h114.K (a := 69) (by decide) rfl) ?_
  refine p_sR (a := 69) (b := 124) h114 rfl (by decide) (by decide) (fun X115 h115 => ?_)
  refine p_nx h115.1 ?_
  refine p_okk (by decide) ?_
  refine p_sN (m := 600) h115 rfl rfl (fun _ => rfl) (by decide) (by decide) (fun X116 h116 => ?_)
  refine p_okk (h116.K (a := 69) (by decide) rfl) ?_
  refine p_sR (a := 69) (b := 125) h116 rfl (by decide) (by decide) (fun X117 h117 => ?_)
  refine p_nx h117.1 ?_
  refine p_okk (by decide) ?_
  refine p_sN (m := 600) h117 rfl rfl (fun _ => rfl) (by decide) (by decide) (fun X118 h118 => ?_)
  refine p_okk (h118.K (a := 69) (by decide) rfl) ?_
  refine p_sR (a := 69) (b := 126) h118 rfl (by decide) (by decide) (fun X119 h119 => ?_)
  exact p_517 h119
end MA2
