/-! ===== the loops of a run ===== -/
section MY1
theorem E45.tr {o : Nat} {A B C : Mem} (h : E45 o A B) (hB : mI B o 13 = nI 45) (k : E45 o B C) : E45 o A C := by
  rcases h with h | ⟨h1, h2⟩
  · rw [hB] at h; exact absurd h (by decide)
  · rcases k with k | ⟨k1, k2⟩
    · exact .inl k
    · exact .inr ⟨k1.trans h1, k2.trans h2⟩
theorem lp_s0 {α β : Type} {body : (α → Mem → Option β) → α → Mem → Option β} {n : Nat} {a : α} {M : Mem} (h : 0 < n) : ∃ m, n = m + 1 ∧ lp body n a M = body (lp body m) a M := ⟨n - 1, by omega, by
  obtain ⟨m, rfl⟩ : ∃ m, n = m + 1 := ⟨n - 1, by omega⟩
  rfl⟩
theorem tc_lt {x : Nat} (h : x < 1000000) : ¬ (1000000 : Int32) ≤ nI x := by
  simp (disch := omega) only [l_1000000, qleF, not_false_eq_true]
theorem tc_add {x : Nat} (h : x < 1000000) : nI x + (1 : Int32) = nI (x + 1) := by
  simp (disch := omega) only [l_1, qadd]
/-- a run's three loops, from the first turn to the last -/
def LPS (M S P N E Q : Mem) (μ : Nat) : Prop := (∀ n x, μ + 1 < n → x + μ < 1000000 → d_X11_run_78 n (nI x) M = d_X11_run_138 N) ∧ (∀ n, μ + 1 < n → d_X12_run_148 n () S = some (mI E 69 57, sI E 69 68 (-nI 1))) ∧ (∀ n x, μ + 1 < n → x + μ < 1000000 → d_X3_runOut_2 28 n (nI x) P = some ((), Q))
theorem run_stop {M : Mem} {n : Nat} {x : Int32} (hn : 0 < n) (h : ¬ mI M 18 13 = nI 45) : d_X11_run_78 n x M = d_X11_run_138 M := by
  obtain ⟨m, rfl, e⟩ := lp_s0 (body := fun k a M => d_X11_run_78b k a M) (a := x) (M := M) hn
  refine e.trans ?_
  show d_X11_run_78b _ x M = _
  have hr : d_X3_isRunning 18 M = some (nI 0, M) := by
    unfold d_X3_isRunning
    exact if_neg h
  unfold d_X11_run_78b
  by_cases c : (1000000 : Int32) ≤ x
  · rw [if_pos c]
  · rw [if_neg c, hr, obind]; exact if_pos rfl
theorem pl_stop {M : Mem} {n : Nat} {x : Int32} (hn : 0 < n) (h : ¬ mI M 28 13 = nI 45) : d_X3_runOut_2 28 n x M = some ((), M) := by
  obtain ⟨m, rfl, e⟩ := lp_s0 (body := fun k a M => d_X3_runOut_2b k 28 a M) (a := x) (M := M) hn
  refine e.trans ?_
  show d_X3_runOut_2b _ 28 x M = _
  have hr : d_X3_isRunning 28 M = some (nI 0, M) := by
    unfold d_X3_isRunning
    exact if_neg h
  unfold d_X3_runOut_2b
  by_cases c : (1000000 : Int32) ≤ x
  · rw [if_pos c]
  · rw [if_neg c, hr, obind]; exact if_pos rfl
theorem rt_stop {S : Mem} {n : Nat} (hn : 0 < n) (h : mI S 69 67 = nI 0) (h71 : mI S 69 71 = nI 0) : d_X12_run_148 n () S = some (mI S 69 57, sI S 69 68 (-nI 1)) := by
  obtain ⟨m, rfl, e⟩ := lp_s0 (body := fun k a M => d_X12_run_148b k M) (a := ()) (M := S) hn
  refine e.trans ?_
  show d_X12_run_148b _ S = _
  have hb : d_X12_breaksOff S = some ((), S) := by
    unfold d_X12_breaksOff
    exact if_pos h71
  unfold d_X12_run_148b
  refine (if_pos h).trans ?_
  rw [hb]
  show some (mI (sI S 69 68 (-1 : Int32)) 69 57, sI S 69 68 (-1 : Int32)) = _
  rw [mI_ne (by omega)]
  rfl
theorem xe_ne {M S : Mem} {o : Nat} (h : XE M S o) : ¬ mI M o 13 = nI 45 := by
  obtain ⟨-, h1, h2⟩ := h
  rw [h1]
  rcases h2 with h2 | ⟨h2, -⟩
  · rw [h2]; decide
  · rw [h2]; decide
theorem both_loop (hfin : FIH) : ∀ (μ : Nat) (M S P : Mem) (cnt d ns ob nc nf : Nat), SIM M S cnt d ns ob nc nf μ → RC P S 28 d ns → XR P S 28 → ∃ N E Q cnt2 ns2 ob2, LPS M S P N E Q μ ∧ MFC M N cnt cnt2 ∧ FM P Q 28 ∧ (E45 18 M N ∧ E45 28 P Q) ∧ GRW S E ns ns2 ∧ END N E cnt2 ns2 ob2 nc nf ∧ RZ Q E 28 ns2 ∧ XE Q E 28 := by
  intro μ
  induction μ using Nat.strongRecOn with
  | _ μ ih =>
    intro M S P cnt d ns ob nc nf hS hP hXP
    have hXM : mI M 18 13 = nI 45 := hS.1.1
    obtain ⟨N1, E1, Q1, cnt1, hct, hrt, hpt, hmf, hfm, ⟨he1, he2⟩, hh⟩ := any_turn hfin hS hP hXP
    rcases hh with ⟨d2, ns2, ob2, μ2, hμ, hg, hS2, hP2, hX2⟩ | ⟨ns2, ob2, hg, hend, hz, hx⟩
    · obtain ⟨N, E, Q, cnt3, ns3, ob3, ⟨l1, l2, l3⟩, m1, m2, ⟨m3, m4⟩, m5, m6, m7, m8⟩ := ih μ2 hμ N1 E1 Q1 cnt1 d2 ns2 ob2 nc nf hS2 hP2 hX2
      refine ⟨N, E, Q, cnt3, ns3, ob3, ⟨fun n x hn hx => ?_, fun n hn => ?_, fun n x hn hx => ?_⟩, hmf.trans m1, FM.trans hfm m2, ⟨he1.tr hS2.1.1 m3, he2.tr hX2.1 m4⟩, hg.trans m5, m6, m7, m8⟩
      · obtain ⟨m, rfl, e⟩ := lp_s0 (body := fun k a M => d_X11_run_78b k a M) (a := nI x) (M := M) (n := n) (by omega)
        refine e.trans ?_
        rw [hct _ _ (tc_lt (by omega)), tc_add (by omega)]
        exact l1 m (x + 1) (by omega) (by omega)
      · rcases hrt with hrt | hrt
        · obtain ⟨m, rfl, e⟩ := lp_s0 (body := fun k a M => d_X12_run_148b k M) (a := ()) (M := S) (n := n) (by omega)
          refine e.trans ?_
          rw [hrt]
          exact l2 m (by omega)
        · rw [← hrt]; exact l2 n (by omega)
      · rcases hpt with hpt | hpt
        · obtain ⟨m, rfl, e⟩ := lp_s0 (body := fun k a M => d_X3_runOut_2b k 28 a M) (a := nI x) (M := P) (n := n) (by omega)
          refine e.trans ?_
          rw [hpt _ _ (tc_lt (by omega)), tc_add (by omega)]
          exact l3 m (x + 1) (by omega) (by omega)
        · rw [← hpt]; exact l3 n x (by omega) (by omega)
    · obtain ⟨N2, hb, hbm, hfin2, hnm⟩ := id hend
      have hx18 : ¬ mI N1 18 13 = nI 45 := by
        obtain ⟨B, H, G, F, b, fg, -, -, hxe, -⟩ := hfin2
        rw [← hnm.1 18 13 (by omega)]
        exact xe_ne hxe
      have h71 : mI E1 69 71 = nI 0 := by
        obtain ⟨B, H, G, F, b, fg, -, -, -, -, -, -, -, -, -, hr, -⟩ := hfin2
        exact hr.2
      refine ⟨N1, E1, Q1, cnt1, ns2, ob2, ⟨fun n x hn hx => ?_, fun n hn => ?_, fun n x hn hxx => ?_⟩, hmf, hfm, ⟨he1, he2⟩, hg, hend, hz, hx⟩
      · obtain ⟨m, rfl, e⟩ := lp_s0 (body := fun k a M => d_X11_run_78b k a M) (a := nI x) (M := M) (n := n) (by omega)
        refine e.trans ?_
        rw [hct _ _ (tc_lt (by omega))]
        exact run_stop (by omega) hx18
      · rcases hrt with hrt | hrt
        · obtain ⟨m, rfl, e⟩ := lp_s0 (body := fun k a M => d_X12_run_148b k M) (a := ()) (M := S) (n := n) (by omega)
          refine e.trans ?_
          rw [hrt]
          exact rt_stop (by omega) hx.1 h71
        · rw [← hrt]; exact rt_stop (by omega) hx.1 h71
      · rcases hpt with hpt | hpt
        · obtain ⟨m, rfl, e⟩ := lp_s0 (body := fun k a M => d_X3_runOut_2b k 28 a M) (a := nI x) (M := P) (n := n) (by omega)
          refine e.trans ?_
          rw [hpt _ _ (tc_lt (by omega))]
          exact pl_stop (by omega) (xe_ne hx)
        · rw [← hpt]; exact pl_stop (by omega) (xe_ne hx)
end MY1
