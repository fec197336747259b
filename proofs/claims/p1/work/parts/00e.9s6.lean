/-! ===== setters: a class more ===== -/
section MW6
theorem nm1 {k : Nat} (h : k < 2147483648) : ¬ nI k < (-1 : Int32) := by
  rw [Int32.lt_iff_toInt_lt, nI_toInt h, show (-1 : Int32).toInt = -1 by decide]
  omega
theorem neg_m1 {x : Int32} (h : x < (0 : Int32)) (h2 : ¬ x = -1) : x < (-1 : Int32) := by
  rw [Int32.lt_iff_toInt_lt, show (0 : Int32).toInt = 0 by decide] at h
  rw [Int32.lt_iff_toInt_lt, show (-1 : Int32).toInt = -1 by decide]
  have : x.toInt ≠ -1 := fun e => h2 (Int32.toInt_inj.mp (by rw [e]; decide))
  omega
theorem inC_T {S : Mem} {x : Int32} {nc : Nat} (hn : nc ≤ 5) (hx : x = -1 ∨ ∃ p, p < nc ∧ x = nI p) : d_X12_in x (-1 : Int32) (nI nc - (1 : Int32)) S = some (nI 1, S) := by
  unfold d_X12_in
  rcases hx with rfl | ⟨p, hp, rfl⟩
  · rw [if_neg (by decide)]
    have : ¬ nI nc - (1 : Int32) < -1 := by
      by_cases c : nc = 0
      · subst c; decide
      · rw [l_1, qsub (by omega)]; exact nm1 (by omega)
    rw [if_neg this]
    rfl
  · rw [if_neg (nm1 (by omega)), l_1, qsub (by omega), if_neg (of_eq_false (qltF (by omega) (by omega)))]
theorem inC_F {S : Mem} {x : Int32} {nc : Nat} (hn : nc ≤ 5) (h1 : ¬ x = -1) (hx : x < (0 : Int32) ∨ ∃ k, k < 2147483648 ∧ nc ≤ k ∧ x = nI k) : d_X12_in x (-1 : Int32) (nI nc - (1 : Int32)) S = some (nI 0, S) := by
  unfold d_X12_in
  rcases hx with h | ⟨k, k1, k2, rfl⟩
  · exact if_pos (neg_m1 h h1)
  · rw [if_neg (nm1 k1)]
    by_cases c : nc = 0
    · subst c
      rw [show nI 0 - (1 : Int32) = -nI 1 by decide]
      exact if_pos (of_eq_true (qneg_lt k1))
    · rw [l_1, qsub (by omega)]
      exact if_pos (of_eq_true (qltT (by omega) k1))
theorem clC_T {M : Mem} {x : Int32} {nc : Nat} (hn : nc ≤ 5) (h9 : mI M 2 9 = nI nc) (hx : x = -1 ∨ ∃ p, p < nc ∧ x = nI p) : d_X11_addClass x M = d_X11_addClass_26 x M := by
  unfold d_X11_addClass
  rcases hx with rfl | ⟨p, hp, rfl⟩
  · exact if_pos rfl
  · rw [if_neg (m1ne p (by omega))]
    unfold d_X5_hasClass
    rw [if_neg (nn0 p (by omega)), h9, if_neg (of_eq_false (qleF (by omega) (by omega)))]
    rfl
theorem clC_F {M : Mem} {x : Int32} {nc : Nat} (h9 : mI M 2 9 = nI nc) (h1 : ¬ x = -1) (hx : x < (0 : Int32) ∨ ∃ k, k < 2147483648 ∧ nc ≤ k ∧ x = nI k) : d_X11_addClass x M = some (.inr "java/lang/IndexOutOfBoundsException", tk M 6) := by
  unfold d_X11_addClass d_X5_hasClass
  rw [if_neg h1]
  rcases hx with h | ⟨k, k1, k2, rfl⟩
  · rw [if_pos h]; rfl
  · rw [if_neg (nn0 k k1), h9, if_pos (of_eq_true (qleT k2 k1))]; rfl
theorem hM_0 {M : Mem} {s n : Nat} (h : mI M 14 s = nI 0) (hn : n < 6) : ¬ hM M s n := by
  unfold hM
  rw [h]
  have : n = 0 ∨ n = 1 ∨ n = 2 ∨ n = 3 ∨ n = 4 ∨ n = 5 := by omega
  rcases this with rfl | rfl | rfl | rfl | rfl | rfl
  all_goals decide
theorem hasF_0 {S : Mem} {s n : Nat} (h : mI S 80 s = nI 0) : ¬ hasF S s n := fun ⟨k, hk, _⟩ => by
  rw [h, qcl (by omega)] at hk
  omega
theorem cN_0 {S : Mem} {s : Nat} (h : mI S 80 s = nI 0) : cN S s = 0 := by
  unfold cN
  rw [bIF (hasF_0 h), bIF (hasF_0 h), bIF (hasF_0 h), bIF (hasF_0 h), bIF (hasF_0 h), bIF (hasF_0 h)]
/-- a method found above classes that stay -/
theorem mOf_b {S E : Mem} {nc : Nat} (hw : WfP S nc) (h76 : ∀ c, c < nc → mI E 76 c = mI S 76 c) (h77 : ∀ p, mI E 77 p = mI S 77 p) (b2 : Nat) : ∀ (k cl : Nat), cl < nc → mOf E b2 k (nI cl) = mOf S b2 k (nI cl) := by
  intro k
  induction k with
  | zero => intro cl _; rfl
  | succ k ih =>
    intro cl hcl
    have h5 := hw.1
    have hq : (nI cl).toNatClampNeg = cl := qcl (by omega)
    unfold mOf
    rw [hq, h77, h76 cl hcl]
    rcases hw.2 cl hcl with h | ⟨p, p1, p2⟩
    · rw [h, mOf_m, mOf_m]
    · rw [p2, ih p (by omega)]
theorem s_addClass {M S : Mem} {cnt ns nc nf : Nat} {x1 : Int32} (hI : INV M S cnt ns nc nf) : SETR (d_L_addClass x1) (d_X12_addClass x1) M S cnt := by
  obtain ⟨ob, hR, hW, -⟩ := inv_m hI
  have hfrp := inv_fr hI
  have hWP := hW.2.2.2.2.1
  have hWS := hW.2.2.2.1
  have hnf : nf ≤ 8 := hWP.2.1
  have h8 : mI S 69 8 = nI nc := hWP.2.2.1
  have hnc : nc ≤ 5 := hWP.2.2.2.1.1
  have h12 : mI S 69 12 = nI ns := hWS.1
  have hns : ns ≤ 60 := hWS.2.1
  have h29 : mI M 2 9 = nI nc := hR.2.2.2.2.2.2.2.trans h8
  have h11 : mI M 11 6 = nI ns := hR.2.2.2.2.1.1
  have h8' : mI (sI S 69 0 (0 : Int32)) 69 8 = nI nc := (mI_ne (by omega)).trans h8
  have h12' : mI (sI S 69 0 (0 : Int32)) 69 12 = nI ns := (mI_ne (by omega)).trans h12
  have hcase : (x1 = -1 ∨ ∃ p, p < nc ∧ x1 = nI p) ∨ (¬ x1 = -1 ∧ (x1 < (0 : Int32) ∨ ∃ k, k < 2147483648 ∧ nc ≤ k ∧ x1 = nI k)) := by
    by_cases c : x1 = -1
    · exact .inl (.inl c)
    · rcases idx_c x1 nc (by omega) with h | h
      · exact .inl (.inr h)
      · exact .inr ⟨c, h⟩
  rcases hcase with hx | ⟨hx1, hx⟩
  · by_cases q5 : nc = 5
    · refine ASK.setr hI (ask_t (k := nI 2) (v := nI 0) (E := sI (sI S 69 0 (0 : Int32)) 69 0 (2 : Int32)) (lE2_addClass ?_) ?_ (mI_eq _ _ _ _) n2n ((sc_1 _ _).trans (sc_1 _ _)))
      · rw [clC_T hnc h29 hx]
        unfold d_X11_addClass_26
        rw [h29, if_neg (show ¬ nI nc < (5 : Int32) by rw [q5]; decide)]
      · unfold d_X12_addClass
        rw [bnd_eq, h8', inC_T hnc hx]
        simp only [obind]
        rw [if_neg n1z, h8', if_pos (show nI nc = (5 : Int32) by rw [q5]; rfl)]
        rfl
    · have hlt5 : nI nc < (5 : Int32) := by rw [show (5 : Int32) = nI 5 from rfl]; exact of_eq_true (qltT (by omega) (by omega))
      have hne5 : ¬ nI nc = (5 : Int32) := by rw [show (5 : Int32) = nI 5 from rfl]; exact of_eq_false (qeqF q5 (by omega) (by omega))
      by_cases q60 : ns = 60
      · refine ASK.setr hI (ask_t (k := nI 3) (v := nI 0) (E := sI (sI S 69 0 (0 : Int32)) 69 0 (3 : Int32)) (lE3_addClass ?_) ?_ (mI_eq _ _ _ _) (by decide) ((sc_1 _ _).trans (sc_1 _ _)))
        · rw [clC_T hnc h29 hx]
          unfold d_X11_addClass_26
          rw [h29, if_pos hlt5, h11, if_neg (show ¬ nI ns < (60 : Int32) by rw [q60]; decide)]
        · unfold d_X12_addClass
          rw [bnd_eq, h8', inC_T hnc hx]
          simp only [obind]
          rw [if_neg n1z, h8', if_neg hne5, h12', if_pos (show nI ns = (60 : Int32) by rw [q60]; rfl)]
          rfl
      · have hlt60 : nI ns < (60 : Int32) := by rw [l_60]; exact of_eq_true (qltT (by omega) (by omega))
        have hne60 : ¬ nI ns = (60 : Int32) := by rw [l_60]; exact of_eq_false (qeqF q60 (by omega) (by omega))
        have hE : ∀ a j, (a ≠ 69 ∨ (j ≠ 0 ∧ j ≠ 12 ∧ j ≠ 8)) → ((a ≠ 76 ∧ a ≠ 78) ∨ j ≠ nc) → ((a ≠ 79 ∧ a ≠ 80) ∨ j ≠ ns) → mI (sI (sI (sI (sI (sI (sI (sI S 69 0 (0 : Int32)) 76 nc x1) 79 ns (nI nc)) 80 ns (nI 0)) 69 12 (nI (ns + 1))) 78 nc (nI ns)) 69 8 (nI (nc + 1))) a j = mI S a j := fun a j u v y => by rw [mI_ne (by omega), mI_ne (by omega), mI_ne (by omega), mI_ne (by omega), mI_ne (by omega), mI_ne (by omega), mI_ne (by omega)]
        have hE8 : mI (sI (sI (sI (sI (sI (sI (sI S 69 0 (0 : Int32)) 76 nc x1) 79 ns (nI nc)) 80 ns (nI 0)) 69 12 (nI (ns + 1))) 78 nc (nI ns)) 69 8 (nI (nc + 1))) 69 8 = nI (nc + 1) := mI_eq _ _ _ _
        have hE12 : mI (sI (sI (sI (sI (sI (sI (sI S 69 0 (0 : Int32)) 76 nc x1) 79 ns (nI nc)) 80 ns (nI 0)) 69 12 (nI (ns + 1))) 78 nc (nI ns)) 69 8 (nI (nc + 1))) 69 12 = nI (ns + 1) := by rw [mI_ne (by omega), mI_ne (by omega), mI_eq]
        have hE76 : mI (sI (sI (sI (sI (sI (sI (sI S 69 0 (0 : Int32)) 76 nc x1) 79 ns (nI nc)) 80 ns (nI 0)) 69 12 (nI (ns + 1))) 78 nc (nI ns)) 69 8 (nI (nc + 1))) 76 nc = x1 := by rw [mI_ne (by omega), mI_ne (by omega), mI_ne (by omega), mI_ne (by omega), mI_ne (by omega), mI_eq]
        have hE78 : mI (sI (sI (sI (sI (sI (sI (sI S 69 0 (0 : Int32)) 76 nc x1) 79 ns (nI nc)) 80 ns (nI 0)) 69 12 (nI (ns + 1))) 78 nc (nI ns)) 69 8 (nI (nc + 1))) 78 nc = nI ns := by rw [mI_ne (by omega), mI_eq]
        have hE79 : mI (sI (sI (sI (sI (sI (sI (sI S 69 0 (0 : Int32)) 76 nc x1) 79 ns (nI nc)) 80 ns (nI 0)) 69 12 (nI (ns + 1))) 78 nc (nI ns)) 69 8 (nI (nc + 1))) 79 ns = nI nc := by rw [mI_ne (by omega), mI_ne (by omega), mI_ne (by omega), mI_ne (by omega), mI_eq]
        have hE80 : mI (sI (sI (sI (sI (sI (sI (sI S 69 0 (0 : Int32)) 76 nc x1) 79 ns (nI nc)) 80 ns (nI 0)) 69 12 (nI (ns + 1))) 78 nc (nI ns)) 69 8 (nI (nc + 1))) 80 ns = nI 0 := by rw [mI_ne (by omega), mI_ne (by omega), mI_ne (by omega), mI_eq]
        have hE00 : mI (sI (sI (sI (sI (sI (sI (sI S 69 0 (0 : Int32)) 76 nc x1) 79 ns (nI nc)) 80 ns (nI 0)) 69 12 (nI (ns + 1))) 78 nc (nI ns)) 69 8 (nI (nc + 1))) 69 0 = nI 0 := by rw [mI_ne (by omega), mI_ne (by omega), mI_ne (by omega), mI_ne (by omega), mI_ne (by omega), mI_ne (by omega), mI_eq]; rfl
        have hEt : (sI (sI (sI (sI (sI (sI (sI S 69 0 (0 : Int32)) 76 nc x1) 79 ns (nI nc)) 80 ns (nI 0)) 69 12 (nI (ns + 1))) 78 nc (nI ns)) 69 8 (nI (nc + 1))).2 = S.2 := rfl
        have hadd : d_X7_addEmpty (nI nc) (sI (sI M 9 nc x1) 2 9 (nI (nc + 1))) = some (nI ns, aeM (sI (sI M 9 nc x1) 2 9 (nI (nc + 1))) ns (nI nc)) := c_addEmpty (by rw [mI_ne (by omega), mI_ne (by omega)]; exact h11) (by omega)
        have hN : ∀ a j, ((a ≠ 9 ∧ a ≠ 17) ∨ j ≠ nc) → (a ≠ 2 ∨ j ≠ 9) → ((a ≠ 12 ∧ a ≠ 13 ∧ a ≠ 14) ∨ j ≠ ns) → (a ≠ 16 ∨ j < 6 * ns) → (a ≠ 11 ∨ j ≠ 6) → mI (sI (aeM (sI (sI M 9 nc x1) 2 9 (nI (nc + 1))) ns (nI nc)) 17 nc (nI ns)) a j = mI M a j := fun a j u v y z t => by rw [mI_ne (by omega), aeM_n (by omega), mI_ne (by omega), mI_ne (by omega)]
        have hN9 : mI (sI (aeM (sI (sI M 9 nc x1) 2 9 (nI (nc + 1))) ns (nI nc)) 17 nc (nI ns)) 9 nc = x1 := by rw [mI_ne (by omega), aeM_n (by omega), mI_ne (by omega), mI_eq]
        have hN29 : mI (sI (aeM (sI (sI M 9 nc x1) 2 9 (nI (nc + 1))) ns (nI nc)) 17 nc (nI ns)) 2 9 = nI (nc + 1) := by rw [mI_ne (by omega), aeM_n (by omega), mI_eq]
        have hN17 : mI (sI (aeM (sI (sI M 9 nc x1) 2 9 (nI (nc + 1))) ns (nI nc)) 17 nc (nI ns)) 17 nc = nI ns := mI_eq _ _ _ _
        have hN11 : mI (sI (aeM (sI (sI M 9 nc x1) 2 9 (nI (nc + 1))) ns (nI nc)) 17 nc (nI ns)) 11 6 = nI (ns + 1) := by rw [mI_ne (by omega)]; exact mI_eq _ _ _ _
        have hN12 : mI (sI (aeM (sI (sI M 9 nc x1) 2 9 (nI (nc + 1))) ns (nI nc)) 17 nc (nI ns)) 12 ns = nI nc := by rw [mI_ne (by omega)]; unfold aeM; rw [mI_ne (by omega), nfF_n _ _ (by decide), mI_ne (by omega), mI_ne (by omega), mI_eq]
        have hN13 : mI (sI (aeM (sI (sI M 9 nc x1) 2 9 (nI (nc + 1))) ns (nI nc)) 17 nc (nI ns)) 13 ns = nI 0 := by rw [mI_ne (by omega)]; unfold aeM; rw [mI_ne (by omega), nfF_n _ _ (by decide), mI_ne (by omega), mI_eq]
        have hN14 : mI (sI (aeM (sI (sI M 9 nc x1) 2 9 (nI (nc + 1))) ns (nI nc)) 17 nc (nI ns)) 14 ns = nI 0 := by rw [mI_ne (by omega)]; unfold aeM; rw [mI_ne (by omega), nfF_n _ _ (by decide), mI_eq]
        have hN16 : ∀ n, n < 6 → mI (sI (aeM (sI (sI M 9 nc x1) 2 9 (nI (nc + 1))) ns (nI nc)) 17 nc (nI ns)) 16 (6 * ns + n) = -nI 1 := fun n hn => by rw [mI_ne (by omega)]; unfold aeM; rw [mI_ne (by omega), nfF_16, if_pos (by omega)]
        have hNt : (sI (aeM (sI (sI M 9 nc x1) 2 9 (nI (nc + 1))) ns (nI nc)) 17 nc (nI ns)).2 = M.2 := by
          show (aeM (sI (sI M 9 nc x1) 2 9 (nI (nc + 1))) ns (nI nc)).2 = M.2
          unfold aeM
          show (nfF _ ns 6).2 = M.2
          rw [nfF_t]
          rfl
        have cE : d_X12_addClass x1 S = some (nI nc, (sI (sI (sI (sI (sI (sI (sI S 69 0 (0 : Int32)) 76 nc x1) 79 ns (nI nc)) 80 ns (nI 0)) 69 12 (nI (ns + 1))) 78 nc (nI ns)) 69 8 (nI (nc + 1)))) := by
          unfold d_X12_addClass
          rw [bnd_eq, h8', inC_T hnc hx]
          simp only [obind]
          rw [if_neg n1z, h8', if_neg hne5, h12', if_neg hne60, okk_pos (of_eq_true (qinT (by omega) (by omega))), qcl (by omega), bnd_eq, mI_ne (by omega), h8', m_newShape (t := ns) (by rw [mI_ne (by omega)]; exact h12') (by omega)]
          simp only [obind]
          rw [okk_pos (of_eq_true (qinT (by omega) (by omega))), qcl (by omega), bnd_eq, mI_ne (by omega), mI_ne (by omega), mI_ne (by omega), mI_ne (by omega), mI_ne (by omega), h8', l_1, qadd, bnd_eq, mI_eq, qsub (by omega)]
          rfl
        have cN' : d_X11_addClass x1 M = some (.inl (nI nc), (sI (aeM (sI (sI M 9 nc x1) 2 9 (nI (nc + 1))) ns (nI nc)) 17 nc (nI ns))) := by
          rw [clC_T hnc h29 hx]
          unfold d_X11_addClass_26 d_X5_addClassBelow
          rw [h29, if_pos hlt5, h11, if_pos hlt60, okk_pos (of_eq_true (qinT (by omega) (by omega))), qcl (by omega), bnd_eq, mI_ne (by omega), h29, l_1, qadd, bnd_eq, mI_eq, qsub (by omega)]
          simp only [obind]
          rw [Nat.add_sub_cancel, hadd]
          simp only [obind]
          rw [okk_pos (of_eq_true (qinT (by omega) (by omega))), qcl (by omega), bnd_eq]
        generalize (sI (sI (sI (sI (sI (sI (sI S 69 0 (0 : Int32)) 76 nc x1) 79 ns (nI nc)) 80 ns (nI 0)) 69 12 (nI (ns + 1))) 78 nc (nI ns)) 69 8 (nI (nc + 1))) = E at *
        generalize (sI (aeM (sI (sI M 9 nc x1) 2 9 (nI (nc + 1))) ns (nI nc)) 17 nc (nI ns)) = N at *
        have hz6 : ∀ s, s < ns → (mI S 80 s).toNatClampNeg ≤ 6 := fun s hs => by
          have := cN_le S s
          rw [(hWS.2.2.2.2 s hs).1, qcl (by omega)]
          exact this
        have hhF : ∀ s n, s < ns → (hasF E s n ↔ hasF S s n) := fun s n hs => hasF_e (hE 80 s (by omega) (by omega) (by omega)) (fun k hk => hE 81 _ (by omega) (by omega) (by omega)) (hz6 s hs)
        refine set_v (v := nI nc) (N := N) (E := E) (lT_addClass cN') cE hE00 (inv_set (ns2 := ns + 1) (nc2 := nc + 1) (nf2 := nf) hI (fun a j u => hN a j (by omega) (by omega) (by omega) (by omega) (by omega)) hNt (fun a j u => hE a j (by omega) (by omega) (by omega)) hEt ?_ ?_ ?_ ?_ (Nat.le_succ _) (Nat.le_succ _) (Nat.le_refl _) ?_ ?_ ?_ ?_ ?_) (fun a j u => hN a j (by omega) (by omega) (by omega) (by omega) (by omega)) hNt (fun j => hN 0 j (by omega) (by omega) (by omega) (by omega) (by omega))
        · obtain ⟨p1, p2, p3⟩ := hR.2.2.2.2.2
          refine ⟨fun g => ?_, ?_, ?_⟩
          · obtain ⟨a1, a2, a3, a4, a5, a6, a7, a8⟩ := p1 g
            rw [hN 3 g (by omega) (by omega) (by omega) (by omega) (by omega), hN 4 g (by omega) (by omega) (by omega) (by omega) (by omega), hN 5 g (by omega) (by omega) (by omega) (by omega) (by omega), hN 6 g (by omega) (by omega) (by omega) (by omega) (by omega), hN 7 g (by omega) (by omega) (by omega) (by omega) (by omega), hN 8 g (by omega) (by omega) (by omega) (by omega) (by omega), hN 10 g (by omega) (by omega) (by omega) (by omega) (by omega), hE 70 g (by omega) (by omega) (by omega), hE 71 g (by omega) (by omega) (by omega), hE 72 g (by omega) (by omega) (by omega), hE 73 g (by omega) (by omega) (by omega), hE 74 g (by omega) (by omega) (by omega), hE 75 g (by omega) (by omega) (by omega), hE 77 g (by omega) (by omega) (by omega)]
            refine ⟨a1, a2, a3, a4, a5, a6, ?_, a8⟩
            by_cases z : g = nc
            · rw [z, hN9, hE76]
            · rw [hN 9 g (by omega) (by omega) (by omega) (by omega) (by omega), hE 76 g (by omega) (by omega) (by omega)]; exact a7
          · rw [hN 2 8 (by omega) (by omega) (by omega) (by omega) (by omega), hE 69 1 (by omega) (by omega) (by omega)]; exact p2
          · rw [hN29, hE8]
        · obtain ⟨r1, r2, r3⟩ := hR.2.2.2.2.1
          refine ⟨hN11, fun c hc => ?_, fun s hs => ?_⟩
          · by_cases z : c = nc
            · rw [z, hN17, hE78]
            · rw [hN 17 c (by omega) (by omega) (by omega) (by omega) (by omega), hE 78 c (by omega) (by omega) (by omega)]; exact r2 c hc
          · by_cases z : s = ns
            · subst z
              refine ⟨hN12.trans hE79.symm, hN13.trans hE80.symm, fun n hn => ?_, fun k hk => .inr (by rw [hE80, qcl (by omega)]; omega), fun n hn => ⟨fun h => absurd h (hM_0 hN14 hn), fun h => absurd h (hasF_0 hE80)⟩⟩
              rw [hN16 n hn, hE 82 _ (by omega) (by omega) (by omega)]
              exact (hWS.2.2.1 _ (by omega) (by omega)).symm
            · obtain ⟨b1, b2, b3, b4, b5⟩ := r3 s (by omega)
              refine ⟨?_, ?_, fun n hn => ?_, fun k hk => ?_, fun n hn => ?_⟩
              · rw [hN 12 s (by omega) (by omega) (by omega) (by omega) (by omega), hE 79 s (by omega) (by omega) (by omega)]; exact b1
              · rw [hN 13 s (by omega) (by omega) (by omega) (by omega) (by omega), hE 80 s (by omega) (by omega) (by omega)]; exact b2
              · rw [hN 16 _ (by omega) (by omega) (by omega) (by omega) (by omega), hE 82 _ (by omega) (by omega) (by omega)]; exact b3 n hn
              · rw [hN 15 _ (by omega) (by omega) (by omega) (by omega) (by omega), hE 81 _ (by omega) (by omega) (by omega), hE 80 s (by omega) (by omega) (by omega)]; exact b4 k hk
              · have e14 : mI N 14 s = mI M 14 s := hN 14 s (by omega) (by omega) (by omega) (by omega) (by omega)
                exact (show hM N s n ↔ hM M s n by unfold hM; rw [e14]).trans ((b5 n hn).trans (hhF s n (by omega)).symm)
        · obtain ⟨w1, w2, w3, w4, w5, w6⟩ := hWP
          refine ⟨(hE 69 1 (by omega) (by omega) (by omega)).trans w1, w2, hE8, ⟨by omega, fun c hc => ?_⟩, fun g hg => ?_, fun c n hc hn => ?_⟩
          · by_cases z : c = nc
            · rw [z, hE76]
              rcases hx with h | ⟨p, h1, h2⟩
              · exact .inl h
              · exact .inr ⟨p, h1, h2⟩
            · rw [hE 76 c (by omega) (by omega) (by omega)]; exact w4.2 c (by omega)
          · obtain ⟨a1, a2, a3, a4⟩ := w5 g hg
            rw [hE 70 g (by omega) (by omega) (by omega), hE 71 g (by omega) (by omega) (by omega), hE 74 g (by omega) (by omega) (by omega)]
            refine ⟨a1, a2, a3, fun i hi => ?_⟩
            rw [hE 72 _ (by omega) (by omega) (by omega), hE 73 _ (by omega) (by omega) (by omega)]; exact LO_m (a4 i hi) (Nat.le_refl _) (Nat.le_succ _)
          · rw [hE 77 _ (by omega) (by omega) (by omega)]
            by_cases z : c = nc
            · exact .inl (hfrp.2 _ (by omega) (by omega))
            · rcases w6 c n (by omega) hn with u | ⟨g, u1, u2, u3⟩
              · exact .inl u
              · exact .inr ⟨g, u1, u2, (hE 70 g (by omega) (by omega) (by omega)).trans u3⟩
        · refine ⟨hE12, by omega, fun p hp hp2 => ?_, fun c hc => ?_, fun s hs => ?_⟩
          · rw [hE 82 p (by omega) (by omega) (by omega)]; exact hWS.2.2.1 p (by omega) hp2
          · by_cases z : c = nc
            · subst z; exact ⟨ns, by omega, hE78, hE80⟩
            · obtain ⟨s, s1, s2, s3⟩ := hWS.2.2.2.1 c (by omega)
              exact ⟨s, by omega, (hE 78 c (by omega) (by omega) (by omega)).trans s2, (hE 80 s (by omega) (by omega) (by omega)).trans s3⟩
          · by_cases z : s = ns
            · subst z
              refine ⟨by rw [cN_0 hE80]; exact hE80, ⟨nc, by omega, hE79⟩, fun k hk => by rw [cN_0 hE80] at hk; omega, fun n hn => .inl ?_⟩
              rw [hE 82 _ (by omega) (by omega) (by omega)]
              exact hWS.2.2.1 _ (by omega) (by omega)
            · obtain ⟨b1, ⟨c, c1, c2⟩, b3, b4⟩ := hWS.2.2.2.2 s (by omega)
              have hcN : cN E s = cN S s := by
                unfold cN
                rw [bIc (hhF s 0 (by omega)), bIc (hhF s 1 (by omega)), bIc (hhF s 2 (by omega)), bIc (hhF s 3 (by omega)), bIc (hhF s 4 (by omega)), bIc (hhF s 5 (by omega))]
              refine ⟨by rw [hcN, hE 80 s (by omega) (by omega) (by omega)]; exact b1, ⟨c, by omega, (hE 79 s (by omega) (by omega) (by omega)).trans c2⟩, fun k hk => by rw [hE 81 _ (by omega) (by omega) (by omega)]; exact b3 k (by rw [← hcN]; exact hk), fun n hn => ?_⟩
              rw [hE 82 _ (by omega) (by omega) (by omega)]
              rcases b4 n hn with u | ⟨v, v1, v2, v3, v4⟩
              · exact .inl u
              · exact .inr ⟨v, v1, by omega, v3, fun m hm => (hhF v m v2).trans ((v4 m hm).trans (or_congr Iff.rfl (hhF s m (by omega)).symm))⟩
        · exact ⟨fun c hc => hE 78 c (by omega) (by omega) (by omega), fun g _ => hE 70 g (by omega) (by omega) (by omega), fun s hs => ⟨hE 79 s (by omega) (by omega) (by omega), hE 80 s (by omega) (by omega) (by omega), fun k _ => hE 81 _ (by omega) (by omega) (by omega), fun n _ _ => hE 82 _ (by omega) (by omega) (by omega)⟩⟩
        · exact h71_e (fun a j u v => hE a j (by omega) (by omega) (by omega))
        · exact fun b => hE 75 b (by omega) (by omega) (by omega)
        · exact fun b2 cl _ hcl => mOf_b hWP.2.2.2.1 (fun c hc => hE 76 c (by omega) (by omega) (by omega)) (fun p => hE 77 p (by omega) (by omega) (by omega)) b2 7 cl hcl
        · refine ⟨fun g u v => ?_, fun p u v => ?_⟩
          · rw [hE 71 g (by omega) (by omega) (by omega), hE 74 g (by omega) (by omega) (by omega)]; exact hfrp.1 g u v
          · rw [hE 77 p (by omega) (by omega) (by omega)]; exact hfrp.2 p (by omega) v
  · refine ASK.setr hI (ask_t (k := nI 1) (v := nI 0) (E := sI (sI S 69 0 (0 : Int32)) 69 0 (1 : Int32)) (lE1_addClass (clC_F h29 hx1 hx)) ?_ (mI_eq _ _ _ _) n1n ((sc_1 _ _).trans (sc_1 _ _)))
    unfold d_X12_addClass
    rw [bnd_eq, h8', inC_F hnc hx1 hx]
    simp only [obind]
    rw [if_pos z00]
    rfl
end MW6
