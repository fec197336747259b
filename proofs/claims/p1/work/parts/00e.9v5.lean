/-! ===== setters: methods ===== -/
section MV5
/-- what becomes of a method's cache -/
def emV (l v : Int32) : Int32 := if l = (109 : Int32) then (if v = (-1 : Int32) then v else (0 : Int32)) else v
theorem em_c {M : Mem} : ∀ (j k N : Nat) (X : Mem), 320 = k + j → j < N → (∀ a q, a ≠ 41 → mI X a q = mI M a q) → X.2 = M.2 → (∀ q, q < k → mI X 41 q = emV (mI M 6 q) (mI M 41 q)) → (∀ q, k ≤ q → mI X 41 q = mI M 41 q) → ∃ T, d_X0_emptyMethods_2 N (nI k) X = some ((), T) ∧ (∀ a q, a ≠ 41 → mI T a q = mI M a q) ∧ T.2 = M.2 ∧ (∀ q, q < 320 → mI T 41 q = emV (mI M 6 q) (mI M 41 q)) ∧ ∀ q, 320 ≤ q → mI T 41 q = mI M 41 q := by
  intro j
  induction j with
  | zero =>
    intro k N X hk hN h1 h2 h3 h4
    obtain ⟨m, rfl, -⟩ := ex_pred hN
    obtain rfl : k = 320 := by omega
    refine ⟨X, ?_, h1, h2, h3, h4⟩
    rw [st_X0_emptyMethods_2]
    unfold d_X0_emptyMethods_2b
    rw [if_pos (show (320 : Int32) ≤ nI 320 by decide)]
  | succ j ih =>
    intro k N X hk hN h1 h2 h3 h4
    obtain ⟨m, rfl, hm⟩ := ex_pred hN
    have hv : vp_in (nI k) 320 := of_eq_true (qinT (by omega) (by omega))
    have hcl : (nI k).toNatClampNeg = k := qcl (by omega)
    have ek : nI k + (1 : Int32) = nI (k + 1) := by rw [l_1, qadd]
    have e6 := h1 6 k (by omega)
    have e41 := h4 k (Nat.le_refl _)
    have keep : emV (mI M 6 k) (mI M 41 k) = mI M 41 k → ∃ T, d_X0_emptyMethods_2 m (nI (k + 1)) X = some ((), T) ∧ (∀ a q, a ≠ 41 → mI T a q = mI M a q) ∧ T.2 = M.2 ∧ (∀ q, q < 320 → mI T 41 q = emV (mI M 6 q) (mI M 41 q)) ∧ ∀ q, 320 ≤ q → mI T 41 q = mI M 41 q := fun e => by
      refine ih (k + 1) m X (by omega) (by omega) h1 h2 (fun q hq => ?_) (fun q hq => h4 q (by omega))
      by_cases c : q = k
      · rw [c, e41, e]
      · exact h3 q (by omega)
    rw [st_X0_emptyMethods_2]
    unfold d_X0_emptyMethods_2b
    rw [if_neg (show ¬ (320 : Int32) ≤ nI k by rw [l_320]; exact of_eq_false (qleF (by omega) (by omega))), okk_pos hv, hcl, okk_pos hv, okk_pos hv, e6, e41]
    unfold d_X0_emptyMethods_37
    simp only [bnd_eq]
    rw [ek]
    by_cases c1 : mI M 6 k = (109 : Int32)
    · rw [if_pos c1]
      by_cases c2 : mI M 41 k = (-1 : Int32)
      · rw [if_pos c2]
        exact keep (by unfold emV; rw [if_pos c1, if_pos c2])
      · rw [if_neg c2]
        refine ih (k + 1) m (sI X 41 k (0 : Int32)) (by omega) (by omega) (fun a q u => (mI_ne (by omega)).trans (h1 a q u)) h2 (fun q hq => ?_) (fun q hq => (mI_ne (by omega)).trans (h4 q (by omega)))
        by_cases c : q = k
        · rw [c, mI_eq]; unfold emV; rw [if_pos c1, if_neg c2]
        · rw [mI_ne (by omega)]; exact h3 q (by omega)
    · rw [if_neg c1]
      exact keep (by unfold emV; rw [if_neg c1])
theorem em_r {S : Mem} : ∀ (j k N : Nat) (X : Mem), 320 = k + j → j < N → (∀ a q, a ≠ 83 → mI X a q = mI S a q) → X.2 = S.2 → (∀ q, q < k → mI X 83 q = emV (mI S 72 q) (mI S 83 q)) → (∀ q, k ≤ q → mI X 83 q = mI S 83 q) → ∃ T, d_X12_setMethod_85 N (nI k) X = (d_X12_throwsWith (109 : Int32) (-1 : Int32) T).bind (fun y1 => some (y1.1, y1.2)) ∧ (∀ a q, a ≠ 83 → mI T a q = mI S a q) ∧ T.2 = S.2 ∧ (∀ q, q < 320 → mI T 83 q = emV (mI S 72 q) (mI S 83 q)) ∧ ∀ q, 320 ≤ q → mI T 83 q = mI S 83 q := by
  intro j
  induction j with
  | zero =>
    intro k N X hk hN h1 h2 h3 h4
    obtain ⟨m, rfl, -⟩ := ex_pred hN
    obtain rfl : k = 320 := by omega
    refine ⟨X, ?_, h1, h2, h3, h4⟩
    rw [st_X12_setMethod_85]
    unfold d_X12_setMethod_85b
    rw [if_pos (show (320 : Int32) ≤ nI 320 by decide)]
  | succ j ih =>
    intro k N X hk hN h1 h2 h3 h4
    obtain ⟨m, rfl, hm⟩ := ex_pred hN
    have hv : vp_in (nI k) 320 := of_eq_true (qinT (by omega) (by omega))
    have hcl : (nI k).toNatClampNeg = k := qcl (by omega)
    have ek : nI k + (1 : Int32) = nI (k + 1) := by rw [l_1, qadd]
    have e72 := h1 72 k (by omega)
    have e83 := h4 k (Nat.le_refl _)
    have put : ∀ v, v = emV (mI S 72 k) (mI S 83 k) → ∃ T, d_X12_setMethod_85 m (nI (k + 1)) (sI X 83 k v) = (d_X12_throwsWith (109 : Int32) (-1 : Int32) T).bind (fun y1 => some (y1.1, y1.2)) ∧ (∀ a q, a ≠ 83 → mI T a q = mI S a q) ∧ T.2 = S.2 ∧ (∀ q, q < 320 → mI T 83 q = emV (mI S 72 q) (mI S 83 q)) ∧ ∀ q, 320 ≤ q → mI T 83 q = mI S 83 q := fun v e => by
      refine ih (k + 1) m (sI X 83 k v) (by omega) (by omega) (fun a q u => (mI_ne (by omega)).trans (h1 a q u)) h2 (fun q hq => ?_) (fun q hq => (mI_ne (by omega)).trans (h4 q (by omega)))
      by_cases c : q = k
      · rw [c, mI_eq]; exact e
      · rw [mI_ne (by omega)]; exact h3 q (by omega)
    rw [st_X12_setMethod_85]
    unfold d_X12_setMethod_85b
    rw [if_neg (show ¬ (320 : Int32) ≤ nI k by rw [l_320]; exact of_eq_false (qleF (by omega) (by omega))), okk_pos hv, hcl, okk_pos hv]
    unfold d_X12_setMethod_126 d_X12_setMethod_133
    rw [hcl]
    simp only [bnd_eq]
    simp only [okk_pos hv]
    rw [ek, e72, e83]
    by_cases c1 : mI S 72 k = (109 : Int32)
    · rw [if_pos c1]
      by_cases c2 : mI S 83 k = (-1 : Int32)
      · rw [if_pos c2]
        exact put _ (by unfold emV; rw [if_pos c1, if_pos c2])
      · rw [if_neg c2]
        exact put _ (by unfold emV; rw [if_pos c1, if_neg c2])
    · rw [if_neg c1]
      exact put _ (by unfold emV; rw [if_neg c1])
theorem hcl_T {M : Mem} {c nc : Nat} (hc : c < nc) (hn : nc ≤ 5) (h9 : mI M 2 9 = nI nc) : d_X5_hasClass (nI c) M = some (nI 1, M) := by
  unfold d_X5_hasClass
  rw [if_neg (nn0 c (by omega)), h9, if_neg (of_eq_false (qleF (by omega) (by omega)))]
  rfl
theorem hcl_F {M : Mem} {x : Int32} {nc : Nat} (h9 : mI M 2 9 = nI nc) (hx : x < (0 : Int32) ∨ ∃ k, k < 2147483648 ∧ nc ≤ k ∧ x = nI k) : d_X5_hasClass x M = some (nI 0, M) := by
  unfold d_X5_hasClass
  rcases hx with h | ⟨k, k1, k2, rfl⟩
  · rw [if_pos h]; rfl
  · rw [if_neg (nn0 k k1), h9, if_pos (of_eq_true (qleT k2 k1))]; rfl
theorem hfn_T {M : Mem} {c nf : Nat} (hc : c < nf) (hn : nf ≤ 8) (h9 : mI M 2 8 = nI nf) : d_X5_hasFunction (nI c) M = some (nI 1, M) := by
  unfold d_X5_hasFunction
  rw [if_neg (nn0 c (by omega)), h9, if_neg (of_eq_false (qleF (by omega) (by omega)))]
  rfl
theorem hfn_F {M : Mem} {x : Int32} {nf : Nat} (h9 : mI M 2 8 = nI nf) (hx : x < (0 : Int32) ∨ ∃ k, k < 2147483648 ∧ nf ≤ k ∧ x = nI k) : d_X5_hasFunction x M = some (nI 0, M) := by
  unfold d_X5_hasFunction
  rcases hx with h | ⟨k, k1, k2, rfl⟩
  · rw [if_pos h]; rfl
  · rw [if_neg (nn0 k k1), h9, if_pos (of_eq_true (qleT k2 k1))]; rfl
theorem n3n : ¬ nI 3 = nI 0 := by decide
theorem n4n : ¬ nI 4 = nI 0 := by decide
theorem s_setMethod {M S : Mem} {cnt ns nc nf : Nat} {x1 x2 x3 : Int32} (hI : INV M S cnt ns nc nf) : SETR (d_L_setMethod x1 x2 x3) (d_X12_setMethod x1 x2 x3) M S cnt := by
  obtain ⟨ob, hR, hW, -⟩ := inv_m hI
  have hfrp := inv_fr hI
  obtain ⟨hCC, hCW⟩ := inv_caw hI
  have hWP := hW.2.2.2.2.1
  have hPR := hR.2.2.2.2.2
  have hnf : nf ≤ 8 := hWP.2.1
  have hnc : nc ≤ 5 := hWP.2.2.2.1.1
  have h1 : mI S 69 1 = nI nf := hWP.1
  have h8 : mI S 69 8 = nI nc := hWP.2.2.1
  have h28 : mI M 2 8 = nI nf := hPR.2.1.trans h1
  have h29 : mI M 2 9 = nI nc := hPR.2.2.trans h8
  have h1' : mI (sI S 69 0 (0 : Int32)) 69 1 = nI nf := (mI_ne (by omega)).trans h1
  have h8' : mI (sI S 69 0 (0 : Int32)) 69 8 = nI nc := (mI_ne (by omega)).trans h8
  rcases idx_c x1 nc (by omega) with ⟨cl, hc, rfl⟩ | hx
  · rcases idx_c x2 6 (by omega) with ⟨n, hn, rfl⟩ | hy
    · rcases idx_c x3 nf (by omega) with ⟨g, hg, rfl⟩ | hz
      · have hv : vp_in (nI g) 8 := of_eq_true (qinT (by omega) (by omega))
        have hcg : (nI g).toNatClampNeg = g := qcl (by omega)
        have e3 : mI M 3 g = mI S 70 g := (hPR.1 g).1
        have er : (6 : Int32) * nI cl + nI n = nI (6 * cl + n) := by rw [l_6, qmul, qadd]
        have ec : nI cl * (6 : Int32) + nI n = nI (6 * cl + n) := by rw [l_6, qmul, qadd]; exact congrArg nI (by omega)
        have hv2 : vp_in (nI (6 * cl + n)) 30 := of_eq_true (qinT (by omega) (by omega))
        have hc2 : (nI (6 * cl + n)).toNatClampNeg = 6 * cl + n := qcl (by omega)
        by_cases q : mI S 70 g = (1 : Int32)
        · have hfb := fuel_big
          obtain ⟨M2, m1, m2, m3, m4, m5⟩ := em_c (M := sI M 10 (6 * cl + n) (nI g)) 320 0 fuel (sI M 10 (6 * cl + n) (nI g)) (by omega) (by omega) (fun _ _ _ => rfl) rfl (fun q h => absurd h (by omega)) (fun _ _ => rfl)
          obtain ⟨S2, s1, s2, s3, s4, s5⟩ := em_r (S := sI (sI S 69 0 (0 : Int32)) 77 (6 * cl + n) (nI g)) 320 0 fuel (sI (sI S 69 0 (0 : Int32)) 77 (6 * cl + n) (nI g)) (by omega) (by omega) (fun _ _ _ => rfl) rfl (fun q h => absurd h (by omega)) (fun _ _ => rfl)
          have hN : ∀ a j, (a ≠ 10 ∨ j ≠ 6 * cl + n) → a ≠ 41 → mI M2 a j = mI M a j := fun a j u v => (m2 a j v).trans (mI_ne (by omega))
          have hN10 : mI M2 10 (6 * cl + n) = nI g := (m2 10 _ (by omega)).trans (mI_eq _ _ _ _)
          have hN41 : ∀ j, j < 320 → mI M2 41 j = emV (mI M 6 j) (mI M 41 j) := fun j hj => by
            rw [m4 j hj, mI_ne (by omega), mI_ne (by omega)]
          have hN41b : ∀ j, 320 ≤ j → mI M2 41 j = mI M 41 j := fun j hj => (m5 j hj).trans (mI_ne (by omega))
          have hE : ∀ a j, (a ≠ 77 ∨ j ≠ 6 * cl + n) → a ≠ 83 → (a ≠ 69 ∨ j ≠ 0) → mI S2 a j = mI S a j := fun a j u v z => (s2 a j v).trans (by rw [mI_ne (by omega), mI_ne (by omega)])
          have hE77 : mI S2 77 (6 * cl + n) = nI g := (s2 77 _ (by omega)).trans (mI_eq _ _ _ _)
          have hE69 : mI S2 69 0 = nI 0 := (s2 69 0 (by omega)).trans ((mI_ne (by omega)).trans (mI_eq _ _ _ _))
          have hE83 : ∀ j, j < 320 → mI S2 83 j = emV (mI S 72 j) (mI S 83 j) := fun j hj => by
            rw [s4 j hj, mI_ne (by omega), mI_ne (by omega), mI_ne (by omega), mI_ne (by omega)]
          have hE83b : ∀ j, 320 ≤ j → mI S2 83 j = mI S 83 j := fun j hj => (s5 j hj).trans (by rw [mI_ne (by omega), mI_ne (by omega)])
          have m3' : M2.2 = M.2 := m3
          have s3' : S2.2 = S.2 := s3
          clear m2 m3 m4 m5 s2 s3 s4 s5
          have hI2 : INV2 (fun j => mI S 75 j) (fun j => mI S 77 j) M2 S2 cnt ns nc nf := by
            refine inv2_set hI (fun a j u v z => hN a j (by omega) (by omega)) m3' (fun a j u v z y => hE a j (by omega) (by omega) (by omega)) s3' ⟨fun i => ?_, ?_, ?_⟩ ?_ (fun j => ?_) (fun j hj => ?_) ⟨fun f u v => ?_, fun p u v => ?_⟩
            · obtain ⟨a1, a2, a3, a4, a5, a6, a7, a8⟩ := hPR.1 i
              rw [hN 3 i (by omega) (by omega), hN 4 i (by omega) (by omega), hN 5 i (by omega) (by omega), hN 6 i (by omega) (by omega), hN 7 i (by omega) (by omega), hN 8 i (by omega) (by omega), hN 9 i (by omega) (by omega), hE 70 i (by omega) (by omega) (by omega), hE 71 i (by omega) (by omega) (by omega), hE 74 i (by omega) (by omega) (by omega), hE 72 i (by omega) (by omega) (by omega), hE 73 i (by omega) (by omega) (by omega), hE 75 i (by omega) (by omega) (by omega), hE 76 i (by omega) (by omega) (by omega)]
              refine ⟨a1, a2, a3, a4, a5, a6, a7, ?_⟩
              by_cases c : i = 6 * cl + n
              · rw [c, hN10, hE77]
              · rw [hN 10 i (by omega) (by omega), hE 77 i (by omega) (by omega) (by omega)]; exact a8
            · rw [hN 2 8 (by omega) (by omega), hE 69 1 (by omega) (by omega) (by omega)]; exact hPR.2.1
            · rw [hN 2 9 (by omega) (by omega), hE 69 8 (by omega) (by omega) (by omega)]; exact hPR.2.2
            · refine WP_g hWP (hE 69 1 (by omega) (by omega) (by omega)) (hE 69 8 (by omega) (by omega) (by omega)) (fun a p u v z => hE a p (by omega) (by omega) (by omega)) (fun c k hc hk => ?_)
              by_cases e : 6 * c + k = 6 * cl + n
              · exact .inr ⟨g, hg, by rw [e]; exact hE77, q⟩
              · exact .inl (hE 77 _ (by omega) (by omega) (by omega))
            · by_cases hj : j < 320
              · rw [hN41 j hj, hE83 j hj, (hPR.1 j).2.2.2.1, (hCC j).2.1]
              · rw [hN41b j (by omega), hE83b j (by omega)]; exact (hCC j).2.1
            · rw [hE83 j hj]
              unfold emV
              split
              · split
                · rename_i h; exact .inl h
                · exact .inr ⟨0, by omega, rfl⟩
              · exact hCW j hj
            · rw [hE 71 f (by omega) (by omega) (by omega), hE 74 f (by omega) (by omega) (by omega)]; exact hfrp.1 f u v
            · rw [hE 77 p (by omega) (by omega) (by omega)]; exact hfrp.2 p u v
          obtain ⟨N, E, v, u1, u2, u3, u4, u5, u6, u7⟩ := tw_all (c := 109) (x := (0 : Int32)) (x2 := (-1 : Int32)) (x3 := (0 : Int32)) (by omega) (.inl ⟨rfl, rfl⟩) (.inl rfl) hI2
          have hI3 : INV N E cnt ns nc nf := by
            refine inv2_end u3 (fun t k st f i b2 _ _ _ _ _ _ _ _ _ _ _ => ?_) (fun t k st f i b2 c2 ht h8 h9 h0 hk hf hi hl q1 q2 q3 _ => ?_)
            · exact (u6 75 b2 (by omega) (by omega)).trans (hE 75 b2 (by omega) (by omega) (by omega))
            · exact absurd ⟨k, f, i, hk, hf, hi, hl, q1, .inl rfl⟩ (u7 t st ht h8 h9 h0)
          have e0 : mI E 69 0 = nI 0 := (u6 69 0 (by omega) (by omega)).trans hE69
          have cc : d_X11_setMethod (nI cl) (nI n) (nI g) M = some (.inl v, N) := by
            unfold d_X11_setMethod
            rw [hcl_T hc hnc h29]
            simp only [obind]
            rw [if_neg n1z, inm_T hn]
            simp only [obind]
            rw [if_neg n1z, hfn_T hg hnf h28]
            simp only [obind]
            rw [if_neg n1z, okk_pos hv, hcg, e3, if_pos q, ec, okk_pos hv2, hc2, bnd_eq]
            unfold d_X0_emptyMethods
            rw [show d_X0_emptyMethods_2 fuel (0 : Int32) (sI M 10 (6 * cl + n) (nI g)) = some ((), M2) from m1]
            simp only [obind]
            rw [l_109, u1]
            rfl
          have cr : d_X12_setMethod (nI cl) (nI n) (nI g) S = some (v, E) := by
            unfold d_X12_setMethod
            rw [bnd_eq, h8', in_T hc (by omega)]
            simp only [obind]
            rw [if_neg n1z, e5m, in_T hn (by omega)]
            simp only [obind]
            rw [if_neg n1z, if_T hg hnf h1']
            simp only [obind]
            rw [if_neg n1z, okk_pos hv, hcg, mI_ne (by omega), if_pos q, er, okk_pos hv2, hc2, bnd_eq, show d_X12_setMethod_85 fuel (0 : Int32) (sI (sI S 69 0 (0 : Int32)) 77 (6 * cl + n) (nI g)) = (d_X12_throwsWith (109 : Int32) (-1 : Int32) S2).bind (fun y1 => some (y1.1, y1.2)) from s1, l_109, u2]
            rfl
          refine ⟨nI 0, v, sL N 127 0 v.toInt64, E, ns, nc, nf, lT_setMethod cc, cr, e0, fun _ => mL_eq _ _ _ _, inv_M hI3 (nc_L _ _).ec, ?_⟩
          have c1 : CFR M M2 cnt cnt 0 := cfr_eq cnt (fun a j u v => ⟨hN a j (by omega) (by omega), congrArg (fun z => z.2.1 a j) m3', congrArg (fun z => z.1 a j) m3'⟩) (congrArg (fun z => z.2.2.2) m3')
          have c2 := (c1.trans ((MF.c u4 cnt).cfr)).trans ((nc_L N v.toInt64).cfr cnt)
          exact c2
        · refine ASK.setr hI (ask_t (k := nI 4) (v := nI 0) (E := sI (sI S 69 0 (0 : Int32)) 69 0 (4 : Int32)) (lE4_setMethod ?_) ?_ (mI_eq _ _ _ _) n4n ((sc_1 _ _).trans (sc_1 _ _)))
          · unfold d_X11_setMethod
            rw [hcl_T hc hnc h29]
            simp only [obind]
            rw [if_neg n1z, inm_T hn]
            simp only [obind]
            rw [if_neg n1z, hfn_T hg hnf h28]
            simp only [obind]
            rw [if_neg n1z, okk_pos hv, hcg, e3, if_neg q]
          · unfold d_X12_setMethod
            rw [bnd_eq, h8', in_T hc (by omega)]
            simp only [obind]
            rw [if_neg n1z, e5m, in_T hn (by omega)]
            simp only [obind]
            rw [if_neg n1z, if_T hg hnf h1']
            simp only [obind]
            rw [if_neg n1z, okk_pos hv, hcg, mI_ne (by omega), if_neg q]
            rfl
      · refine ASK.setr hI (ask_t (k := nI 3) (v := nI 0) (E := sI (sI S 69 0 (0 : Int32)) 69 0 (3 : Int32)) (lE3_setMethod ?_) ?_ (mI_eq _ _ _ _) n3n ((sc_1 _ _).trans (sc_1 _ _)))
        · unfold d_X11_setMethod
          rw [hcl_T hc hnc h29]
          simp only [obind]
          rw [if_neg n1z, inm_T hn]
          simp only [obind]
          rw [if_neg n1z, hfn_F h28 hz]
          rfl
        · unfold d_X12_setMethod
          rw [bnd_eq, h8', in_T hc (by omega)]
          simp only [obind]
          rw [if_neg n1z, e5m, in_T hn (by omega)]
          simp only [obind]
          rw [if_neg n1z, if_F hnf h1' hz]
          simp only [obind]
          rw [if_pos z00]
          rfl
    · refine ASK.setr hI (ask_t (k := nI 2) (v := nI 0) (E := sI (sI S 69 0 (0 : Int32)) 69 0 (2 : Int32)) (lE2_setMethod ?_) ?_ (mI_eq _ _ _ _) n2n ((sc_1 _ _).trans (sc_1 _ _)))
      · unfold d_X11_setMethod
        rw [hcl_T hc hnc h29]
        simp only [obind]
        rw [if_neg n1z, inm_F hy]
        rfl
      · unfold d_X12_setMethod
        rw [bnd_eq, h8', in_T hc (by omega)]
        simp only [obind]
        rw [if_neg n1z, e5m, in_F (by omega) hy]
        simp only [obind]
        rw [if_pos z00]
        rfl
  · refine ASK.setr hI (ask_t (k := nI 1) (v := nI 0) (E := sI (sI S 69 0 (0 : Int32)) 69 0 (1 : Int32)) (lE1_setMethod ?_) ?_ (mI_eq _ _ _ _) n1n ((sc_1 _ _).trans (sc_1 _ _)))
    · unfold d_X11_setMethod
      rw [hcl_F h29 hx]
      rfl
    · unfold d_X12_setMethod
      rw [bnd_eq, h8', in_F (by omega) hx]
      simp only [obind]
      rw [if_pos z00]
      rfl
end MV5
