/-! ===== setters: cells ===== -/
section MV4
theorem WP_g {S E : Mem} {nf nc : Nat} (h : WP S nf nc) (h1 : mI E 69 1 = mI S 69 1) (h8 : mI E 69 8 = mI S 69 8) (hp : ∀ a p, 70 ≤ a → a ≤ 76 → a ≠ 75 → mI E a p = mI S a p) (h77 : ∀ c n, c < nc → n < 6 → mI E 77 (6 * c + n) = mI S 77 (6 * c + n) ∨ ∃ g, g < nf ∧ mI E 77 (6 * c + n) = nI g ∧ mI S 70 g = nI 1) : WP E nf nc := by
  obtain ⟨w1, w2, w3, w4, w5, w6⟩ := h
  refine ⟨h1.trans w1, w2, h8.trans w3, ⟨w4.1, fun c hc => ?_⟩, fun g hg => ?_, fun c n hc hn => ?_⟩
  · rw [hp 76 c (by omega) (by omega) (by omega)]; exact w4.2 c hc
  · obtain ⟨a1, a2, a3, a4⟩ := w5 g hg
    rw [hp 70 g (by omega) (by omega) (by omega), hp 71 g (by omega) (by omega) (by omega), hp 74 g (by omega) (by omega) (by omega)]
    refine ⟨a1, a2, a3, fun i hi => ?_⟩
    rw [hp 72 _ (by omega) (by omega) (by omega), hp 73 _ (by omega) (by omega) (by omega)]; exact a4 i hi
  · rcases h77 c n hc hn with e | ⟨g, u1, u2, u3⟩
    · rcases w6 c n hc hn with u | ⟨g, u1, u2, u3⟩
      · exact .inl (e.trans u)
      · exact .inr ⟨g, u1, e.trans u2, (hp 70 g (by omega) (by omega) (by omega)).trans u3⟩
    · exact .inr ⟨g, u1, u2, (hp 70 g (by omega) (by omega) (by omega)).trans u3⟩
theorem e7m : (7 : Int32) = nI 8 - (1 : Int32) := by decide
theorem inv_caw {M S : Mem} {cnt ns nc nf : Nat} (hI : INV M S cnt ns nc nf) : CAC M S ∧ CAW S := by
  obtain ⟨B, H, G, F, b, fg, ob, -, -, -, -, -, -, h7, h8, -⟩ := hI
  exact ⟨h7, h8⟩
theorem s_setCell {M S : Mem} {cnt ns nc nf : Nat} {x1 x2 : Int32} (hI : INV M S cnt ns nc nf) : SETR (d_L_setCell x1 x2) (d_X12_setCell x1 x2) M S cnt := by
  obtain ⟨ob, hR, hW, -⟩ := inv_m hI
  have hfrp := inv_fr hI
  obtain ⟨hCC, hCW⟩ := inv_caw hI
  have hWP := hW.2.2.2.2.1
  have hPR := hR.2.2.2.2.2
  rcases idx_c x1 8 (by omega) with ⟨b, hb, rfl⟩ | hx
  · have hv : vp_in (nI b) 8 := of_eq_true (qinT (by omega) (by omega))
    have hcl : (nI b).toNatClampNeg = b := qcl (by omega)
    have e8 : mI M 8 b = mI S 75 b := (hPR.1 b).2.2.2.2.2.1
    have hlt : nI b < (8 : Int32) := by rw [l_8]; exact of_eq_true (qltT hb (by omega))
    have hr0 : ∀ s0 : Int32, mI (sI S 69 0 (0 : Int32)) 75 b = mI S 75 b := fun _ => mI_ne (by omega)
    by_cases q : mI S 75 b = x2
    · have hE : ER S (sI (sI S 69 0 (0 : Int32)) 75 b x2) := fun a j u v z => by
        refine ⟨?_, rfl, rfl⟩
        by_cases c : a = 75 ∧ j = b
        · rw [c.1, c.2, mI_eq]; exact q.symm
        · rw [mI_ne (by omega), mI_ne (by omega)]
      refine set_v (v := (0 : Int32)) (N := M) (E := sI (sI S 69 0 (0 : Int32)) 75 b x2) (lT_setCell ?_) ?_ ((mI_ne (by omega)).trans (mI_eq _ _ _ _)) (inv_S hI hE) (fun _ _ _ => rfl) rfl (fun _ => rfl)
      · unfold d_X11_setCell
        rw [if_neg (nn0 b (by omega)), if_pos hlt, okk_pos hv, hcl, if_pos (e8.trans q)]
      · unfold d_X12_setCell
        rw [bnd_eq, e7m, in_T hb (by omega)]
        simp only [obind]
        rw [if_neg n1z, okk_pos hv, hcl, mI_ne (by omega), if_pos q]
        unfold d_X12_setCell_36
        rw [okk_pos hv, hcl, bnd_eq, if_pos rfl]
    · have hN : ∀ a j, (a ≠ 8 ∨ j ≠ b) → mI (sI M 8 b x2) a j = mI M a j := fun a j u => mI_ne (by omega)
      have hN8 : mI (sI M 8 b x2) 8 b = x2 := mI_eq _ _ _ _
      have hE : ∀ a j, (a ≠ 75 ∨ j ≠ b) → (a ≠ 69 ∨ j ≠ 0) → mI (sI (sI S 69 0 (0 : Int32)) 75 b x2) a j = mI S a j := fun a j u v => by rw [mI_ne (by omega), mI_ne (by omega)]
      have hE75 : mI (sI (sI S 69 0 (0 : Int32)) 75 b x2) 75 b = x2 := mI_eq _ _ _ _
      have hE69 : mI (sI (sI S 69 0 (0 : Int32)) 75 b x2) 69 0 = nI 0 := (mI_ne (by omega)).trans (mI_eq _ _ _ _)
      have hI2 : INV2 (fun j => mI S 75 j) (fun j => mI S 77 j) (sI M 8 b x2) (sI (sI S 69 0 (0 : Int32)) 75 b x2) cnt ns nc nf := by
        refine inv2_set hI (fun a j u v z => hN a j (by omega)) rfl (fun a j u v z y => hE a j (by omega) (by omega)) rfl ⟨fun i => ?_, ?_, ?_⟩ ?_ (fun j => ?_) (fun j hj => ?_) ⟨fun g u v => ?_, fun p u v => ?_⟩
        · obtain ⟨a1, a2, a3, a4, a5, a6, a7, a8⟩ := hPR.1 i
          rw [hN 3 i (by omega), hN 4 i (by omega), hN 5 i (by omega), hN 6 i (by omega), hN 7 i (by omega), hN 9 i (by omega), hN 10 i (by omega), hE 70 i (by omega) (by omega), hE 71 i (by omega) (by omega), hE 74 i (by omega) (by omega), hE 72 i (by omega) (by omega), hE 73 i (by omega) (by omega), hE 76 i (by omega) (by omega), hE 77 i (by omega) (by omega)]
          refine ⟨a1, a2, a3, a4, a5, ?_, a7, a8⟩
          by_cases c : i = b
          · rw [c, hN8, hE75]
          · rw [hN 8 i (by omega), hE 75 i (by omega) (by omega)]; exact a6
        · rw [hN 2 8 (by omega), hE 69 1 (by omega) (by omega)]; exact hPR.2.1
        · rw [hN 2 9 (by omega), hE 69 8 (by omega) (by omega)]; exact hPR.2.2
        · exact WP_g hWP (hE 69 1 (by omega) (by omega)) (hE 69 8 (by omega) (by omega)) (fun a p u v z => hE a p (by omega) (by omega)) (fun c n _ _ => .inl (hE 77 _ (by omega) (by omega)))
        · rw [hN 41 j (by omega), hE 83 j (by omega) (by omega)]; exact (hCC j).2.1
        · rw [hE 83 j (by omega) (by omega)]; exact hCW j hj
        · rw [hE 71 g (by omega) (by omega), hE 74 g (by omega) (by omega)]; exact hfrp.1 g u v
        · rw [hE 77 p (by omega) (by omega)]; exact hfrp.2 p u v
      have hn1 : ¬ nI b = (-1 : Int32) := of_eq_false (qneg_ne (by omega))
      obtain ⟨N, E, v, u1, u2, u3, u4, u5, u6, u7⟩ := tw_all (c := 107) (x := nI b) (x2 := nI b) (x3 := nI b) (by omega) (.inr ⟨by omega, hn1, rfl⟩) (.inr ⟨by omega, rfl⟩) hI2
      have hI3 : INV N E cnt ns nc nf := by
        refine inv2_end u3 (fun t k st f i b2 ht h8 h9 h0 hk hf hi hl q1 q2 q3 => ?_) (fun t k st f i b2 cl _ _ _ _ _ _ _ _ _ _ _ _ => ?_)
        · by_cases c : b2 = b
          · exact absurd ⟨k, f, i, hk, hf, hi, hl, q1, .inr (by rw [q2, c])⟩ (u7 t st ht h8 h9 h0)
          · exact (u6 75 b2 (by omega) (by omega)).trans (hE 75 b2 (by omega) (by omega))
        · exact mOf_q (fun p => by rw [km_77, u6 77 p (by omega) (by omega)]; exact hE 77 p (by omega) (by omega)) (fun p => (km_n (by omega)).symm) b2 7 (nI cl)
      have e0 : mI E 69 0 = nI 0 := (u6 69 0 (by omega) (by omega)).trans hE69
      have cc : d_X11_setCell (nI b) x2 M = some (.inl v, N) := by
        unfold d_X11_setCell
        rw [if_neg (nn0 b (by omega)), if_pos hlt, okk_pos hv, hcl, if_neg (fun z => q (e8.symm.trans z)), okk_pos hv, bnd_eq, l_107, u1]
        rfl
      have cr : d_X12_setCell (nI b) x2 S = some (v, E) := by
        unfold d_X12_setCell
        rw [bnd_eq, e7m, in_T hb (by omega)]
        simp only [obind]
        rw [if_neg n1z, okk_pos hv, hcl, mI_ne (by omega), if_neg q]
        unfold d_X12_setCell_36
        rw [okk_pos hv, hcl, bnd_eq, if_neg (show ¬ (1 : Int32) = 0 by decide), l_107, u2]
        rfl
      refine ⟨nI 0, v, sL N 127 0 v.toInt64, E, ns, nc, nf, lT_setCell cc, cr, e0, fun _ => mL_eq _ _ _ _, inv_M hI3 (nc_L _ _).ec, ?_⟩
      have c1 : CFR M (sI M 8 b x2) cnt cnt 0 := cfr_eq cnt (fun a j u v => ⟨hN a j (by omega), rfl, rfl⟩) rfl
      have c2 := (c1.trans ((MF.c u4 cnt).cfr)).trans ((nc_L N v.toInt64).cfr cnt)
      exact c2
  · refine ASK.setr hI (ask_t (k := nI 1) (v := nI 0) (E := sI (sI S 69 0 (0 : Int32)) 69 0 (1 : Int32)) (lE1_setCell ?_) ?_ (mI_eq _ _ _ _) n1n ((sc_1 _ _).trans (sc_1 _ _)))
    · unfold d_X11_setCell d_X11_setCell_10
      rcases hx with h | ⟨k, k1, k2, rfl⟩
      · exact if_pos h
      · rw [if_neg (nn0 k k1), if_neg (show ¬ nI k < (8 : Int32) by rw [l_8]; exact of_eq_false (qltF k2 k1))]
    · unfold d_X12_setCell
      rw [bnd_eq, e7m, in_F (by omega) hx]
      simp only [obind]
      rw [if_pos z00]
      rfl
end MV4
