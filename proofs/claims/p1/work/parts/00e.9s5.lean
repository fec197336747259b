/-! ===== setters: code ===== -/
section MW5
theorem lts_ch {x : Int32} (h : x ∈ LTS) : isCh x := by
  unfold LTS at h
  simp only [List.mem_cons, List.not_mem_nil, or_false] at h
  rcases h with rfl | rfl | rfl | rfl | rfl | rfl | rfl | rfl | rfl | rfl | rfl | rfl | rfl | rfl | rfl | rfl | rfl | rfl | rfl | rfl | rfl | rfl | rfl
  all_goals exact ⟨by decide, by decide⟩
theorem s_code {M S : Mem} {cnt ns nc nf : Nat} {x1 x2 x3 : Int32} (hI : INV M S cnt ns nc nf) : SETR (d_L_code x1 x2 x3) (d_X12_code x1 x2 x3) M S cnt := by
  obtain ⟨ob, hR, hW, -⟩ := inv_m hI
  have hfrp := inv_fr hI
  have hWP := hW.2.2.2.2.1
  have hWS := hW.2.2.2.1
  have hnf : nf ≤ 8 := hWP.2.1
  have h1 : mI S 69 1 = nI nf := hWP.1
  have h8 : mI S 69 8 = nI nc := hWP.2.2.1
  have hnc : nc ≤ 5 := hWP.2.2.2.1.1
  have h28 : mI M 2 8 = nI nf := hR.2.2.2.2.2.2.1.trans h1
  have h29 : mI M 2 9 = nI nc := hR.2.2.2.2.2.2.2.trans h8
  have h1' : mI (sI S 69 0 (0 : Int32)) 69 1 = nI nf := (mI_ne (by omega)).trans h1
  have h8' : mI (sI S 69 0 (0 : Int32)) 69 8 = nI nc := (mI_ne (by omega)).trans h8
  rcases idx_c x1 nf (by omega) with ⟨f, hf, rfl⟩ | hx
  · have hv : vp_in (nI f) 8 := of_eq_true (qinT (by omega) (by omega))
    have hcl : (nI f).toNatClampNeg = f := qcl (by omega)
    obtain ⟨-, ⟨m, hm, em⟩, -, -⟩ := hWP.2.2.2.2.1 f hf
    have e4 : mI M 4 f = nI m := (hR.2.2.2.2.2.1 f).2.1.trans em
    by_cases hk : CDK nf nc x2 x3
    · have hch := lts_ch hk.1
      by_cases q : m = 40
      · refine ASK.setr hI (ask_t (k := nI 3) (v := nI 0) (E := sI (sI S 69 0 (0 : Int32)) 69 0 (3 : Int32)) (lE3_code ?_) ?_ (mI_eq _ _ _ _) (by decide) ((sc_1 _ _).trans (sc_1 _ _)))
        · unfold d_X11_code
          rw [cl_need hf hnf h28]
          simp only [obind]
          rw [if_pos ((xi_0 x2).mpr hk.1), c_allows h28 h29 hnf hnc, pBT hk.2]
          simp only [obind]
          rw [if_neg n1z, okk_pos hv, hcl, e4, if_neg (show ¬ nI m < (40 : Int32) by rw [l_40]; exact of_eq_false (qltF (by omega) (by omega)))]
        · unfold d_X12_code
          rw [bnd_eq, if_T hf hnf h1']
          simp only [obind]
          rw [if_neg n1z, r_code h1' h8' hnf hnc, pBT hk]
          simp only [obind]
          rw [if_neg n1z, okk_pos hv, hcl, mI_ne (by omega), em, if_pos (show nI m = (40 : Int32) by rw [q]; rfl)]
          rfl
      · have hE : ∀ a j, (a ≠ 69 ∨ j ≠ 0) → ((a ≠ 72 ∧ a ≠ 73) ∨ j ≠ 40 * f + m) → (a ≠ 71 ∨ j ≠ f) → mI (sI (sI (sI (sI S 69 0 (0 : Int32)) 72 (40 * f + m) x2) 73 (40 * f + m) x3) 71 f (nI (m + 1))) a j = mI S a j := fun a j u v y => by rw [mI_ne (by omega), mI_ne (by omega), mI_ne (by omega), mI_ne (by omega)]
        have hE1 : mI (sI (sI (sI (sI S 69 0 (0 : Int32)) 72 (40 * f + m) x2) 73 (40 * f + m) x3) 71 f (nI (m + 1))) 71 f = nI (m + 1) := mI_eq _ _ _ _
        have hE2 : mI (sI (sI (sI (sI S 69 0 (0 : Int32)) 72 (40 * f + m) x2) 73 (40 * f + m) x3) 71 f (nI (m + 1))) 72 (40 * f + m) = x2 := by rw [mI_ne (by omega), mI_ne (by omega), mI_eq]
        have hE3 : mI (sI (sI (sI (sI S 69 0 (0 : Int32)) 72 (40 * f + m) x2) 73 (40 * f + m) x3) 71 f (nI (m + 1))) 73 (40 * f + m) = x3 := by rw [mI_ne (by omega), mI_eq]
        have hN : ∀ a j, ((a ≠ 6 ∧ a ≠ 7) ∨ j ≠ 40 * f + m) → (a ≠ 4 ∨ j ≠ f) → mI (sI (sI (sI M 6 (40 * f + m) x2) 7 (40 * f + m) x3) 4 f (nI (m + 1))) a j = mI M a j := fun a j u v => by rw [mI_ne (by omega), mI_ne (by omega), mI_ne (by omega)]
        have hN1 : mI (sI (sI (sI M 6 (40 * f + m) x2) 7 (40 * f + m) x3) 4 f (nI (m + 1))) 4 f = nI (m + 1) := mI_eq _ _ _ _
        have hN2 : mI (sI (sI (sI M 6 (40 * f + m) x2) 7 (40 * f + m) x3) 4 f (nI (m + 1))) 6 (40 * f + m) = x2 := by rw [mI_ne (by omega), mI_ne (by omega), mI_eq]
        have hN3 : mI (sI (sI (sI M 6 (40 * f + m) x2) 7 (40 * f + m) x3) 4 f (nI (m + 1))) 7 (40 * f + m) = x3 := by rw [mI_ne (by omega), mI_eq]
        have hv3 : vp_in (nI (40 * f + m)) 320 := of_eq_true (qinT (by omega) (by omega))
        have hc3 : (nI (40 * f + m)).toNatClampNeg = 40 * f + m := qcl (by omega)
        have hs : d_X11_siteOf (nI f) (nI m) M = some (nI (40 * f + m), M) := by
          unfold d_X11_siteOf
          rw [e40]
        refine set_v (v := nI (m + 1)) (N := (sI (sI (sI M 6 (40 * f + m) x2) 7 (40 * f + m) x3) 4 f (nI (m + 1)))) (E := (sI (sI (sI (sI S 69 0 (0 : Int32)) 72 (40 * f + m) x2) 73 (40 * f + m) x3) 71 f (nI (m + 1)))) (lT_code ?_) ?_ ?_ (inv_set (ns2 := ns) (nc2 := nc) (nf2 := nf) hI (fun a j u => hN a j (by omega) (by omega)) rfl (fun a j u => hE a j (by omega) (by omega) (by omega)) rfl ?_ ?_ ?_ ?_ (Nat.le_refl _) (Nat.le_refl _) (Nat.le_refl _) ?_ ?_ ?_ ?_ ?_) (fun a j u => hN a j (by omega) (by omega)) rfl (fun j => hN 0 j (by omega) (by omega))
        · unfold d_X11_code
          rw [cl_need hf hnf h28]
          simp only [obind]
          rw [if_pos ((xi_0 x2).mpr hk.1), c_allows h28 h29 hnf hnc, pBT hk.2]
          simp only [obind]
          rw [if_neg n1z, okk_pos hv, hcl, e4, if_pos (show nI m < (40 : Int32) by rw [l_40]; exact of_eq_true (qltT (by omega) (by omega)))]
          unfold d_X5_append
          rw [okk_pos hv, hcl, e4, hs]
          simp only [obind]
          rw [okk_pos hv3, hc3, okk_pos hch, bnd_eq, okk_pos hv3, bnd_eq, okk_pos hv, okk_pos hv, mI_ne (by omega), mI_ne (by omega), e4, l_1, qadd, bnd_eq, okk_pos hv, mI_eq]
          rfl
        · unfold d_X12_code
          rw [bnd_eq, if_T hf hnf h1']
          simp only [obind]
          rw [if_neg n1z, r_code h1' h8' hnf hnc, pBT hk]
          simp only [obind]
          rw [if_neg n1z, okk_pos hv, hcl, mI_ne (by omega), em, if_neg (show ¬ nI m = (40 : Int32) by rw [l_40]; exact of_eq_false (qeqF q (by omega) (by omega))), okk_pos hv, e40', okk_pos hv3, hc3, okk_pos hch, bnd_eq, okk_pos hv, mI_ne (by omega), mI_ne (by omega), em, e40', okk_pos hv3, hc3, bnd_eq, okk_pos hv, okk_pos hv, mI_ne (by omega), mI_ne (by omega), mI_ne (by omega), em, l_1, qadd, bnd_eq, okk_pos hv, mI_eq]
        · rw [mI_ne (by omega), mI_ne (by omega), mI_ne (by omega), mI_eq]; rfl
        · obtain ⟨p1, p2, p3⟩ := hR.2.2.2.2.2
          refine ⟨fun g => ?_, ?_, ?_⟩
          · obtain ⟨a1, a2, a3, a4, a5, a6⟩ := p1 g
            rw [hN 3 g (by omega) (by omega), hN 5 g (by omega) (by omega), hN 8 g (by omega) (by omega), hN 9 g (by omega) (by omega), hN 10 g (by omega) (by omega), hE 70 g (by omega) (by omega) (by omega), hE 74 g (by omega) (by omega) (by omega), hE 75 g (by omega) (by omega) (by omega), hE 76 g (by omega) (by omega) (by omega), hE 77 g (by omega) (by omega) (by omega)]
            refine ⟨a1, ?_, a3, ?_, ?_, a6⟩
            · by_cases z : g = f
              · rw [z, hN1, hE1]
              · rw [hN 4 g (by omega) (by omega), hE 71 g (by omega) (by omega) (by omega)]; exact a2
            · by_cases z : g = 40 * f + m
              · rw [z, hN2, hE2]
              · rw [hN 6 g (by omega) (by omega), hE 72 g (by omega) (by omega) (by omega)]; exact a4
            · by_cases z : g = 40 * f + m
              · rw [z, hN3, hE3]
              · rw [hN 7 g (by omega) (by omega), hE 73 g (by omega) (by omega) (by omega)]; exact a5
          · rw [hN 2 8 (by omega) (by omega), hE 69 1 (by omega) (by omega) (by omega)]; exact p2
          · rw [hN 2 9 (by omega) (by omega), hE 69 8 (by omega) (by omega) (by omega)]; exact p3
        · exact RS_e hR.2.2.2.2.1 (fun a p u v => hN a p (by omega) (by omega)) (fun p => hE 78 p (by omega) (by omega) (by omega)) (fun p => hE 79 p (by omega) (by omega) (by omega)) (fun p => hE 80 p (by omega) (by omega) (by omega)) (fun p => hE 81 p (by omega) (by omega) (by omega)) (fun p => hE 82 p (by omega) (by omega) (by omega))
        · obtain ⟨w1, w2, w3, w4, w5, w6⟩ := hWP
          refine ⟨(hE 69 1 (by omega) (by omega) (by omega)).trans w1, w2, (hE 69 8 (by omega) (by omega) (by omega)).trans w3, ⟨w4.1, fun c hc => ?_⟩, fun g hg => ?_, fun c n hc hn => ?_⟩
          · rw [hE 76 c (by omega) (by omega) (by omega)]; exact w4.2 c hc
          · obtain ⟨a1, ⟨mg, hmg, emg⟩, a3, a4⟩ := w5 g hg
            rw [hE 70 g (by omega) (by omega) (by omega), hE 74 g (by omega) (by omega) (by omega)]
            rw [emg, qcl (by omega)] at a4
            by_cases z : g = f
            · subst z
              obtain rfl : mg = m := qinj (by omega) (by omega) (emg.symm.trans em)
              rw [hE1, qcl (by omega)]
              refine ⟨a1, ⟨mg + 1, by omega, rfl⟩, a3, fun i hi => ?_⟩
              by_cases y : i = mg
              · subst y; rw [hE2, hE3]; exact cdk_lo hk
              · rw [hE 72 _ (by omega) (by omega) (by omega), hE 73 _ (by omega) (by omega) (by omega)]; exact a4 i (by omega)
            · rw [hE 71 g (by omega) (by omega) (by omega), emg, qcl (by omega)]
              refine ⟨a1, ⟨mg, hmg, rfl⟩, a3, fun i hi => ?_⟩
              rw [hE 72 _ (by omega) (by omega) (by omega), hE 73 _ (by omega) (by omega) (by omega)]; exact a4 i hi
          · rw [hE 77 _ (by omega) (by omega) (by omega)]
            rcases w6 c n hc hn with u | ⟨g, u1, u2, u3⟩
            · exact .inl u
            · exact .inr ⟨g, u1, u2, (hE 70 g (by omega) (by omega) (by omega)).trans u3⟩
        · exact WS_e hWS (hE 69 12 (by omega) (by omega) (by omega)) (fun p => hE 78 p (by omega) (by omega) (by omega)) (fun p => hE 79 p (by omega) (by omega) (by omega)) (fun p => hE 80 p (by omega) (by omega) (by omega)) (fun p => hE 81 p (by omega) (by omega) (by omega)) (fun p => hE 82 p (by omega) (by omega) (by omega))
        · exact tx_e (fun c _ => hE 78 c (by omega) (by omega) (by omega)) (fun g _ => hE 70 g (by omega) (by omega) (by omega)) (fun a j u v => hE a j (by omega) (by omega) (by omega))
        · intro g mg hg h2 h3
          by_cases z : g = f
          · subst z
            obtain rfl : mg = m := qinj (by omega) (by omega) (h2.symm.trans em)
            exact ⟨mg + 1, hE1, by omega, by omega, fun i hi => ⟨hE 72 _ (by omega) (by omega) (by omega), hE 73 _ (by omega) (by omega) (by omega)⟩⟩
          · exact ⟨mg, (hE 71 g (by omega) (by omega) (by omega)).trans h2, Nat.le_refl _, h3, fun i hi => ⟨hE 72 _ (by omega) (by omega) (by omega), hE 73 _ (by omega) (by omega) (by omega)⟩⟩
        · exact fun b => hE 75 b (by omega) (by omega) (by omega)
        · exact fun b2 cl _ _ => mOf_q (fun p => hE 77 p (by omega) (by omega) (by omega)) (fun p => hE 76 p (by omega) (by omega) (by omega)) b2 7 (nI cl)
        · refine ⟨fun g u v => ?_, fun p u v => ?_⟩
          · rw [hE 71 g (by omega) (by omega) (by omega), hE 74 g (by omega) (by omega) (by omega)]; exact hfrp.1 g u v
          · rw [hE 77 p (by omega) (by omega) (by omega)]; exact hfrp.2 p u v
    · refine ASK.setr hI (ask_t (k := nI 2) (v := nI 0) (E := sI (sI S 69 0 (0 : Int32)) 69 0 (2 : Int32)) (lE2_code ?_) ?_ (mI_eq _ _ _ _) n2n ((sc_1 _ _).trans (sc_1 _ _)))
      · unfold d_X11_code
        rw [cl_need hf hnf h28]
        simp only [obind]
        by_cases q : x2 ∈ LTS
        · rw [if_pos ((xi_0 x2).mpr q), c_allows h28 h29 hnf hnc, pBF (fun z => hk ⟨q, z⟩)]
          simp only [obind]
          rw [if_pos z00]
        · rw [if_neg (fun z => q ((xi_0 x2).mp z))]
      · unfold d_X12_code
        rw [bnd_eq, if_T hf hnf h1']
        simp only [obind]
        rw [if_neg n1z, r_code h1' h8' hnf hnc, pBF hk]
        simp only [obind]
        rw [if_pos z00]
        rfl
  · refine ASK.setr hI (ask_t (k := nI 1) (v := nI 0) (E := sI (sI S 69 0 (0 : Int32)) 69 0 (1 : Int32)) (lE1_code ?_) ?_ (mI_eq _ _ _ _) n1n ((sc_1 _ _).trans (sc_1 _ _)))
    · unfold d_X11_code
      rw [cl_needF h28 hx]
      rfl
    · unfold d_X12_code
      rw [bnd_eq, if_F hnf h1' hx]
      simp only [obind]
      rw [if_pos z00]
      rfl
end MW5
