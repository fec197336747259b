/-! ===== setters: a function more ===== -/
section MW3
theorem LO_m {nf nc nf2 nc2 : Nat} {c a : Int32} (h : LO nf nc c a) (h1 : nf ≤ nf2) (h2 : nc ≤ nc2) : LO nf2 nc2 c a := by
  unfold LO at h ⊢
  rcases h with h | h | h | h | ⟨h, n, n1, n2⟩ | ⟨h, n, n1, n2⟩ | h
  · exact .inl h
  · exact .inr (.inl h)
  · exact .inr (.inr (.inl h))
  · exact .inr (.inr (.inr (.inl h)))
  · exact .inr (.inr (.inr (.inr (.inl ⟨h, n, by omega, n2⟩))))
  · exact .inr (.inr (.inr (.inr (.inr (.inl ⟨h, n, by omega, n2⟩)))))
  · exact .inr (.inr (.inr (.inr (.inr (.inr h)))))
theorem e3m : (3 : Int32) = nI 4 - (1 : Int32) := by decide
theorem inv_fr {M S : Mem} {cnt ns nc nf : Nat} (hI : INV M S cnt ns nc nf) : FRP S nf nc := by
  obtain ⟨B, H, G, F, b, fg, ob, -, -, -, -, -, -, -, -, -, -, -, -, -, h⟩ := hI
  exact h
theorem s_addFunction {M S : Mem} {cnt ns nc nf : Nat} {x1 : Int32} (hI : INV M S cnt ns nc nf) : SETR (d_L_addFunction x1) (d_X12_addFunction x1) M S cnt := by
  obtain ⟨ob, hR, hW, -⟩ := inv_m hI
  have hfrp := inv_fr hI
  have hWP := hW.2.2.2.2.1
  have hWS := hW.2.2.2.1
  have hnf : nf ≤ 8 := hWP.2.1
  have h1 : mI S 69 1 = nI nf := hWP.1
  have h28 : mI M 2 8 = nI nf := hR.2.2.2.2.2.2.1.trans h1
  have h1' : mI (sI S 69 0 (0 : Int32)) 69 1 = nI nf := (mI_ne (by omega)).trans h1
  rcases idx_c x1 4 (by omega) with ⟨k, hk, rfl⟩ | hx
  · have hle : nI k ≤ (3 : Int32) := by rw [show (3 : Int32) = nI 3 from rfl]; exact of_eq_true (qleT (by omega) (by omega))
    by_cases q : nf = 8
    · refine ASK.setr hI (ask_t (k := nI 2) (v := nI 0) (E := sI (sI S 69 0 (0 : Int32)) 69 0 (2 : Int32)) (lE2_addFunction ?_) ?_ (mI_eq _ _ _ _) n2n ((sc_1 _ _).trans (sc_1 _ _)))
      · unfold d_X11_addFunction
        rw [if_neg (nn0 k (by omega)), if_pos hle, h28, if_neg (show ¬ nI nf < (8 : Int32) by rw [l_8]; exact of_eq_false (qltF (by omega) (by omega)))]
      · unfold d_X12_addFunction
        rw [bnd_eq, e3m, in_T hk (by omega)]
        simp only [obind]
        rw [if_neg n1z, h1', if_pos (show nI nf = (8 : Int32) by rw [q]; rfl)]
        rfl
    · have hv : vp_in (nI nf) 8 := of_eq_true (qinT (by omega) (by omega))
      have hcl : (nI nf).toNatClampNeg = nf := qcl (by omega)
      have hE : ∀ a j, (a ≠ 69 ∨ (j ≠ 0 ∧ j ≠ 1)) → (a ≠ 70 ∨ j ≠ nf) → mI (sI (sI (sI S 69 0 (0 : Int32)) 70 nf (nI k)) 69 1 (nI (nf + 1))) a j = mI S a j := fun a j u v => by rw [mI_ne (by omega), mI_ne (by omega), mI_ne (by omega)]
      have hE1 : mI (sI (sI (sI S 69 0 (0 : Int32)) 70 nf (nI k)) 69 1 (nI (nf + 1))) 69 1 = nI (nf + 1) := mI_eq _ _ _ _
      have hE7 : mI (sI (sI (sI S 69 0 (0 : Int32)) 70 nf (nI k)) 69 1 (nI (nf + 1))) 70 nf = nI k := (mI_ne (by omega)).trans (mI_eq _ _ _ _)
      have hN : ∀ a j, (a ≠ 3 ∨ j ≠ nf) → (a ≠ 2 ∨ j ≠ 8) → mI (sI (sI M 3 nf (nI k)) 2 8 (nI (nf + 1))) a j = mI M a j := fun a j u v => by rw [mI_ne (by omega), mI_ne (by omega)]
      have hN2 : mI (sI (sI M 3 nf (nI k)) 2 8 (nI (nf + 1))) 2 8 = nI (nf + 1) := mI_eq _ _ _ _
      have hN3 : mI (sI (sI M 3 nf (nI k)) 2 8 (nI (nf + 1))) 3 nf = nI k := (mI_ne (by omega)).trans (mI_eq _ _ _ _)
      refine set_v (v := nI nf) (N := sI (sI M 3 nf (nI k)) 2 8 (nI (nf + 1))) (E := sI (sI (sI S 69 0 (0 : Int32)) 70 nf (nI k)) 69 1 (nI (nf + 1))) (lT_addFunction ?_) ?_ ((mI_ne (by omega)).trans ((mI_ne (by omega)).trans (mI_eq _ _ _ _))) (inv_set (ns2 := ns) (nc2 := nc) (nf2 := nf + 1) hI (fun a j u => hN a j (by omega) (by omega)) rfl (fun a j u => hE a j (by omega) (by omega)) rfl ?_ ?_ ?_ ?_ (Nat.le_refl _) (Nat.le_refl _) (Nat.le_succ _) ?_ ?_ ?_ ?_ ?_) (fun a j u => hN a j (by omega) (by omega)) rfl (fun j => hN 0 j (by omega) (by omega))
      · unfold d_X11_addFunction
        rw [if_neg (nn0 k (by omega)), if_pos hle, h28, if_pos (show nI nf < (8 : Int32) by rw [l_8]; exact of_eq_true (qltT (by omega) (by omega)))]
        unfold d_X5_addFunctionWith
        rw [h28, okk_pos hv, hcl, bnd_eq, mI_ne (by omega), h28, l_1, qadd, bnd_eq, mI_eq, qsub (by omega)]
        rfl
      · unfold d_X12_addFunction
        rw [bnd_eq, e3m, in_T hk (by omega)]
        simp only [obind]
        rw [if_neg n1z, h1', if_neg (show ¬ nI nf = (8 : Int32) by rw [l_8]; exact of_eq_false (qeqF q (by omega) (by omega))), okk_pos hv, hcl, bnd_eq, mI_ne (by omega), h1', l_1, qadd, bnd_eq, mI_eq, qsub (by omega)]
        rfl
      · obtain ⟨p1, p2, p3⟩ := hR.2.2.2.2.2
        refine ⟨fun q => ?_, ?_, ?_⟩
        · obtain ⟨a1, a2, a3, a4⟩ := p1 q
          rw [hN 4 q (by omega) (by omega), hN 5 q (by omega) (by omega), hN 6 q (by omega) (by omega), hN 7 q (by omega) (by omega), hN 8 q (by omega) (by omega), hN 9 q (by omega) (by omega), hN 10 q (by omega) (by omega), hE 71 q (by omega) (by omega), hE 72 q (by omega) (by omega), hE 73 q (by omega) (by omega), hE 74 q (by omega) (by omega), hE 75 q (by omega) (by omega), hE 76 q (by omega) (by omega), hE 77 q (by omega) (by omega)]
          refine ⟨?_, a2, a3, a4⟩
          by_cases z : q = nf
          · subst z; rw [hN3, hE7]
          · rw [hN 3 q (by omega) (by omega), hE 70 q (by omega) (by omega)]; exact a1
        · rw [hN2, hE1]
        · rw [hN 2 9 (by omega) (by omega), hE 69 8 (by omega) (by omega)]; exact p3
      · exact RS_e hR.2.2.2.2.1 (fun a p u v => hN a p (by omega) (by omega)) (fun p => hE 78 p (by omega) (by omega)) (fun p => hE 79 p (by omega) (by omega)) (fun p => hE 80 p (by omega) (by omega)) (fun p => hE 81 p (by omega) (by omega)) (fun p => hE 82 p (by omega) (by omega))
      · obtain ⟨w1, w2, w3, w4, w5, w6⟩ := hWP
        refine ⟨hE1, by omega, (hE 69 8 (by omega) (by omega)).trans w3, ⟨w4.1, fun c hc => ?_⟩, fun g hg => ?_, fun c n hc hn => ?_⟩
        · rw [hE 76 c (by omega) (by omega)]; exact w4.2 c hc
        · rw [hE 71 g (by omega) (by omega), hE 74 g (by omega) (by omega)]
          by_cases z : g = nf
          · subst z
            obtain ⟨f1, f2⟩ := hfrp.1 g (Nat.le_refl _) (by omega)
            rw [hE7, f1, f2]
            exact ⟨⟨k, hk, rfl⟩, ⟨0, by omega, rfl⟩, .inl rfl, fun i hi => by rw [qcl (by omega)] at hi; omega⟩
          · obtain ⟨a1, a2, a3, a4⟩ := w5 g (by omega)
            rw [hE 70 g (by omega) (by omega)]
            refine ⟨a1, a2, a3, fun i hi => ?_⟩
            rw [hE 72 _ (by omega) (by omega), hE 73 _ (by omega) (by omega)]; exact LO_m (a4 i hi) (Nat.le_succ _) (Nat.le_refl _)
        · rw [hE 77 _ (by omega) (by omega)]
          rcases w6 c n hc hn with u | ⟨g, u1, u2, u3⟩
          · exact .inl u
          · exact .inr ⟨g, by omega, u2, (hE 70 g (by omega) (by omega)).trans u3⟩
      · exact WS_e hWS (hE 69 12 (by omega) (by omega)) (fun p => hE 78 p (by omega) (by omega)) (fun p => hE 79 p (by omega) (by omega)) (fun p => hE 80 p (by omega) (by omega)) (fun p => hE 81 p (by omega) (by omega)) (fun p => hE 82 p (by omega) (by omega))
      · exact tx_e (fun c _ => hE 78 c (by omega) (by omega)) (fun g _ => hE 70 g (by omega) (by omega)) (fun a j u v => hE a j (by omega) (by omega))
      · exact h71_e (fun a j u v => hE a j (by omega) (by omega))
      · exact fun b => hE 75 b (by omega) (by omega)
      · exact fun b2 cl _ _ => mOf_q (fun p => hE 77 p (by omega) (by omega)) (fun p => hE 76 p (by omega) (by omega)) b2 7 (nI cl)
      · refine ⟨fun g u v => ?_, fun p u v => ?_⟩
        · rw [hE 71 g (by omega) (by omega), hE 74 g (by omega) (by omega)]; exact hfrp.1 g (by omega) v
        · rw [hE 77 p (by omega) (by omega)]; exact hfrp.2 p u v
  · refine ASK.setr hI (ask_t (k := nI 1) (v := nI 0) (E := sI (sI S 69 0 (0 : Int32)) 69 0 (1 : Int32)) (lE1_addFunction ?_) ?_ (mI_eq _ _ _ _) n1n ((sc_1 _ _).trans (sc_1 _ _)))
    · unfold d_X11_addFunction d_X11_addFunction_9
      rcases hx with c | ⟨k, k1, k2, rfl⟩
      · rw [if_pos c]
      · rw [if_neg (nn0 k k1), if_neg (show ¬ nI k ≤ (3 : Int32) by rw [show (3 : Int32) = nI 3 from rfl]; exact of_eq_false (qleF (by omega) (by omega)))]
    · unfold d_X12_addFunction
      rw [bnd_eq, e3m, in_F (by omega) hx]
      simp only [obind]
      rw [if_pos z00]
      rfl
end MW3
