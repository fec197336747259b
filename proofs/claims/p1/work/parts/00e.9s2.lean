/-! ===== setters: handlers, functions ===== -/
section MW2
/-- a setter in both: the same answer, and what holds between calls holds on -/
def SETR (c r : Mem → Option (Int32 × Mem)) (M S : Mem) (cnt : Nat) : Prop := ∃ k v N E ns nc nf, c M = some (k, N) ∧ r S = some (v, E) ∧ mI E 69 0 = k ∧ (k = nI 0 → mL N 127 0 = v.toInt64) ∧ INV N E cnt ns nc nf ∧ CFR M N cnt cnt 1
theorem ASK.setr {c r : Mem → Option (Int32 × Mem)} {M S : Mem} {cnt ns nc nf : Nat} (hI : INV M S cnt ns nc nf) (h : ASK c r M S) : SETR c r M S cnt := by
  obtain ⟨k, v, N, E, h1, h2, h3, h4, h5, h6⟩ := h
  exact ⟨k, v, N, E, ns, nc, nf, h1, h2, h3, h4, inv_ask hI h5 h6, h5.cfr cnt⟩
theorem set_v {c r : Mem → Option (Int32 × Mem)} {M S N E : Mem} {v : Int32} {cnt ns nc nf : Nat} (hc : c M = some (nI 0, sL N 127 0 v.toInt64)) (hr : r S = some (v, E)) (h0 : mI E 69 0 = nI 0) (hI : INV N E cnt ns nc nf) (hN : ∀ a j, (a < 2 ∨ 17 < a) → mI N a j = mI M a j) (hN2 : N.2 = M.2) (h00 : ∀ j, mI N 0 j = mI M 0 j) : SETR c r M S cnt := by
  refine ⟨_, _, _, _, ns, nc, nf, hc, hr, h0, fun _ => mL_eq _ _ _ _, inv_M hI (nc_L _ _).ec, ?_⟩
  have c1 : CFR M N cnt cnt 0 := cfr_eq cnt (fun a j u v => ⟨hN a j (by omega), congrArg (fun z => z.2.1 a j) hN2, congrArg (fun z => z.1 a j) hN2⟩) (congrArg (fun z => z.2.2.2) hN2)
  have := c1.trans ((nc_L N v.toInt64).cfr cnt)
  rw [Nat.zero_add] at this
  exact this
/-- the program's cells of both, changed alike -/
theorem mOf_q {S E : Mem} (h77 : ∀ p, mI E 77 p = mI S 77 p) (h76 : ∀ p, mI E 76 p = mI S 76 p) (b2 : Nat) : ∀ n x, mOf E b2 n x = mOf S b2 n x := by
  intro n
  induction n with
  | zero => intro x; rfl
  | succ n ih =>
    intro x
    unfold mOf
    simp only [h77, h76, ih]
theorem tx_e {S E : Mem} {ns nc nf : Nat} (h78 : ∀ c, c < nc → mI E 78 c = mI S 78 c) (h70 : ∀ f, f < nf → mI E 70 f = mI S 70 f) (h : ∀ a j, 78 < a → a < 83 → mI E a j = mI S a j) : TX S E ns nc nf := ⟨h78, h70, fun s _ => ⟨h 79 s (by omega) (by omega), h 80 s (by omega) (by omega), fun k _ => h 81 _ (by omega) (by omega), fun n _ _ => h 82 _ (by omega) (by omega)⟩⟩
theorem h71_e {S E : Mem} {nf : Nat} (h : ∀ a j, 70 < a → a < 74 → mI E a j = mI S a j) : ∀ f m, f < nf → mI S 71 f = nI m → m ≤ 40 → ∃ m2, mI E 71 f = nI m2 ∧ m ≤ m2 ∧ m2 ≤ 40 ∧ ∀ i, i < m → mI E 72 (40 * f + i) = mI S 72 (40 * f + i) ∧ mI E 73 (40 * f + i) = mI S 73 (40 * f + i) := fun f m _ h1 h2 => ⟨m, (h 71 f (by omega) (by omega)).trans h1, Nat.le_refl _, h2, fun i _ => ⟨h 72 _ (by omega) (by omega), h 73 _ (by omega) (by omega)⟩⟩
theorem s_setHandler {M S : Mem} {cnt ns nc nf : Nat} {x1 x2 : Int32} (hI : INV M S cnt ns nc nf) : SETR (d_L_setHandler x1 x2) (d_X12_setHandler x1 x2) M S cnt := by
  obtain ⟨ob, hR, hW, -⟩ := inv_m hI
  have hfrp : FRP S nf nc := by
    obtain ⟨B, H, G, F, b, fg, ob, -, -, -, -, -, -, -, -, -, -, -, -, -, h⟩ := hI
    exact h
  have hWP := hW.2.2.2.2.1
  have hWS := hW.2.2.2.1
  have hnf : nf ≤ 8 := hWP.2.1
  have h1 : mI S 69 1 = nI nf := hWP.1
  have h28 : mI M 2 8 = nI nf := hR.2.2.2.2.2.2.1.trans h1
  have h1' : mI (sI S 69 0 (0 : Int32)) 69 1 = nI nf := (mI_ne (by omega)).trans h1
  rcases idx_c x1 nf (by omega) with ⟨f, hf, rfl⟩ | hx
  · have hv : vp_in (nI f) 8 := of_eq_true (qinT (by omega) (by omega))
    have hcl : (nI f).toNatClampNeg = f := qcl (by omega)
    rcases idx_c x2 40 (by omega) with ⟨i, hi, rfl⟩ | hy
    · have e5 : mI M 5 f = mI S 74 f := (hR.2.2.2.2.2.1 f).2.2.1
      have hE : ∀ a j, (a ≠ 69 ∨ j ≠ 0) → (a ≠ 74 ∨ j ≠ f) → mI (sI (sI S 69 0 (0 : Int32)) 74 f (nI i)) a j = mI S a j := fun a j u v => by rw [mI_ne (by omega), mI_ne (by omega)]
      have hN : ∀ a j, (a ≠ 5 ∨ j ≠ f) → mI (sI M 5 f (nI i)) a j = mI M a j := fun a j v => mI_ne (by omega)
      refine set_v (v := mI S 74 f) (N := sI M 5 f (nI i)) (E := sI (sI S 69 0 (0 : Int32)) 74 f (nI i)) (lT_setHandler ?_) ?_ ((mI_ne (by omega)).trans (mI_eq _ _ _ _)) (inv_set (ns2 := ns) (nc2 := nc) (nf2 := nf) hI (fun a j u => hN a j (by omega)) rfl (fun a j u => hE a j (by omega) (by omega)) rfl ?_ ?_ ?_ ?_ (Nat.le_refl _) (Nat.le_refl _) (Nat.le_refl _) ?_ ?_ ?_ ?_ ?_) (fun a j u => hN a j (by omega)) rfl (fun j => hN 0 j (by omega))
      · unfold d_X11_setHandler
        rw [cl_need hf hnf h28]
        simp only [obind]
        rw [ni_T hi]
        simp only [obind]
        rw [okk_pos hv, hcl, bnd_eq, okk_pos hv, bnd_eq, e5]
      · unfold d_X12_setHandler
        rw [bnd_eq, if_T hf hnf h1']
        simp only [obind]
        rw [if_neg n1z, e39, in_T hi (by omega)]
        simp only [obind]
        rw [if_neg n1z, okk_pos hv, hcl, bnd_eq, okk_pos hv, bnd_eq, mI_ne (by omega)]
      · obtain ⟨p1, p2, p3⟩ := hR.2.2.2.2.2
        refine ⟨fun q => ?_, ?_, ?_⟩
        · obtain ⟨a1, a2, a3, a4⟩ := p1 q
          rw [hN 3 q (by omega), hN 4 q (by omega), hN 6 q (by omega), hN 7 q (by omega), hN 8 q (by omega), hN 9 q (by omega), hN 10 q (by omega), hE 70 q (by omega) (by omega), hE 71 q (by omega) (by omega), hE 72 q (by omega) (by omega), hE 73 q (by omega) (by omega), hE 75 q (by omega) (by omega), hE 76 q (by omega) (by omega), hE 77 q (by omega) (by omega)]
          refine ⟨a1, a2, ?_, a4⟩
          by_cases z : q = f
          · subst z; rw [mI_eq, mI_eq]
          · rw [hN 5 q (by omega), hE 74 q (by omega) (by omega)]; exact a3
        · rw [hN 2 8 (by omega), hE 69 1 (by omega) (by omega)]; exact p2
        · rw [hN 2 9 (by omega), hE 69 8 (by omega) (by omega)]; exact p3
      · exact RS_e hR.2.2.2.2.1 (fun a p u v => hN a p (by omega)) (fun p => hE 78 p (by omega) (by omega)) (fun p => hE 79 p (by omega) (by omega)) (fun p => hE 80 p (by omega) (by omega)) (fun p => hE 81 p (by omega) (by omega)) (fun p => hE 82 p (by omega) (by omega))
      · obtain ⟨w1, w2, w3, w4, w5, w6⟩ := hWP
        refine ⟨(hE 69 1 (by omega) (by omega)).trans w1, w2, (hE 69 8 (by omega) (by omega)).trans w3, ⟨w4.1, fun c hc => ?_⟩, fun g hg => ?_, fun c n hc hn => ?_⟩
        · rw [hE 76 c (by omega) (by omega)]; exact w4.2 c hc
        · obtain ⟨a1, a2, a3, a4⟩ := w5 g hg
          rw [hE 70 g (by omega) (by omega), hE 71 g (by omega) (by omega)]
          refine ⟨a1, a2, ?_, fun i hi => ?_⟩
          · by_cases z : g = f
            · subst z; rw [mI_eq]; exact .inr ⟨i, hi, rfl⟩
            · rw [hE 74 g (by omega) (by omega)]; exact a3
          · rw [hE 72 _ (by omega) (by omega), hE 73 _ (by omega) (by omega)]; exact a4 i hi
        · rw [hE 77 _ (by omega) (by omega)]
          rcases w6 c n hc hn with u | ⟨g, u1, u2, u3⟩
          · exact .inl u
          · exact .inr ⟨g, u1, u2, (hE 70 g (by omega) (by omega)).trans u3⟩
      · exact WS_e hWS (hE 69 12 (by omega) (by omega)) (fun p => hE 78 p (by omega) (by omega)) (fun p => hE 79 p (by omega) (by omega)) (fun p => hE 80 p (by omega) (by omega)) (fun p => hE 81 p (by omega) (by omega)) (fun p => hE 82 p (by omega) (by omega))
      · exact tx_e (fun c _ => hE 78 c (by omega) (by omega)) (fun g _ => hE 70 g (by omega) (by omega)) (fun a j u v => hE a j (by omega) (by omega))
      · exact h71_e (fun a j u v => hE a j (by omega) (by omega))
      · exact fun b => hE 75 b (by omega) (by omega)
      · exact fun b2 cl _ _ => mOf_q (fun p => hE 77 p (by omega) (by omega)) (fun p => hE 76 p (by omega) (by omega)) b2 7 (nI cl)
      · refine ⟨fun g u v => ?_, fun p u v => ?_⟩
        · rw [hE 71 g (by omega) (by omega), hE 74 g (by omega) (by omega)]; exact hfrp.1 g u v
        · rw [hE 77 p (by omega) (by omega)]; exact hfrp.2 p u v
    · refine ASK.setr hI (ask_t (k := nI 2) (v := nI 0) (E := sI (sI S 69 0 (0 : Int32)) 69 0 (2 : Int32)) (lE2_setHandler ?_) ?_ (mI_eq _ _ _ _) n2n ((sc_1 _ _).trans (sc_1 _ _)))
      · unfold d_X11_setHandler
        rw [cl_need hf hnf h28]
        simp only [obind]
        rw [ni_F hy]
        rfl
      · unfold d_X12_setHandler
        rw [bnd_eq, if_T hf hnf h1']
        simp only [obind]
        rw [if_neg n1z, e39, in_F (by omega) hy]
        simp only [obind]
        rw [if_pos z00]
        rfl
  · refine ASK.setr hI (ask_t (k := nI 1) (v := nI 0) (E := sI (sI S 69 0 (0 : Int32)) 69 0 (1 : Int32)) (lE1_setHandler ?_) ?_ (mI_eq _ _ _ _) n1n ((sc_1 _ _).trans (sc_1 _ _)))
    · unfold d_X11_setHandler
      rw [cl_needF h28 hx]
      rfl
    · unfold d_X12_setHandler
      rw [bnd_eq, if_F hnf h1' hx]
      simp only [obind]
      rw [if_pos z00]
      rfl
end MW2
