/-! ===== a run of both, whole ===== -/
section MY5
/-- behind a call of the class: the reference's cells, the script, the room -/
def CFR (M N : Mem) (c c2 k : Nat) : Prop := (∀ a j, (a = 0 ∨ 68 < a) → a < 127 → mI N a j = mI M a j ∧ mD N a j = mD M a j ∧ mL N a j = mL M a j) ∧ c ≤ c2 ∧ nx N = nx M + 11 * (c2 - c) ∧ uC N ≤ uC M + 11 * (c2 - c) + k ∧ uS N ≤ uS M + 1100 * (c2 - c) + 6 * k ∧ ∀ a, a < nx M → mT N a = mT M a
theorem MFC.cfr {M N : Mem} {c c2 : Nat} (h : MFC M N c c2) : CFR M N c c2 0 := ⟨fun a j x y => h.1 a j (by omega) (by omega), h.2.1, h.2.2.1, Nat.le_of_eq h.2.2.2.1, h.2.2.2.2.1, h.2.2.2.2.2⟩
theorem CFR.trans {A B C : Mem} {a b c p q : Nat} (h : CFR A B a b p) (k : CFR B C b c q) : CFR A C a c (p + q) := by
  obtain ⟨h1, h2, h3, h4, h5, h6⟩ := h
  obtain ⟨k1, k2, k3, k4, k5, k6⟩ := k
  exact ⟨fun x j y z => ⟨(k1 x j y z).1.trans (h1 x j y z).1, (k1 x j y z).2.1.trans (h1 x j y z).2.1, (k1 x j y z).2.2.trans (h1 x j y z).2.2⟩, by omega, by omega, by omega, by omega, fun x hx => (k6 x (by omega)).trans (h6 x hx)⟩
theorem cfr_eq {M N : Mem} (c : Nat) (h : ∀ a j, (a = 0 ∨ 68 < a) → a < 127 → mI N a j = mI M a j ∧ mD N a j = mD M a j ∧ mL N a j = mL M a j) (h2 : N.2.2.2.2 = M.2.2.2.2) : CFR M N c c 0 := by
  have e3 : nx N = nx M := congrArg (fun z => z.2.1) h2
  have e4 : uC N = uC M := congrArg (fun z => z.2.2.1) h2
  have e5 : uS N = uS M := congrArg (fun z => z.2.2.2) h2
  exact ⟨h, Nat.le_refl _, by omega, by omega, by omega, fun a _ => congrArg (fun z => z.1 a) h2⟩
theorem bg_1 {M : Mem} {o f : Nat} {x : Int32} (ho : isO o) : mI (bgN M o f x) o 14 = nI 45 ∧ mI (bgN M o f x) o 15 = nI 0 := by
  have ho2 : o = 18 ∨ o = 28 := ho
  unfold bgN puC afM bg0
  refine ⟨?_, ?_⟩
  · rw [mI_sD, mI_ne (by omega), mI_ne (by omega), mI_ne (by omega), afF_I, if_neg (by omega), if_neg (by omega)]
    rw [mI_ne (by omega), mI_ne (by omega), mI_ne (by omega), mI_ne (by omega), mI_eq]
  · rw [mI_sD, mI_ne (by omega), mI_ne (by omega), mI_ne (by omega), afF_I, if_neg (by omega), if_neg (by omega)]
    rw [mI_ne (by omega), mI_ne (by omega), mI_ne (by omega), mI_eq]
/-- the two machines' places are alike, for both are like the reference's -/
theorem rz_plk {N E : Mem} {ns : Nat} (h : RZ N E 18 ns) (k : RZ N E 28 ns) : ∀ q, 168 ≤ q → q < 549 → PLK N q := by
  intro q h1 h2
  obtain ⟨-, hF, hT, -⟩ := h
  obtain ⟨-, kF, kT, -⟩ := k
  by_cases c : q < 528
  · obtain ⟨p, rfl⟩ : ∃ p, q = 168 + p := ⟨q - 168, by omega⟩
    exact vr_plk (hF p (by omega)) (kF p (by omega))
  · by_cases c2 : q < 548
    · obtain ⟨i, rfl⟩ : ∃ i, q = 528 + i := ⟨q - 528, by omega⟩
      exact lr_plk (hT.1 i (by omega)) (kT.1 i (by omega))
    · obtain rfl : q = 548 := by omega
      exact lr_plk hT.2 kT.2
theorem rn_run {S : Mem} {f nf : Nat} {x : Int32} (hf : f < nf) (hnf : nf ≤ 8) (h1 : mI S 69 1 = nI nf) (h0 : ¬ mI S 70 f = (0 : Int32)) : d_X12_run (nI f) x S = d_X12_run_148 fuel () (rnM S f x) := by
  have h82 : ∀ A : Mem, d_X12_run_82 x fuel (nI 0) A = d_X12_run_148 fuel () (rn9 (rnS (rnS (rnS (rnS (rnS (rnS A x 0) x 1) x 2) x 3) x 4) x 5)) := fun A => by
    obtain ⟨m, e⟩ : ∃ m, fuel = m + 7 := ⟨fuel - 7, by have := fuel_big; omega⟩
    exact (congrArg (fun n => d_X12_run_82 x n (nI 0) A) e).trans rn_all
  have hi : d_X12_isFunction (nI f) (sI S 69 0 (0 : Int32)) = some (nI 1, sI S 69 0 (0 : Int32)) := by
    have hin : d_X12_in (nI f) (0 : Int32) ((mI (sI S 69 0 (0 : Int32)) 69 1) - (1 : Int32)) (sI S 69 0 (0 : Int32)) = some (nI 1, sI S 69 0 (0 : Int32)) := by
      rw [mI_ne (by omega), h1, l_1, qsub (by omega)]
      unfold d_X12_in
      rw [l_0, if_neg (of_eq_false (qltF (by omega) (by omega))), if_neg (of_eq_false (qltF (by omega) (by omega)))]
      rfl
    unfold d_X12_isFunction
    rw [hin]
    simp only [obind]
    exact okk_pos (.inr rfl)
  have hv : vp_in (nI f) 8 := of_eq_true (qinT (by omega) (by omega))
  have hc : (nI f).toNatClampNeg = f := qcl (by omega)
  unfold d_X12_run
  rw [bnd_eq, hi]
  simp only [obind]
  rw [if_neg n1z, okk_pos hv, hc, if_neg (by rw [mI_ne (by omega)]; exact h0)]
  exact h82 _
theorem cl_need {M : Mem} {f nf : Nat} (hf : f < nf) (hnf : nf ≤ 8) (h : mI M 2 8 = nI nf) : d_X11_needFunction (nI f) M = some (.inl (), M) := by
  have e : d_X5_hasFunction (nI f) M = some (nI 1, M) := by
    unfold d_X5_hasFunction
    rw [l_0, if_neg (of_eq_false (qltF (by omega) (by omega))), h, if_neg (of_eq_false (qleF (by omega) (by omega)))]
    rfl
  unfold d_X11_needFunction
  rw [e]
  simp only [obind]
  exact if_neg n1z
/-- a run: the class answers as the reference, and agrees with its plain run -/
theorem run_pair {M S : Mem} {cnt ns nc nf f : Nat} {x : Int32} (hI : INV M S cnt ns nc nf) (hf : f < nf) (h0 : ¬ mI S 70 f = (0 : Int32)) : ∃ N E cnt2 ns2, d_X11_run (nI f) x M = some (.inl (mI E 69 57), N) ∧ d_X12_run (nI f) x S = some (mI E 69 57, E) ∧ INV N E cnt2 ns2 nc nf ∧ CFR M N cnt cnt2 0 := by
  obtain ⟨B, H, G, F, b, fg, ob, h18, h28, hW, -, -, -, -, -, -, -, -, -, -, hfrp⟩ := id hI
  have hnf : nf ≤ 8 := hW.2.2.2.2.1.2.1
  have hfb := fuel_big
  -- the plain run, held against a virtual one
  obtain ⟨hP, -⟩ := begin_both (x := x) (.inr rfl) h28 hW hf
  have hXP : XR (bgN M 28 f x) (rnM S f x) 28 := ⟨bg_13 (.inr rfl), rn_c.2.2.1⟩
  obtain ⟨N0, E0, Q, cnt0, ns0, ob0, ⟨-, -, l0⟩, -, hPQ, -, g0, -, z0, -⟩ := both_loop fih 50002 _ _ _ _ _ _ _ _ _ (sim_start (x := x) hI hf h18 (fun _ _ _ => rfl) rfl) hP hXP
  have gS : GRW S (rnM S f x) ns ns := grw_sb hW.2.2.2.1.2.1 (fun a j u v y => rn_fr (by omega))
  obtain ⟨T, t1, tRS, tI, t2⟩ := take_ok z0.2.2.2.2.1 (gS.trans g0) hW.2.2.2.1
  obtain ⟨p1, p2⟩ := bg_fr (M := M) (f := f) (x := x) (.inr rfl : isO 28)
  obtain ⟨q1, q2, q3⟩ := hPQ
  have tM : ∀ a j, (a < 28 ∨ 37 < a) → (a < 11 ∨ 17 < a) → mI T a j = mI M a j ∧ mD T a j = mD M a j ∧ mL T a j = mL M a j := fun a j u v => ⟨(tI a j (by omega) (by omega)).trans ((q1 a j (by omega)).trans (p1 a j (by unfold p9; omega)).1), (congrArg (fun z => z.2.1 a j) t2).trans ((q2 a j (by omega)).1.trans (p1 a j (by unfold p9; omega)).2.1), (congrArg (fun z => z.1 a j) t2).trans ((q2 a j (by omega)).2.trans (p1 a j (by unfold p9; omega)).2.2)⟩
  have tR : T.2.2.2 = M.2.2.2 := (congrArg (fun z => z.2.2) t2).trans (q3.trans p2)
  have hT : RZ T S 18 ns := rz_pt (.inl rfl) h18 (fun a j u v => ⟨(tM a j (by omega) (by omega)).1, (tM a j (by omega) (by omega)).2.1⟩) tRS (PR_e h18.2.2.2.2.2 (fun a j u v => (tM a j (by omega) (by omega)).1) rfl rfl (fun _ _ _ _ => rfl))
  -- the run itself
  obtain ⟨N1, E1, Q1, cnt2, ns2, ob2, ⟨l1, l2, l3⟩, hmf, -, ⟨e18, e28⟩, hg, ⟨N2, hb, hbm, hfin, hnm⟩, hz, hxe⟩ := both_loop fih 50002 _ _ _ _ _ _ _ _ _ (sim_start (x := x) hI hf hT (fun a j u => (tM a j (by omega) (by omega)).1) tR) hP hXP
  have eQ : Q1 = Q := congrArg Prod.snd (Option.some.inj ((l3 fuel 0 (by omega) (by omega)).symm.trans (l0 fuel 0 (by omega) (by omega))))
  subst eQ
  obtain ⟨B2, H2, G2, F2, b2, fg2, fz, fW, fX, fF, fH, fL, fC, fCW, fHI, fR, fn⟩ := hfin
  obtain ⟨c1, c2⟩ := id hbm
  obtain ⟨m1, m2⟩ := id hmf
  obtain ⟨b1, b2'⟩ := bg_fr (M := T) (f := f) (x := x) (.inl rfl : isO 18)
  have nQ : ∀ a j, 28 ≤ a → a < 38 → mI N2 a j = mI Q1 a j ∧ mD N2 a j = mD Q1 a j := fun a j u v => by
    have k1 := c1 a j (by omega) (by omega)
    have k2 := m1 a j (by omega) (by omega)
    have k3 := b1 a j (by unfold p9; omega)
    have k4 : mI (wbX T f x) a j = mI (bgN T 18 f x) a j := by unfold wbX; rw [mI_ne (by omega), mI_ne (by omega)]
    exact ⟨k1.1.trans (k2.1.trans (k4.trans (k3.1.trans (tI a j (by omega) (by omega))))), k1.2.1.trans (k2.2.1.trans (k3.2.1.trans (congrArg (fun z => z.2.1 a j) t2)))⟩
  have fz28 : RZ N2 E1 28 ns2 := rz_pt (.inr rfl) hz (fun a j u v => nQ a j u (by omega)) fz.2.2.2.2.1 fz.2.2.2.2.2
  -- agreement
  obtain ⟨n11, w11, e11⟩ := fW.2.2.2.2.2.2
  have hO18 := fz.2.2.2.1
  have hO28 := fz28.2.2.2.1
  have hcell : mI N2 18 14 = mI N2 28 14 ∧ mI N2 18 15 = mI N2 28 15 := by
    have a1 : mI N2 28 14 = mI Q1 28 14 := (nQ 28 14 (by omega) (by omega)).1
    have a2 : mI N2 28 15 = mI Q1 28 15 := (nQ 28 15 (by omega) (by omega)).1
    rcases fX.2.2 with h | ⟨hh, h1, h2, -⟩
    · have c18 : ∀ j, mI N2 18 j = mI N1 18 j := fun j => hnm.1 18 j (by omega)
      have k18 : ¬ mI N1 18 13 = nI 120 := by rw [← c18 13, fX.2.1, h]; decide
      have k28 : ¬ mI Q1 28 13 = nI 120 := by rw [hxe.2.1, h]; decide
      rcases e18 with e18 | e18
      · exact absurd e18 k18
      · rcases e28 with e28 | e28
        · exact absurd e28 k28
        · have b18 : ∀ j, mI (wbX T f x) 18 j = mI (bgN T 18 f x) 18 j := fun j => by unfold wbX; rw [mI_ne (by omega), mI_ne (by omega)]
          have y1 := bg_1 (M := T) (f := f) (x := x) (.inl rfl : isO 18)
          have y2 := bg_1 (M := M) (f := f) (x := x) (.inr rfl : isO 28)
          exact ⟨(c18 14).trans (e18.1.trans ((b18 14).trans (y1.1.trans (y2.1.symm.trans (e28.1.symm.trans a1.symm))))), (c18 15).trans (e18.2.trans ((b18 15).trans (y1.2.trans (y2.2.symm.trans (e28.2.symm.trans a2.symm)))))⟩
    · rcases hxe.2.2 with h | ⟨-, h3, h4, -⟩
      · rw [hh] at h
        exact absurd h (by decide)
      · exact ⟨h1.trans (h3.symm.trans a1.symm), h2.trans (h4.symm.trans a2.symm)⟩
  have hel : d_X3_endedLike N2 = some (nI 1, N2) := ended_like (n := n11) (k := ob2) (fX.2.1.trans (hxe.2.1.symm.trans (nQ 28 13 (by omega) (by omega)).1.symm)) hcell.1 hcell.2 (hO18.2.1.trans hO28.2.1.symm) (hO18.2.2.1.trans e11) (hO28.2.2.1.trans e11) (by omega) (hO18.1.trans fW.2.1.1) (hO28.1.trans fW.2.1.1) fW.2.1.2.1 (fun q hq => ⟨(hO18.2.2.2 q (by have := fW.2.1.2.1; omega)).trans (hO28.2.2.2 q (by have := fW.2.1.2.1; omega)).symm, by
    obtain ⟨s, s1, s2⟩ := fW.2.1.2.2 q hq
    exact ⟨s, by have := fW.2.2.2.1.2.1; omega, (hO18.2.2.2 q (by have := fW.2.1.2.1; omega)).trans s2⟩⟩) (rz_plk fz fz28)
  refine ⟨sI N2 1 5 (1 : Int32), sI E1 69 68 (-nI 1), cnt2, ns2, ?_, ?_, ?_, ?_⟩
  · have h3M : ¬ mI M 3 f = (0 : Int32) := by rw [(h18.2.2.2.2.2.1 f).1]; exact h0
    have hrun0 : d_X3_runOut 28 (bgN M 28 f x) = some ((), Q1) := by
      unfold d_X3_runOut
      rw [l_0]
      exact l3 fuel 0 (by omega) (by omega)
    have hwb : d_X10_begin (bgN T 18 f x) = some ((), wbX T f x) := by
      unfold d_X10_begin wbX
      rw [bnd_eq, bnd_eq]
      rfl
    have hbo : d_X11_run_138 N1 = some (.inl (mI (sI N2 1 5 (1 : Int32)) 18 12), sI N2 1 5 (1 : Int32)) := by
      unfold d_X11_run_138
      rw [hb]
      simp only [obind]
      rw [hel]
      simp only [obind]
      rw [okk_pos (.inr rfl)]
      rfl
    have hv : vp_in (nI f) 8 := of_eq_true (qinT (by omega) (by omega))
    have hc : (nI f).toNatClampNeg = f := qcl (by omega)
    have e57 : mI (sI E1 69 68 (-nI 1)) 69 57 = mI (sI N2 1 5 (1 : Int32)) 18 12 := (mI_ne (by omega)).trans (hO18.2.1.symm.trans (mI_ne (by omega)).symm)
    rw [e57]
    unfold d_X11_run
    rw [cl_need hf hnf (h18.2.2.2.2.2.2.1.trans hW.2.2.2.2.1.1)]
    simp only [obind]
    rw [okk_pos hv, hc, if_neg h3M, bnd_eq, c_begin (.inr rfl)]
    simp only [obind]
    rw [hrun0]
    simp only [obind]
    rw [h18.2.2.2.2.1.1, t1]
    simp only [obind]
    rw [c_begin (.inl rfl)]
    simp only [obind]
    rw [hwb]
    simp only [obind]
    rw [l_0]
    exact (l1 fuel 0 (by omega) (by omega)).trans hbo
  · rw [show mI (sI E1 69 68 (-nI 1)) 69 57 = mI E1 69 57 from mI_ne (by omega)]
    exact (rn_run hf hnf hW.2.2.2.2.1.1 h0).trans (l2 fuel (by omega))
  · have sm : SM E1 (sI E1 69 68 (-nI 1)) := ⟨fun a j _ _ _ _ _ => mI_ne (by omega), fun _ => ⟨rfl, rfl⟩, fun _ => rfl, rfl⟩
    have nm : ∀ o, isO o → NM N2 (sI N2 1 5 (1 : Int32)) o := fun o ho => ⟨fun a j u => mI_ne (by have ho2 : o = 18 ∨ o = 28 := ho; omega), fun _ _ _ => rfl⟩
    have eE : ∀ a j, (a ≠ 69 ∨ j ≠ 68) → mI (sI E1 69 68 (-nI 1)) a j = mI E1 a j := fun a j u => mI_ne (by omega)
    have eN : ∀ a j, (a ≠ 1 ∨ j ≠ 5) → mI (sI N2 1 5 (1 : Int32)) a j = mI N2 a j := fun a j u => mI_ne (by omega)
    refine ⟨B2, H2, G2, F2, b2, fg2, ob2, rz_sm (rz_nm (.inl rfl) fz (nm 18 (.inl rfl))) sm, rz_sm (rz_nm (.inr rfl) fz28 (nm 28 (.inr rfl))) sm, wz_sm fW sm, FOR_x fF (fun a j u => eN a j (by omega)) (fun _ _ _ => rfl) (fun _ => rfl) (Nat.le_refl _) (fun a j u v => eE a j (by omega)) (fun j u => eE 69 j (by omega)), HDR_x fH (fun a j u v => eN a j (by omega)) (fun a j u => eE a j (by omega)), ⟨?_, ?_, ?_⟩, fun j => ?_, fun j hj => ?_, his_grw fHI (fun a j u => eE a j (by omega)) (fun t _ u => (eE 89 t (by omega)).symm.trans u) fW.2.2.2.1 fW.2.2.2.2.1 (grw_sb fW.2.2.2.1.2.1 (fun a j u v y => eE a j (by omega))), ⟨(eN 48 10 (by omega)).trans fR.1, (eE 69 71 (by omega)).trans fR.2⟩, fn, ⟨?_, .inr ?_⟩, mI_eq _ _ _ _, fun f u v => ?_, fun p u v => ?_⟩
    · rw [eN 38 5 (by omega), eE 69 23 (by omega)]; exact fL.1
    · rw [eN 38 6 (by omega), eE 69 24 (by omega)]; exact fL.2.1
    · rw [eN 38 7 (by omega), eE 69 58 (by omega)]; exact fL.2.2
    · rw [eN 40 j (by omega), eN 41 j (by omega), eN 42 j (by omega), eN 43 j (by omega), eE 83 j (by omega), eE 84 j (by omega), eE 85 j (by omega), eE 86 j (by omega)]; exact fC j
    · rw [eE 83 j (by omega)]; exact fCW j hj
    · rw [eN 18 13 (by omega), eE 69 62 (by omega)]; exact fX.2.1
    · rw [eN 18 14 (by omega), eN 18 15 (by omega), eE 69 62 (by omega), eE 69 65 (by omega), eE 69 66 (by omega)]; exact fX.2.2
    · rw [eE 71 f (by omega), eE 74 f (by omega), hg.1 71 f (by omega) (by omega), hg.1 74 f (by omega) (by omega), gS.1 71 f (by omega) (by omega), gS.1 74 f (by omega) (by omega)]; exact hfrp.1 f u v
    · rw [eE 77 p (by omega), hg.1 77 p (by omega) (by omega), gS.1 77 p (by omega) (by omega)]; exact hfrp.2 p u v
  · have r1 : CFR M (wbX T f x) cnt cnt 0 := cfr_eq cnt (fun a j u v => by
      have k3 := b1 a j (by unfold p9; omega)
      have k4 : mI (wbX T f x) a j = mI (bgN T 18 f x) a j := by unfold wbX; rw [mI_ne (by omega), mI_ne (by omega)]
      have k5 := tM a j (by omega) (by omega)
      exact ⟨k4.trans (k3.1.trans k5.1), k3.2.1.trans k5.2.1, k3.2.2.trans k5.2.2⟩) (congrArg Prod.snd (b2'.trans tR))
    exact r1.trans ((MFC.cfr hmf).trans (((MF.c hbm cnt2).cfr).trans (cfr_eq cnt2 (fun a j u v => ⟨mI_ne (by omega), rfl, rfl⟩) rfl)))
end MY5
