/-! ===== setters: what they keep ===== -/
section MW1
theorem rz_set {M N S E : Mem} {o ns ns2 : Nat} (ho : isO o) (hR : RZ M S o ns) (hN : ∀ a j, (a < 2 ∨ 17 < a) → mI N a j = mI M a j) (hN2 : N.2 = M.2) (hE : ∀ a j, (82 < a ∨ (a = 69 ∧ j ≠ 0 ∧ j ≠ 1 ∧ j ≠ 8 ∧ j ≠ 12)) → mI E a j = mI S a j) (hE2 : E.2 = S.2) (hRS : RS N E ns2) (hPR : PR N E) : RZ N E o ns2 := by
  have ho2 : o = 18 ∨ o = 28 := ho
  obtain ⟨hRV, hRF, hRT, hRO, -, -⟩ := hR
  have n1 : ∀ a j, o ≤ a ∧ a < o + 10 → mI N a j = mI M a j := fun a j x => hN a j (by omega)
  have n2 : ∀ a j, mD N a j = mD M a j := fun a j => congrArg (fun z => z.2.1 a j) hN2
  have e2 : ∀ a j, mD E a j = mD S a j := fun a j => congrArg (fun z => z.2.1 a j) hE2
  have e3 : ∀ a j, mL E a j = mL S a j := fun a j => congrArg (fun z => z.1 a j) hE2
  refine ⟨fun p hp => ?_, fun p hp => ?_, ⟨fun i hi => ?_, ?_⟩, ?_, hRS, hPR⟩
  · rw [n1 _ _ (by omega), n1 _ _ (by omega), n2, hE 105 _ (by omega), hE 106 _ (by omega), e2]; exact hRV p hp
  · rw [n1 _ _ (by omega), n1 _ _ (by omega), n2, hE 113 _ (by omega), hE 114 _ (by omega), e2]; exact hRF p hp
  · rw [n1 _ _ (by omega), n1 _ _ (by omega), n2, hE 116 _ (by omega), e3]; exact hRT.1 i hi
  · rw [n1 _ _ (by omega), n1 _ _ (by omega), n2, hE 69 63 (by omega), e3]; exact hRT.2
  · unfold RO at hRO ⊢
    rw [n1 o 10 (by omega), n1 o 12 (by omega), n1 o 11 (by omega), hE 69 52 (by omega), hE 69 57 (by omega), hE 69 59 (by omega)]
    exact ⟨hRO.1, hRO.2.1, hRO.2.2.1, fun k hk => by rw [n1 _ _ (by omega), hE 112 _ (by omega)]; exact hRO.2.2.2 k hk⟩
theorem inv_set {M N S E : Mem} {cnt ns nc nf ns2 nc2 nf2 : Nat} (h : INV M S cnt ns nc nf) (hN : ∀ a j, (a < 2 ∨ 17 < a) → mI N a j = mI M a j) (hN2 : N.2 = M.2) (hE : ∀ a j, (82 < a ∨ (a = 69 ∧ j ≠ 0 ∧ j ≠ 1 ∧ j ≠ 8 ∧ j ≠ 12)) → mI E a j = mI S a j) (hE2 : E.2 = S.2) (hPR : PR N E) (hRS : RS N E ns2) (hWP : WP E nf2 nc2) (hWS : WS E ns2 nc2) (hns : ns ≤ ns2) (hnc : nc ≤ nc2) (hnf : nf ≤ nf2) (hTX : TX S E ns nc nf) (h71 : ∀ f m, f < nf → mI S 71 f = nI m → m ≤ 40 → ∃ m2, mI E 71 f = nI m2 ∧ m ≤ m2 ∧ m2 ≤ 40 ∧ ∀ i, i < m → mI E 72 (40 * f + i) = mI S 72 (40 * f + i) ∧ mI E 73 (40 * f + i) = mI S 73 (40 * f + i)) (h75 : ∀ b, mI E 75 b = mI S 75 b) (hmO : ∀ b2 cl, b2 < 6 → cl < nc → mOf E b2 7 (nI cl) = mOf S b2 7 (nI cl)) (hfr : FRP E nf2 nc2) : INV N E cnt ns2 nc2 nf2 := by
  obtain ⟨B, H, G, F, b, fg, ob, h1, h2, h3, h4, h5, h6, h7, h8, h9, h10, h11, h12, h13, -⟩ := h
  obtain ⟨hWC, hWO, hWF, hWS0, hWP0, hWE⟩ := id h3
  have enx : nx N = nx M := congrArg (fun z => z.2.2.2.2.1) hN2
  have e : ∀ a j, 82 < a → mI E a j = mI S a j := fun a j x => hE a j (.inl x)
  refine ⟨B, H, G, F, b, fg, ob, rz_set (.inl rfl) h1 hN hN2 hE hE2 hRS hPR, rz_set (.inr rfl) h2 hN hN2 hE hE2 hRS hPR, ⟨⟨fun p hp => ?_, fun p hp => ?_⟩, ⟨(hE 69 52 (by omega)).trans hWO.1, hWO.2.1, fun k hk => ?_⟩, fun k n hk hn hh => ?_, hWS, hWP, ?_⟩, FOR_x h4 (fun a j x => hN a j (by omega)) (fun a j _ => congrArg (fun z => z.2.2.1 a j) hN2) (fun a => congrArg (fun z => z.2.2.2.1 a) hN2) (Nat.le_of_eq enx.symm) (fun a j x y => e a j (by omega)) (fun j x => hE 69 j (by omega)), HDR_x h5 (fun a j x y => hN a j (by omega)) (fun a j x => e a j (by omega)), ⟨?_, ?_, ?_⟩, fun j => ?_, fun j hj => ?_, h9.mono (fun a j x => e a j (by omega)) (fun t _ x => (e 89 t (by omega)).symm.trans x) (fun t k R G F _ _ x => hs_mono x (e 91 _ (by omega)) (fun g _ _ => ⟨e 97 _ (by omega), e 98 _ (by omega), e 99 _ (by omega), e 100 _ (by omega)⟩) hWS0.1 hWS.1 hWP0.2.2.1 hWP.2.2.1 hWP0.1 hWP.1 hns hWS.2.1 hnc hWP.2.2.2.1.1 hnf hWP.2.1 hTX h71 (fun f i b2 _ _ _ _ _ _ => h75 b2) (fun f i b2 cl _ _ _ _ _ y z => hmO b2 cl y z)), ⟨(hN 48 10 (by omega)).trans h10.1, (hE 69 71 (by omega)).trans h10.2⟩, by rw [enx]; exact h11, ?_, (hN 1 5 (by omega)).trans h13, hfr⟩
  · rw [e 105 _ (by omega)]; exact hWC.1 p hp
  · rw [e 113 _ (by omega)]; exact hWC.2 p hp
  · obtain ⟨s, s1, s2⟩ := hWO.2.2 k hk
    exact ⟨s, by omega, (e 112 k (by omega)).trans s2⟩
  · obtain ⟨s, s1, s2⟩ := hWO.2.2 k hk
    obtain ⟨-, t2, t3, -⟩ := hTX.2.2 s s1
    rw [e 112 k (by omega), s2, qcl (by have := hWS0.2.1; omega)] at hh
    have hz : (mI S 80 s).toNatClampNeg ≤ 6 := by
      have := cN_le S s
      rw [(hWS0.2.2.2.2 s s1).1, qcl (by omega)]
      exact this
    rw [e 113 _ (by omega), e 114 _ (by omega)]
    exact hWF k n hk hn (by rw [s2, qcl (by have := hWS0.2.1; omega)]; exact (hasF_e t2 t3 hz).mp hh)
  · unfold WE at hWE ⊢
    rw [hE 69 57 (by omega), hE 69 59 (by omega)]; exact hWE
  · rw [hN 38 5 (by omega), hE 69 23 (by omega)]; exact h6.1
  · rw [hN 38 6 (by omega), hE 69 24 (by omega)]; exact h6.2.1
  · rw [hN 38 7 (by omega), hE 69 58 (by omega)]; exact h6.2.2
  · rw [hN 40 j (by omega), hN 41 j (by omega), hN 42 j (by omega), hN 43 j (by omega), e 83 j (by omega), e 84 j (by omega), e 85 j (by omega), e 86 j (by omega)]; exact h7 j
  · rw [e 83 j (by omega)]; exact h8 j hj
  · unfold OUT at h12 ⊢
    rw [hN 18 13 (by omega), hN 18 14 (by omega), hN 18 15 (by omega), hE 69 62 (by omega), hE 69 65 (by omega), hE 69 66 (by omega)]; exact h12
end MW1
