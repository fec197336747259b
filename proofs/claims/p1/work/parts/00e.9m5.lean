/-! ===== a recorded step goes into the history ===== -/
section MT5
theorem ww_uniq {S : Mem} {d ob ns nc nf d2 ob2 ns2 nc2 nf2 : Nat} (h : WW S d ob ns nc nf) (k : WW S d2 ob2 ns2 nc2 nf2) : d = d2 ∧ ob = ob2 ∧ ns = ns2 ∧ nc = nc2 ∧ nf = nf2 := by
  have a1 := h.1.2.1
  have a2 := k.1.2.1
  have b1 := h.2.2.2.1.2.1
  have b2 := k.2.2.2.1.2.1
  have c1 := h.2.2.2.2.2.1.2.1
  have c2 := k.2.2.2.2.2.1.2.1
  have e1 := h.2.2.2.2.2.2.1
  have e2 := k.2.2.2.2.2.2.1
  have f1 := e1.2.1
  have f2 := e2.2.1
  have g1 : nc ≤ 5 := e1.2.2.2.1.1
  have g2 : nc2 ≤ 5 := e2.2.2.2.1.1
  exact ⟨qinj (by omega) (by omega) (h.1.1.symm.trans k.1.1), qinj (by omega) (by omega) (h.2.2.2.1.1.symm.trans k.2.2.2.1.1), qinj (by omega) (by omega) (h.2.2.2.2.2.1.1.symm.trans k.2.2.2.2.2.1.1), qinj (by omega) (by omega) (e1.2.2.1.symm.trans e2.2.2.1), qinj (by omega) (by omega) (e1.1.symm.trans e2.1)⟩
theorem cw_sw {A B : Mem} (h : CW A B) : SW A B ∧ SW B A := ⟨⟨fun a j x _ _ _ => h.1 a j (by omega), fun a j _ => h.2.1 a j, fun a j => h.2.2 a j⟩, ⟨fun a j x _ _ _ => (h.1 a j (by omega)).symm, fun a j _ => (h.2.1 a j).symm, fun a j => (h.2.2 a j).symm⟩⟩
/-- one more recorded step -/
theorem rhi_step {S S1 E F : Mem} {b k d ob ns nc nf f i e m hh c v gg d2 ob2 ns2 : Nat} {a : Int32} {fg : Nat → Nat} {H G Fs : Nat → Mem} (h : RHI S b k fg H G Fs) (hc : CW S S1) (A : ATI S1 d ob ns nc nf f i e m hh a c) (hb : b ≤ d) (hf0 : f < nf) (hc9 : c < 256) (r2 : mI S1 69 71 = nI 1) (v83 : mI S1 69 83 = nI v) (v5 : v < 500) (g8 : mI S1 69 78 = nI (fg k)) (g120 : fg k + 4 ≤ 120) (hg : d_X12_guards (nI c) S1 = some ((), E)) (hgd : GDF S1 E (fg k) k gg) (hE : d_X12_executes (lnR E k f i) = some ((), F)) (A2 : ATI (lnR E k f i) d ob ns nc nf f i e m hh a c) (hWF : WW F d2 ob2 ns2 nc nf) (hr : c = 114 → b < d) (hFS : FS (lnR E k f i) F) : ∃ fg' H' G' F', RHI F b (k + 1) fg' H' G' F' ∧ fg' (k + 1) = gg ∧ CW (H 0) (H' 0) ∧ GRW S F ns ns2 ∧ ∀ i, i ≤ k → fg' i = fg i := by
  obtain ⟨h1, ⟨h2, h3⟩, ⟨n0, h4⟩, h5⟩ := h
  have hW1 := A.1
  have hW := ww_sw hW1 (cw_sw hc).2
  have hWS := hW.2.2.2.2.2.1
  have hWP := hW.2.2.2.2.2.2.1
  have hns60 := hWS.2.1
  obtain ⟨ns9, hgr⟩ := gr_step A2 hf0 hc9 hE
  have e12 := hgr.2.2.2.2.2.1 A2.1.2.2.2.2.2.1.1
  obtain rfl : ns9 = ns2 := qinj (by have := hgr.2.2.2.2.1; omega) (by have := hWF.2.2.2.2.2.1.2.1; omega) (e12.symm.trans hWF.2.2.2.2.2.1.1)
  have l1 : ∀ a j, 68 < a → a < 83 → (a ≠ 69 ∨ j = 1 ∨ j = 8 ∨ j = 12) → mI (lnR E k f i) a j = mI S1 a j := fun a j x y z => by
    unfold lnR
    rw [mI_ne (by omega), mI_ne (by omega)]
    exact hgd.2.2.2.1 a j (by omega) (by omega)
  have G1 : GRW S1 F ns ns9 := (grw_sb (by omega) l1).trans hgr
  have G0 : GRW S F ns ns9 := (grw_sb (by omega) (fun a j x y z => hc.1 a j (by omega))).trans G1
  have r118 : ∀ j, j ≠ k → mI F 118 j = mI S 118 j := fun j hj => by
    rw [hFS.1 118 j (by omega)]
    unfold lnR
    rw [mI_ne (by omega), mI_ne (by omega), hgd.2.2.2.1 118 j (by omega) (by omega)]
    exact hc.1 118 j (by omega)
  have rE : ∀ a j, 118 < a → a < 123 → mI F a j = mI E a j := fun a j x y => by
    rw [hFS.1 a j (by omega)]
    unfold lnR
    rw [mI_ne (by omega), mI_ne (by omega)]
  have rg : ∀ a j, 118 < a → a < 123 → j < fg k → mI F a j = mI S a j := fun a j x y z => by
    rw [rE a j x y]
    obtain ⟨q1, q2, q3, q4⟩ := hgd.2.2.2.2.2.2.2.1 j z
    have : a = 119 ∨ a = 120 ∨ a = 121 ∨ a = 122 := by omega
    rcases this with rfl | rfl | rfl | rfl
    · exact q1.trans (hc.1 _ j (by omega))
    · exact q2.trans (hc.1 _ j (by omega))
    · exact q3.trans (hc.1 _ j (by omega))
    · exact q4.trans (hc.1 _ j (by omega))
  have fgm : ∀ x y, x ≤ y → y ≤ k → fg x ≤ fg y := fun x y hxy hy => fg_mono h3 hxy hy
  have hle := hgd.1
  refine ⟨fun j => if j ≤ k then fg j else gg, fun j => if j < k then H j else if j = k then S1 else F, fun j => if j < k then G j else E, fun j => if j < k then Fs j else F, ⟨fun j hj => ?_, ⟨?_, fun j hj => ?_⟩, ⟨n0, ?_⟩, ?_⟩, ?_, ?_, G0, fun i hi => if_pos hi⟩
  · by_cases q : j < k
    · obtain ⟨z1, z2⟩ := h1 j q
      simp only [if_pos q]
      refine ⟨hsr_fg (fg := fg) (hsr_grw z1 (r118 j (by omega)) (fun a x y1 y2 y3 => rg a x y1 y2 (by have := fgm (j + 1) k (by omega) (by omega); omega)) hWS hWP G0) (if_pos (by omega)) (if_pos (by omega)), ?_⟩
      by_cases q2 : j + 1 < k
      · rw [if_pos q2]; exact z2
      · have e : j + 1 = k := by omega
        rw [if_neg q2, if_pos e]
        rw [e, h5] at z2
        exact z2.trans hc
    · obtain rfl : j = k := by omega
      simp only [if_neg (Nat.lt_irrefl _), if_pos rfl]
      refine ⟨?_, ?_⟩
      · obtain ⟨n, rfl⟩ : ∃ n, d = b + n := ⟨d - b, by omega⟩
        obtain ⟨hW2, x1, x2, x3, x4, x5, x6, x7, x8, x9, x10, x11, x12, x13, x14⟩ := id A
        have hnc : nc ≤ 5 := hWP.2.2.2.1.1
        obtain ⟨g1, g2, g3, g4, g5, g6, g7, g8'⟩ := id G1
        have f1 : (if j ≤ j then fg j else gg) = fg j := if_pos (Nat.le_refl _)
        have f2 : (if j + 1 ≤ j then fg (j + 1) else gg) = gg := if_neg (by omega)
        unfold HSR HS0
        simp only [f1, f2]
        refine ⟨n, ob, ns, nc, nf, f, i, e, m, hh, c, v, ob2, ns9, d2, m, nf, ns9, nc, a, ⟨hc9, ?_⟩, ⟨A, hf0⟩, ⟨r2, v83, v5, g8, g120⟩, ⟨hg, hgd, hE⟩, ⟨hWF, g4, fun y => by have := hr y; omega⟩, ⟨G1.tx nc nf, TX.refl F _ _ _, e12, Nat.le_refl _, g5, hWF.2.2.2.2.2.2.1.2.2.1, Nat.le_refl _, hnc⟩, ⟨fun _ b2 _ _ => g1 75 b2 (by omega) (by omega), fun _ b2 cl _ _ _ => mOf_e (fun q => g1 76 q (by omega) (by omega)) (fun q => g1 77 q (by omega) (by omega)) b2 7 (nI cl)⟩, ⟨(g1 72 _ (by omega) (by omega)).trans x12, (g1 73 _ (by omega) (by omega)).trans x11, (g1 71 _ (by omega) (by omega)).trans x6, Nat.le_refl _, x8, hWF.2.2.2.2.2.2.1.1, Nat.le_refl _, hWP.2.1⟩, fun g z1 z2 => ⟨rE 119 g (by omega) (by omega), (rE 120 g (by omega) (by omega)).trans (hgd.2.2.2.2.2.2.2.2 g z1 z2), rE 121 g (by omega) (by omega), rE 122 g (by omega) (by omega)⟩⟩
        rw [hFS.1 118 j (by omega)]
        unfold lnR
        rw [mI_ne (by omega), mI_eq]
      · rw [if_neg (by omega), if_neg (by omega)]
        exact CW.refl F
  · simp only [if_pos (Nat.zero_le _)]; exact h2
  · by_cases q : j + 1 ≤ k
    · simp only [if_pos q, if_pos (show j ≤ k by omega)]; exact h3 j (by omega)
    · obtain rfl : j = k := by omega
      simp only [if_neg q, if_pos (Nat.le_refl _)]; exact hle
  · by_cases q : 0 < k
    · simp only [if_pos q]; exact h4
    · obtain rfl : k = 0 := by omega
      simp only [if_neg q, if_pos rfl]
      rw [h5] at h4
      exact beg_cw h4 hc
  · simp only [if_neg (show ¬ k + 1 < k by omega), if_neg (show ¬ k + 1 = k by omega)]
  · exact if_neg (by omega)
  · by_cases q : 0 < k
    · simp only [if_pos q]; exact CW.refl _
    · obtain rfl : k = 0 := by omega
      simp only [if_neg q, if_pos rfl]
      rw [h5]
      exact hc
end MT5
