/-! ===== what a recording writes does not matter to a step ===== -/
section MH1
/-- the same but for the recording's own cells -/
def SB (S E : Mem) : Prop := (∀ a j, (a < 118 ∨ 126 < a) → (a ≠ 69 ∨ (j ≠ 76 ∧ j ≠ 78 ∧ j ≠ 88 ∧ j ≠ 89)) → mI E a j = mI S a j) ∧ (∀ a j, (a ≠ 69 ∨ j ≠ 90) → mD E a j = mD S a j) ∧ (∀ a j, mL E a j = mL S a j)
def NB (M N : Mem) : Prop := (∀ a j, a < 38 → mI N a j = mI M a j) ∧ (∀ a j, a < 38 → mD N a j = mD M a j)
theorem GDF.sb {S E : Mem} {g k gg f i : Nat} (h : GDF S E g k gg) : SB S (lnR E k f i) := by
  obtain ⟨h0, h1, h2, h3, h4, h5, h6, h7, h8⟩ := h
  refine ⟨fun a j ha hj => ?_, fun a j hj => ?_, fun a j => ?_⟩
  · unfold lnR; rw [mI_ne (by omega), mI_ne (by omega)]; exact h3 a j (by omega) (by omega)
  · exact h4 a j hj
  · exact h5 a j
theorem GDF.sb0 {S E : Mem} {g k gg : Nat} (h : GDF S E g k gg) : SB S E := by
  obtain ⟨h0, h1, h2, h3, h4, h5, h6, h7, h8⟩ := h
  exact ⟨fun a j ha hj => h3 a j (by omega) (by omega), h4, h5⟩
theorem SB.trans {A B C : Mem} (h : SB A B) (k : SB B C) : SB A C := ⟨fun a j x y => (k.1 a j x y).trans (h.1 a j x y), fun a j x => (k.2.1 a j x).trans (h.2.1 a j x), fun a j => (k.2.2 a j).trans (h.2.2 a j)⟩
theorem NAF.nb {M N : Mem} {k : Nat} {l e : Int32} (h : NAF M N k l e) : NB M N := ⟨fun a j ha => h.1 a j (by omega) (by omega), fun a j _ => h.2.1 a j⟩
theorem ww_fr {S E : Mem} {d ob ns nc nf : Nat} (hW : WW S d ob ns nc nf) (hB : SB S E) : WW E d ob ns nc nf := by
  obtain ⟨b1, b2, b3⟩ := hB
  obtain ⟨⟨a1, a2, a3⟩, hWV, hWC, hWO, hWF, hWS, hWP, hWE⟩ := hW
  have e : ∀ a j, a ≠ 69 → a < 118 → mI E a j = mI S a j := fun a j h1 h2 => b1 a j (by omega) (by omega)
  refine ⟨⟨(b1 69 48 (by omega) (by omega)).trans a1, a2, fun f hf => ?_⟩, fun f hf j hj => ?_, ⟨fun p hp => ?_, fun p hp => ?_⟩, ⟨(b1 69 52 (by omega) (by omega)).trans hWO.1, hWO.2.1, fun k hk => ?_⟩, ?_, ?_, ?_, ?_⟩
  · rw [e 109 f (by omega) (by omega), e 110 f (by omega) (by omega), e 111 f (by omega) (by omega)]; exact a3 f hf
  · rw [e 111 f (by omega) (by omega)] at hj
    rw [e 105 _ (by omega) (by omega), e 106 _ (by omega) (by omega)]; exact hWV f hf j hj
  · rw [e 105 _ (by omega) (by omega)]; exact hWC.1 p hp
  · rw [e 113 _ (by omega) (by omega)]; exact hWC.2 p hp
  · rw [e 112 _ (by omega) (by omega)]; exact hWO.2.2 k hk
  · exact WF_e hWF (fun p => e 80 p (by omega) (by omega)) (fun p => e 81 p (by omega) (by omega)) (fun p => e 112 p (by omega) (by omega)) (fun p => e 113 p (by omega) (by omega)) (fun p => e 114 p (by omega) (by omega))
  · exact WS_e hWS (b1 69 12 (by omega) (by omega)) (fun p => e 78 p (by omega) (by omega)) (fun p => e 79 p (by omega) (by omega)) (fun p => e 80 p (by omega) (by omega)) (fun p => e 81 p (by omega) (by omega)) (fun p => e 82 p (by omega) (by omega))
  · exact WP_e hWP (b1 69 1 (by omega) (by omega)) (b1 69 8 (by omega) (by omega)) (fun a p h1 h2 => e a p (by omega) (by omega))
  · unfold WE at hWE ⊢
    rw [b1 69 57 (by omega) (by omega), b1 69 59 (by omega) (by omega)]
    exact hWE
theorem rc_fr {M N S E : Mem} {d ns : Nat} (hR : RC M S 18 d ns) (hN : NB M N) (hB : SB S E) : RC N E 18 d ns := by
  obtain ⟨b1, b2, b3⟩ := hB
  obtain ⟨n1, n2⟩ := hN
  obtain ⟨hRV, hRF, hRT, hRO, hRA, hRS, hPR⟩ := hR
  have e : ∀ a j, a ≠ 69 → a < 118 → mI E a j = mI S a j := fun a j h1 h2 => b1 a j (by omega) (by omega)
  have eD : ∀ a j, a ≠ 69 → mD E a j = mD S a j := fun a j h1 => b2 a j (by omega)
  refine ⟨fun p hp => ?_, fun p hp => ?_, ⟨fun i hi => ?_, ?_⟩, ?_, ⟨?_, fun f hf => ?_⟩, ?_, ?_⟩
  · rw [n1 _ _ (by omega), n1 _ _ (by omega), n2 _ _ (by omega), e 105 _ (by omega) (by omega), e 106 _ (by omega) (by omega), eD 107 _ (by omega)]; exact hRV p hp
  · rw [n1 _ _ (by omega), n1 _ _ (by omega), n2 _ _ (by omega), e 113 _ (by omega) (by omega), e 114 _ (by omega) (by omega), eD 115 _ (by omega)]; exact hRF p hp
  · rw [n1 _ _ (by omega), n1 _ _ (by omega), n2 _ _ (by omega), e 116 _ (by omega) (by omega), b3]; exact hRT.1 i hi
  · rw [n1 _ _ (by omega), n1 _ _ (by omega), n2 _ _ (by omega), b1 69 63 (by omega) (by omega), b3]; exact hRT.2
  · unfold RO at hRO ⊢
    rw [n1 18 10 (by omega), n1 18 12 (by omega), n1 18 11 (by omega), b1 69 52 (by omega) (by omega), b1 69 57 (by omega) (by omega), b1 69 59 (by omega) (by omega)]
    exact ⟨hRO.1, hRO.2.1, hRO.2.2.1, fun k hk => by rw [n1 _ _ (by omega), e 112 _ (by omega) (by omega)]; exact hRO.2.2.2 k hk⟩
  · rw [n1 18 9 (by omega)]; exact hRA.1
  · rw [n1 _ _ (by omega), n1 _ _ (by omega), n1 _ _ (by omega), e 109 _ (by omega) (by omega), e 110 _ (by omega) (by omega), e 111 _ (by omega) (by omega)]; exact hRA.2 f hf
  · exact RS_e hRS (fun a p h1 h2 => n1 a p (by omega)) (fun p => e 78 p (by omega) (by omega)) (fun p => e 79 p (by omega) (by omega)) (fun p => e 80 p (by omega) (by omega)) (fun p => e 81 p (by omega) (by omega)) (fun p => e 82 p (by omega) (by omega))
  · exact PR_e hPR (fun a p h1 h2 => n1 a p (by omega)) (b1 69 1 (by omega) (by omega)) (b1 69 8 (by omega) (by omega)) (fun a p h1 h2 => e a p (by omega) (by omega))
theorem wr_fr {S E : Mem} {d : Nat} (h : WR S d) (hB : SB S E) : WR E d := by
  obtain ⟨b1, b2, b3⟩ := hB
  unfold WR at h ⊢
  rw [b1 69 71 (by omega) (by omega), b1 69 83 (by omega) (by omega), b1 111 d (by omega) (by omega)]
  rcases h with h | ⟨h, v, h1, h2, h3⟩
  · exact .inl h
  · exact .inr ⟨h, v, h1, h2, fun j hj => by rw [b1 108 _ (by omega) (by omega)]; exact h3 j hj⟩
theorem why_of {S E : Mem} {X : Int32} (h1 : d_X12_why S = some (X, S)) (h2 : d_X12_why E = some (X, E)) (hy : d_X12_why S = some (nI 0, S)) : d_X12_why E = some (nI 0, E) := by
  have : X = nI 0 := congrArg Prod.fst (Option.some.inj (h1.symm.trans hy))
  rw [h2, this]
theorem we_i {S E : Mem} {d ns ob nc nf f i n h a : Nat} (hW : WW S d ob ns nc nf) (hB : SB S E) (hf : mI S 109 d = nI f) (hf1 : f < 8) (hi : mI S 110 d = nI i) (hi1 : i < 40) (hl : mI S 71 f = nI n) (hn : i < n) (hn1 : n ≤ 40) (hh : mI S 111 d = nI h) (hh1 : h ≤ 8) (ha : mI S 73 (40 * f + i) = nI a) (hc : mI S 72 (40 * f + i) = nI 105) (hy : d_X12_why S = some (nI 0, S)) : d_X12_why E = some (nI 0, E) := by
  obtain ⟨b1, b2, b3⟩ := id hB
  have e : ∀ a j, a ≠ 69 → a < 118 → mI E a j = mI S a j := fun a j h1 h2 => b1 a j (by omega) (by omega)
  have eD : ∀ j, mD E 107 j = mD S 107 j := fun j => b2 107 j (by omega)
  obtain ⟨hWA, hWV, hWC, hWO, hWF, hWS, hWP, hWE⟩ := id hW
  have hd := hWA.1
  have hd1 := hWA.2.1
  have h1 := wy_i hd hd1 hf hf1 hi hi1 hl hn hn1 hh hh1 hc
  have h2 := wy_i (S := E) ((b1 69 48 (by omega) (by omega)).trans hd) hd1 ((e 109 _ (by omega) (by omega)).trans hf) hf1 ((e 110 _ (by omega) (by omega)).trans hi) hi1 ((e 71 _ (by omega) (by omega)).trans hl) hn hn1 ((e 111 _ (by omega) (by omega)).trans hh) hh1 ((e 72 _ (by omega) (by omega)).trans hc)
  have g105 : ∀ j, mI E 105 j = mI S 105 j := fun j => e 105 j (by omega) (by omega)
  have g106 : ∀ j, mI E 106 j = mI S 106 j := fun j => e 106 j (by omega) (by omega)
  have g79 : ∀ j, mI E 79 j = mI S 79 j := fun j => e 79 j (by omega) (by omega)
  have g82 : ∀ j, mI E 82 j = mI S 82 j := fun j => e 82 j (by omega) (by omega)
  have gF : ∀ s n, hasF E s n = hasF S s n := hasF_s (fun p => e 80 p (by omega) (by omega)) (fun p => e 81 p (by omega) (by omega))
  have gm : ∀ n k c, mOf E n k c = mOf S n k c := fun n k c => mOf_e (fun p => e 76 p (by omega) (by omega)) (fun p => e 77 p (by omega) (by omega)) n k c
  skip
  exact why_of h1 h2 hy
theorem we_k {S E : Mem} {d ns ob nc nf f i n h a : Nat} (hW : WW S d ob ns nc nf) (hB : SB S E) (hf : mI S 109 d = nI f) (hf1 : f < 8) (hi : mI S 110 d = nI i) (hi1 : i < 40) (hl : mI S 71 f = nI n) (hn : i < n) (hn1 : n ≤ 40) (hh : mI S 111 d = nI h) (hh1 : h ≤ 8) (ha : mI S 73 (40 * f + i) = nI a) (hc : mI S 72 (40 * f + i) = nI 107) (hy : d_X12_why S = some (nI 0, S)) : d_X12_why E = some (nI 0, E) := by
  obtain ⟨b1, b2, b3⟩ := id hB
  have e : ∀ a j, a ≠ 69 → a < 118 → mI E a j = mI S a j := fun a j h1 h2 => b1 a j (by omega) (by omega)
  have eD : ∀ j, mD E 107 j = mD S 107 j := fun j => b2 107 j (by omega)
  obtain ⟨hWA, hWV, hWC, hWO, hWF, hWS, hWP, hWE⟩ := id hW
  have hd := hWA.1
  have hd1 := hWA.2.1
  have h1 := wy_k hd hd1 hf hf1 hi hi1 hl hn hn1 hh hh1 hc
  have h2 := wy_k (S := E) ((b1 69 48 (by omega) (by omega)).trans hd) hd1 ((e 109 _ (by omega) (by omega)).trans hf) hf1 ((e 110 _ (by omega) (by omega)).trans hi) hi1 ((e 71 _ (by omega) (by omega)).trans hl) hn hn1 ((e 111 _ (by omega) (by omega)).trans hh) hh1 ((e 72 _ (by omega) (by omega)).trans hc)
  have g105 : ∀ j, mI E 105 j = mI S 105 j := fun j => e 105 j (by omega) (by omega)
  have g106 : ∀ j, mI E 106 j = mI S 106 j := fun j => e 106 j (by omega) (by omega)
  have g79 : ∀ j, mI E 79 j = mI S 79 j := fun j => e 79 j (by omega) (by omega)
  have g82 : ∀ j, mI E 82 j = mI S 82 j := fun j => e 82 j (by omega) (by omega)
  have gF : ∀ s n, hasF E s n = hasF S s n := hasF_s (fun p => e 80 p (by omega) (by omega)) (fun p => e 81 p (by omega) (by omega))
  have gm : ∀ n k c, mOf E n k c = mOf S n k c := fun n k c => mOf_e (fun p => e 76 p (by omega) (by omega)) (fun p => e 77 p (by omega) (by omega)) n k c
  skip
  exact why_of h1 h2 hy
theorem we_l {S E : Mem} {d ns ob nc nf f i n h a : Nat} (hW : WW S d ob ns nc nf) (hB : SB S E) (hf : mI S 109 d = nI f) (hf1 : f < 8) (hi : mI S 110 d = nI i) (hi1 : i < 40) (hl : mI S 71 f = nI n) (hn : i < n) (hn1 : n ≤ 40) (hh : mI S 111 d = nI h) (hh1 : h ≤ 8) (ha : mI S 73 (40 * f + i) = nI a) (hc : mI S 72 (40 * f + i) = nI 108) (hy : d_X12_why S = some (nI 0, S)) : d_X12_why E = some (nI 0, E) := by
  obtain ⟨b1, b2, b3⟩ := id hB
  have e : ∀ a j, a ≠ 69 → a < 118 → mI E a j = mI S a j := fun a j h1 h2 => b1 a j (by omega) (by omega)
  have eD : ∀ j, mD E 107 j = mD S 107 j := fun j => b2 107 j (by omega)
  obtain ⟨hWA, hWV, hWC, hWO, hWF, hWS, hWP, hWE⟩ := id hW
  have hd := hWA.1
  have hd1 := hWA.2.1
  have h1 := wy_l hd hd1 hf hf1 hi hi1 hl hn hn1 hh hh1 hc
  have h2 := wy_l (S := E) ((b1 69 48 (by omega) (by omega)).trans hd) hd1 ((e 109 _ (by omega) (by omega)).trans hf) hf1 ((e 110 _ (by omega) (by omega)).trans hi) hi1 ((e 71 _ (by omega) (by omega)).trans hl) hn hn1 ((e 111 _ (by omega) (by omega)).trans hh) hh1 ((e 72 _ (by omega) (by omega)).trans hc)
  have g105 : ∀ j, mI E 105 j = mI S 105 j := fun j => e 105 j (by omega) (by omega)
  have g106 : ∀ j, mI E 106 j = mI S 106 j := fun j => e 106 j (by omega) (by omega)
  have g79 : ∀ j, mI E 79 j = mI S 79 j := fun j => e 79 j (by omega) (by omega)
  have g82 : ∀ j, mI E 82 j = mI S 82 j := fun j => e 82 j (by omega) (by omega)
  have gF : ∀ s n, hasF E s n = hasF S s n := hasF_s (fun p => e 80 p (by omega) (by omega)) (fun p => e 81 p (by omega) (by omega))
  have gm : ∀ n k c, mOf E n k c = mOf S n k c := fun n k c => mOf_e (fun p => e 76 p (by omega) (by omega)) (fun p => e 77 p (by omega) (by omega)) n k c
  skip
  exact why_of h1 h2 hy
theorem we_u {S E : Mem} {d ns ob nc nf f i n h a : Nat} (hW : WW S d ob ns nc nf) (hB : SB S E) (hf : mI S 109 d = nI f) (hf1 : f < 8) (hi : mI S 110 d = nI i) (hi1 : i < 40) (hl : mI S 71 f = nI n) (hn : i < n) (hn1 : n ≤ 40) (hh : mI S 111 d = nI h) (hh1 : h ≤ 8) (ha : mI S 73 (40 * f + i) = nI a) (hc : mI S 72 (40 * f + i) = nI 117) (hy : d_X12_why S = some (nI 0, S)) : d_X12_why E = some (nI 0, E) := by
  obtain ⟨b1, b2, b3⟩ := id hB
  have e : ∀ a j, a ≠ 69 → a < 118 → mI E a j = mI S a j := fun a j h1 h2 => b1 a j (by omega) (by omega)
  have eD : ∀ j, mD E 107 j = mD S 107 j := fun j => b2 107 j (by omega)
  obtain ⟨hWA, hWV, hWC, hWO, hWF, hWS, hWP, hWE⟩ := id hW
  have hd := hWA.1
  have hd1 := hWA.2.1
  have h1 := wy_u hd hd1 hf hf1 hi hi1 hl hn hn1 hh hh1 hc
  have h2 := wy_u (S := E) ((b1 69 48 (by omega) (by omega)).trans hd) hd1 ((e 109 _ (by omega) (by omega)).trans hf) hf1 ((e 110 _ (by omega) (by omega)).trans hi) hi1 ((e 71 _ (by omega) (by omega)).trans hl) hn hn1 ((e 111 _ (by omega) (by omega)).trans hh) hh1 ((e 72 _ (by omega) (by omega)).trans hc)
  have g105 : ∀ j, mI E 105 j = mI S 105 j := fun j => e 105 j (by omega) (by omega)
  have g106 : ∀ j, mI E 106 j = mI S 106 j := fun j => e 106 j (by omega) (by omega)
  have g79 : ∀ j, mI E 79 j = mI S 79 j := fun j => e 79 j (by omega) (by omega)
  have g82 : ∀ j, mI E 82 j = mI S 82 j := fun j => e 82 j (by omega) (by omega)
  have gF : ∀ s n, hasF E s n = hasF S s n := hasF_s (fun p => e 80 p (by omega) (by omega)) (fun p => e 81 p (by omega) (by omega))
  have gm : ∀ n k c, mOf E n k c = mOf S n k c := fun n k c => mOf_e (fun p => e 76 p (by omega) (by omega)) (fun p => e 77 p (by omega) (by omega)) n k c
  skip
  exact why_of h1 h2 hy
theorem we_s {S E : Mem} {d ns ob nc nf f i n h a : Nat} (hW : WW S d ob ns nc nf) (hB : SB S E) (hf : mI S 109 d = nI f) (hf1 : f < 8) (hi : mI S 110 d = nI i) (hi1 : i < 40) (hl : mI S 71 f = nI n) (hn : i < n) (hn1 : n ≤ 40) (hh : mI S 111 d = nI h) (hh1 : h ≤ 8) (ha : mI S 73 (40 * f + i) = nI a) (hc : mI S 72 (40 * f + i) = nI 115) (hy : d_X12_why S = some (nI 0, S)) : d_X12_why E = some (nI 0, E) := by
  obtain ⟨b1, b2, b3⟩ := id hB
  have e : ∀ a j, a ≠ 69 → a < 118 → mI E a j = mI S a j := fun a j h1 h2 => b1 a j (by omega) (by omega)
  have eD : ∀ j, mD E 107 j = mD S 107 j := fun j => b2 107 j (by omega)
  obtain ⟨hWA, hWV, hWC, hWO, hWF, hWS, hWP, hWE⟩ := id hW
  have hd := hWA.1
  have hd1 := hWA.2.1
  have h1 := wy_s hd hd1 hf hf1 hi hi1 hl hn hn1 hh hh1 hc
  have h2 := wy_s (S := E) ((b1 69 48 (by omega) (by omega)).trans hd) hd1 ((e 109 _ (by omega) (by omega)).trans hf) hf1 ((e 110 _ (by omega) (by omega)).trans hi) hi1 ((e 71 _ (by omega) (by omega)).trans hl) hn hn1 ((e 111 _ (by omega) (by omega)).trans hh) hh1 ((e 72 _ (by omega) (by omega)).trans hc)
  have g105 : ∀ j, mI E 105 j = mI S 105 j := fun j => e 105 j (by omega) (by omega)
  have g106 : ∀ j, mI E 106 j = mI S 106 j := fun j => e 106 j (by omega) (by omega)
  have g79 : ∀ j, mI E 79 j = mI S 79 j := fun j => e 79 j (by omega) (by omega)
  have g82 : ∀ j, mI E 82 j = mI S 82 j := fun j => e 82 j (by omega) (by omega)
  have gF : ∀ s n, hasF E s n = hasF S s n := hasF_s (fun p => e 80 p (by omega) (by omega)) (fun p => e 81 p (by omega) (by omega))
  have gm : ∀ n k c, mOf E n k c = mOf S n k c := fun n k c => mOf_e (fun p => e 76 p (by omega) (by omega)) (fun p => e 77 p (by omega) (by omega)) n k c
  skip
  exact why_of h1 h2 hy
theorem we_d {S E : Mem} {d ns ob nc nf f i n h a : Nat} (hW : WW S d ob ns nc nf) (hB : SB S E) (hf : mI S 109 d = nI f) (hf1 : f < 8) (hi : mI S 110 d = nI i) (hi1 : i < 40) (hl : mI S 71 f = nI n) (hn : i < n) (hn1 : n ≤ 40) (hh : mI S 111 d = nI h) (hh1 : h ≤ 8) (ha : mI S 73 (40 * f + i) = nI a) (hc : mI S 72 (40 * f + i) = nI 100) (hy : d_X12_why S = some (nI 0, S)) : d_X12_why E = some (nI 0, E) := by
  obtain ⟨b1, b2, b3⟩ := id hB
  have e : ∀ a j, a ≠ 69 → a < 118 → mI E a j = mI S a j := fun a j h1 h2 => b1 a j (by omega) (by omega)
  have eD : ∀ j, mD E 107 j = mD S 107 j := fun j => b2 107 j (by omega)
  obtain ⟨hWA, hWV, hWC, hWO, hWF, hWS, hWP, hWE⟩ := id hW
  have hd := hWA.1
  have hd1 := hWA.2.1
  have h1 := wy_d hd hd1 hf hf1 hi hi1 hl hn hn1 hh hh1 hc
  have h2 := wy_d (S := E) ((b1 69 48 (by omega) (by omega)).trans hd) hd1 ((e 109 _ (by omega) (by omega)).trans hf) hf1 ((e 110 _ (by omega) (by omega)).trans hi) hi1 ((e 71 _ (by omega) (by omega)).trans hl) hn hn1 ((e 111 _ (by omega) (by omega)).trans hh) hh1 ((e 72 _ (by omega) (by omega)).trans hc)
  have g105 : ∀ j, mI E 105 j = mI S 105 j := fun j => e 105 j (by omega) (by omega)
  have g106 : ∀ j, mI E 106 j = mI S 106 j := fun j => e 106 j (by omega) (by omega)
  have g79 : ∀ j, mI E 79 j = mI S 79 j := fun j => e 79 j (by omega) (by omega)
  have g82 : ∀ j, mI E 82 j = mI S 82 j := fun j => e 82 j (by omega) (by omega)
  have gF : ∀ s n, hasF E s n = hasF S s n := hasF_s (fun p => e 80 p (by omega) (by omega)) (fun p => e 81 p (by omega) (by omega))
  have gm : ∀ n k c, mOf E n k c = mOf S n k c := fun n k c => mOf_e (fun p => e 76 p (by omega) (by omega)) (fun p => e 77 p (by omega) (by omega)) n k c
  skip
  exact why_of h1 h2 hy
theorem we_z {S E : Mem} {d ns ob nc nf f i n h a : Nat} (hW : WW S d ob ns nc nf) (hB : SB S E) (hf : mI S 109 d = nI f) (hf1 : f < 8) (hi : mI S 110 d = nI i) (hi1 : i < 40) (hl : mI S 71 f = nI n) (hn : i < n) (hn1 : n ≤ 40) (hh : mI S 111 d = nI h) (hh1 : h ≤ 8) (ha : mI S 73 (40 * f + i) = nI a) (hc : mI S 72 (40 * f + i) = nI 122) (hy : d_X12_why S = some (nI 0, S)) : d_X12_why E = some (nI 0, E) := by
  obtain ⟨b1, b2, b3⟩ := id hB
  have e : ∀ a j, a ≠ 69 → a < 118 → mI E a j = mI S a j := fun a j h1 h2 => b1 a j (by omega) (by omega)
  have eD : ∀ j, mD E 107 j = mD S 107 j := fun j => b2 107 j (by omega)
  obtain ⟨hWA, hWV, hWC, hWO, hWF, hWS, hWP, hWE⟩ := id hW
  have hd := hWA.1
  have hd1 := hWA.2.1
  have h1 := wy_z hd hd1 hf hf1 hi hi1 hl hn hn1 hh hh1 hc
  have h2 := wy_z (S := E) ((b1 69 48 (by omega) (by omega)).trans hd) hd1 ((e 109 _ (by omega) (by omega)).trans hf) hf1 ((e 110 _ (by omega) (by omega)).trans hi) hi1 ((e 71 _ (by omega) (by omega)).trans hl) hn hn1 ((e 111 _ (by omega) (by omega)).trans hh) hh1 ((e 72 _ (by omega) (by omega)).trans hc)
  have g105 : ∀ j, mI E 105 j = mI S 105 j := fun j => e 105 j (by omega) (by omega)
  have g106 : ∀ j, mI E 106 j = mI S 106 j := fun j => e 106 j (by omega) (by omega)
  have g79 : ∀ j, mI E 79 j = mI S 79 j := fun j => e 79 j (by omega) (by omega)
  have g82 : ∀ j, mI E 82 j = mI S 82 j := fun j => e 82 j (by omega) (by omega)
  have gF : ∀ s n, hasF E s n = hasF S s n := hasF_s (fun p => e 80 p (by omega) (by omega)) (fun p => e 81 p (by omega) (by omega))
  have gm : ∀ n k c, mOf E n k c = mOf S n k c := fun n k c => mOf_e (fun p => e 76 p (by omega) (by omega)) (fun p => e 77 p (by omega) (by omega)) n k c
  skip
  exact why_of h1 h2 hy
theorem we_t {S E : Mem} {d ns ob nc nf f i n h a : Nat} (hW : WW S d ob ns nc nf) (hB : SB S E) (hf : mI S 109 d = nI f) (hf1 : f < 8) (hi : mI S 110 d = nI i) (hi1 : i < 40) (hl : mI S 71 f = nI n) (hn : i < n) (hn1 : n ≤ 40) (hh : mI S 111 d = nI h) (hh1 : h ≤ 8) (ha : mI S 73 (40 * f + i) = nI a) (hc : mI S 72 (40 * f + i) = nI 116) (hy : d_X12_why S = some (nI 0, S)) : d_X12_why E = some (nI 0, E) := by
  obtain ⟨b1, b2, b3⟩ := id hB
  have e : ∀ a j, a ≠ 69 → a < 118 → mI E a j = mI S a j := fun a j h1 h2 => b1 a j (by omega) (by omega)
  have eD : ∀ j, mD E 107 j = mD S 107 j := fun j => b2 107 j (by omega)
  obtain ⟨hWA, hWV, hWC, hWO, hWF, hWS, hWP, hWE⟩ := id hW
  have hd := hWA.1
  have hd1 := hWA.2.1
  have h1 := wy_t hd hd1 hf hf1 hi hi1 hl hn hn1 hh hh1 hc
  have h2 := wy_t (S := E) ((b1 69 48 (by omega) (by omega)).trans hd) hd1 ((e 109 _ (by omega) (by omega)).trans hf) hf1 ((e 110 _ (by omega) (by omega)).trans hi) hi1 ((e 71 _ (by omega) (by omega)).trans hl) hn hn1 ((e 111 _ (by omega) (by omega)).trans hh) hh1 ((e 72 _ (by omega) (by omega)).trans hc)
  have g105 : ∀ j, mI E 105 j = mI S 105 j := fun j => e 105 j (by omega) (by omega)
  have g106 : ∀ j, mI E 106 j = mI S 106 j := fun j => e 106 j (by omega) (by omega)
  have g79 : ∀ j, mI E 79 j = mI S 79 j := fun j => e 79 j (by omega) (by omega)
  have g82 : ∀ j, mI E 82 j = mI S 82 j := fun j => e 82 j (by omega) (by omega)
  have gF : ∀ s n, hasF E s n = hasF S s n := hasF_s (fun p => e 80 p (by omega) (by omega)) (fun p => e 81 p (by omega) (by omega))
  have gm : ∀ n k c, mOf E n k c = mOf S n k c := fun n k c => mOf_e (fun p => e 76 p (by omega) (by omega)) (fun p => e 77 p (by omega) (by omega)) n k c
  skip
  exact why_of h1 h2 hy
theorem we_j {S E : Mem} {d ns ob nc nf f i n h a : Nat} (hW : WW S d ob ns nc nf) (hB : SB S E) (hf : mI S 109 d = nI f) (hf1 : f < 8) (hi : mI S 110 d = nI i) (hi1 : i < 40) (hl : mI S 71 f = nI n) (hn : i < n) (hn1 : n ≤ 40) (hh : mI S 111 d = nI h) (hh1 : h ≤ 8) (ha : mI S 73 (40 * f + i) = nI a) (hc : mI S 72 (40 * f + i) = nI 106) (hy : d_X12_why S = some (nI 0, S)) : d_X12_why E = some (nI 0, E) := by
  obtain ⟨b1, b2, b3⟩ := id hB
  have e : ∀ a j, a ≠ 69 → a < 118 → mI E a j = mI S a j := fun a j h1 h2 => b1 a j (by omega) (by omega)
  have eD : ∀ j, mD E 107 j = mD S 107 j := fun j => b2 107 j (by omega)
  obtain ⟨hWA, hWV, hWC, hWO, hWF, hWS, hWP, hWE⟩ := id hW
  have hd := hWA.1
  have hd1 := hWA.2.1
  have h1 := wy_j hd hd1 hf hf1 hi hi1 hl hn hn1 hh hh1 hc
  have h2 := wy_j (S := E) ((b1 69 48 (by omega) (by omega)).trans hd) hd1 ((e 109 _ (by omega) (by omega)).trans hf) hf1 ((e 110 _ (by omega) (by omega)).trans hi) hi1 ((e 71 _ (by omega) (by omega)).trans hl) hn hn1 ((e 111 _ (by omega) (by omega)).trans hh) hh1 ((e 72 _ (by omega) (by omega)).trans hc)
  have g105 : ∀ j, mI E 105 j = mI S 105 j := fun j => e 105 j (by omega) (by omega)
  have g106 : ∀ j, mI E 106 j = mI S 106 j := fun j => e 106 j (by omega) (by omega)
  have g79 : ∀ j, mI E 79 j = mI S 79 j := fun j => e 79 j (by omega) (by omega)
  have g82 : ∀ j, mI E 82 j = mI S 82 j := fun j => e 82 j (by omega) (by omega)
  have gF : ∀ s n, hasF E s n = hasF S s n := hasF_s (fun p => e 80 p (by omega) (by omega)) (fun p => e 81 p (by omega) (by omega))
  have gm : ∀ n k c, mOf E n k c = mOf S n k c := fun n k c => mOf_e (fun p => e 76 p (by omega) (by omega)) (fun p => e 77 p (by omega) (by omega)) n k c
  skip
  exact why_of h1 h2 hy
theorem we_eq {S E : Mem} {d ns ob nc nf f i n h a : Nat} (hW : WW S d ob ns nc nf) (hB : SB S E) (hf : mI S 109 d = nI f) (hf1 : f < 8) (hi : mI S 110 d = nI i) (hi1 : i < 40) (hl : mI S 71 f = nI n) (hn : i < n) (hn1 : n ≤ 40) (hh : mI S 111 d = nI h) (hh1 : h ≤ 8) (ha : mI S 73 (40 * f + i) = nI a) (hc : mI S 72 (40 * f + i) = nI 61) (hy : d_X12_why S = some (nI 0, S)) : d_X12_why E = some (nI 0, E) := by
  obtain ⟨b1, b2, b3⟩ := id hB
  have e : ∀ a j, a ≠ 69 → a < 118 → mI E a j = mI S a j := fun a j h1 h2 => b1 a j (by omega) (by omega)
  have eD : ∀ j, mD E 107 j = mD S 107 j := fun j => b2 107 j (by omega)
  obtain ⟨hWA, hWV, hWC, hWO, hWF, hWS, hWP, hWE⟩ := id hW
  have hd := hWA.1
  have hd1 := hWA.2.1
  have h1 := wy_eq hd hd1 hf hf1 hi hi1 hl hn hn1 hh hh1 hc
  have h2 := wy_eq (S := E) ((b1 69 48 (by omega) (by omega)).trans hd) hd1 ((e 109 _ (by omega) (by omega)).trans hf) hf1 ((e 110 _ (by omega) (by omega)).trans hi) hi1 ((e 71 _ (by omega) (by omega)).trans hl) hn hn1 ((e 111 _ (by omega) (by omega)).trans hh) hh1 ((e 72 _ (by omega) (by omega)).trans hc)
  have g105 : ∀ j, mI E 105 j = mI S 105 j := fun j => e 105 j (by omega) (by omega)
  have g106 : ∀ j, mI E 106 j = mI S 106 j := fun j => e 106 j (by omega) (by omega)
  have g79 : ∀ j, mI E 79 j = mI S 79 j := fun j => e 79 j (by omega) (by omega)
  have g82 : ∀ j, mI E 82 j = mI S 82 j := fun j => e 82 j (by omega) (by omega)
  have gF : ∀ s n, hasF E s n = hasF S s n := hasF_s (fun p => e 80 p (by omega) (by omega)) (fun p => e 81 p (by omega) (by omega))
  have gm : ∀ n k c, mOf E n k c = mOf S n k c := fun n k c => mOf_e (fun p => e 76 p (by omega) (by omega)) (fun p => e 77 p (by omega) (by omega)) n k c
  skip
  exact why_of h1 h2 hy
theorem we_add {S E : Mem} {d ns ob nc nf f i n h a : Nat} (hW : WW S d ob ns nc nf) (hB : SB S E) (hf : mI S 109 d = nI f) (hf1 : f < 8) (hi : mI S 110 d = nI i) (hi1 : i < 40) (hl : mI S 71 f = nI n) (hn : i < n) (hn1 : n ≤ 40) (hh : mI S 111 d = nI h) (hh1 : h ≤ 8) (ha : mI S 73 (40 * f + i) = nI a) (hc : mI S 72 (40 * f + i) = nI 43) (hy : d_X12_why S = some (nI 0, S)) : d_X12_why E = some (nI 0, E) := by
  obtain ⟨b1, b2, b3⟩ := id hB
  have e : ∀ a j, a ≠ 69 → a < 118 → mI E a j = mI S a j := fun a j h1 h2 => b1 a j (by omega) (by omega)
  have eD : ∀ j, mD E 107 j = mD S 107 j := fun j => b2 107 j (by omega)
  obtain ⟨hWA, hWV, hWC, hWO, hWF, hWS, hWP, hWE⟩ := id hW
  have hd := hWA.1
  have hd1 := hWA.2.1
  have h1 := wy_add hd hd1 hf hf1 hi hi1 hl hn hn1 hh hh1 hc
  have h2 := wy_add (S := E) ((b1 69 48 (by omega) (by omega)).trans hd) hd1 ((e 109 _ (by omega) (by omega)).trans hf) hf1 ((e 110 _ (by omega) (by omega)).trans hi) hi1 ((e 71 _ (by omega) (by omega)).trans hl) hn hn1 ((e 111 _ (by omega) (by omega)).trans hh) hh1 ((e 72 _ (by omega) (by omega)).trans hc)
  have g105 : ∀ j, mI E 105 j = mI S 105 j := fun j => e 105 j (by omega) (by omega)
  have g106 : ∀ j, mI E 106 j = mI S 106 j := fun j => e 106 j (by omega) (by omega)
  have g79 : ∀ j, mI E 79 j = mI S 79 j := fun j => e 79 j (by omega) (by omega)
  have g82 : ∀ j, mI E 82 j = mI S 82 j := fun j => e 82 j (by omega) (by omega)
  have gF : ∀ s n, hasF E s n = hasF S s n := hasF_s (fun p => e 80 p (by omega) (by omega)) (fun p => e 81 p (by omega) (by omega))
  have gm : ∀ n k c, mOf E n k c = mOf S n k c := fun n k c => mOf_e (fun p => e 76 p (by omega) (by omega)) (fun p => e 77 p (by omega) (by omega)) n k c
  simp only [g105, g106, g79, g82, gF, gm, eD] at h2
  exact why_of h1 h2 hy
theorem we_sub {S E : Mem} {d ns ob nc nf f i n h a : Nat} (hW : WW S d ob ns nc nf) (hB : SB S E) (hf : mI S 109 d = nI f) (hf1 : f < 8) (hi : mI S 110 d = nI i) (hi1 : i < 40) (hl : mI S 71 f = nI n) (hn : i < n) (hn1 : n ≤ 40) (hh : mI S 111 d = nI h) (hh1 : h ≤ 8) (ha : mI S 73 (40 * f + i) = nI a) (hc : mI S 72 (40 * f + i) = nI 45) (hy : d_X12_why S = some (nI 0, S)) : d_X12_why E = some (nI 0, E) := by
  obtain ⟨b1, b2, b3⟩ := id hB
  have e : ∀ a j, a ≠ 69 → a < 118 → mI E a j = mI S a j := fun a j h1 h2 => b1 a j (by omega) (by omega)
  have eD : ∀ j, mD E 107 j = mD S 107 j := fun j => b2 107 j (by omega)
  obtain ⟨hWA, hWV, hWC, hWO, hWF, hWS, hWP, hWE⟩ := id hW
  have hd := hWA.1
  have hd1 := hWA.2.1
  have h1 := wy_sub hd hd1 hf hf1 hi hi1 hl hn hn1 hh hh1 hc
  have h2 := wy_sub (S := E) ((b1 69 48 (by omega) (by omega)).trans hd) hd1 ((e 109 _ (by omega) (by omega)).trans hf) hf1 ((e 110 _ (by omega) (by omega)).trans hi) hi1 ((e 71 _ (by omega) (by omega)).trans hl) hn hn1 ((e 111 _ (by omega) (by omega)).trans hh) hh1 ((e 72 _ (by omega) (by omega)).trans hc)
  have g105 : ∀ j, mI E 105 j = mI S 105 j := fun j => e 105 j (by omega) (by omega)
  have g106 : ∀ j, mI E 106 j = mI S 106 j := fun j => e 106 j (by omega) (by omega)
  have g79 : ∀ j, mI E 79 j = mI S 79 j := fun j => e 79 j (by omega) (by omega)
  have g82 : ∀ j, mI E 82 j = mI S 82 j := fun j => e 82 j (by omega) (by omega)
  have gF : ∀ s n, hasF E s n = hasF S s n := hasF_s (fun p => e 80 p (by omega) (by omega)) (fun p => e 81 p (by omega) (by omega))
  have gm : ∀ n k c, mOf E n k c = mOf S n k c := fun n k c => mOf_e (fun p => e 76 p (by omega) (by omega)) (fun p => e 77 p (by omega) (by omega)) n k c
  simp only [g105, g106, g79, g82, gF, gm, eD] at h2
  exact why_of h1 h2 hy
theorem we_mul {S E : Mem} {d ns ob nc nf f i n h a : Nat} (hW : WW S d ob ns nc nf) (hB : SB S E) (hf : mI S 109 d = nI f) (hf1 : f < 8) (hi : mI S 110 d = nI i) (hi1 : i < 40) (hl : mI S 71 f = nI n) (hn : i < n) (hn1 : n ≤ 40) (hh : mI S 111 d = nI h) (hh1 : h ≤ 8) (ha : mI S 73 (40 * f + i) = nI a) (hc : mI S 72 (40 * f + i) = nI 42) (hy : d_X12_why S = some (nI 0, S)) : d_X12_why E = some (nI 0, E) := by
  obtain ⟨b1, b2, b3⟩ := id hB
  have e : ∀ a j, a ≠ 69 → a < 118 → mI E a j = mI S a j := fun a j h1 h2 => b1 a j (by omega) (by omega)
  have eD : ∀ j, mD E 107 j = mD S 107 j := fun j => b2 107 j (by omega)
  obtain ⟨hWA, hWV, hWC, hWO, hWF, hWS, hWP, hWE⟩ := id hW
  have hd := hWA.1
  have hd1 := hWA.2.1
  have h1 := wy_mul hd hd1 hf hf1 hi hi1 hl hn hn1 hh hh1 hc
  have h2 := wy_mul (S := E) ((b1 69 48 (by omega) (by omega)).trans hd) hd1 ((e 109 _ (by omega) (by omega)).trans hf) hf1 ((e 110 _ (by omega) (by omega)).trans hi) hi1 ((e 71 _ (by omega) (by omega)).trans hl) hn hn1 ((e 111 _ (by omega) (by omega)).trans hh) hh1 ((e 72 _ (by omega) (by omega)).trans hc)
  have g105 : ∀ j, mI E 105 j = mI S 105 j := fun j => e 105 j (by omega) (by omega)
  have g106 : ∀ j, mI E 106 j = mI S 106 j := fun j => e 106 j (by omega) (by omega)
  have g79 : ∀ j, mI E 79 j = mI S 79 j := fun j => e 79 j (by omega) (by omega)
  have g82 : ∀ j, mI E 82 j = mI S 82 j := fun j => e 82 j (by omega) (by omega)
  have gF : ∀ s n, hasF E s n = hasF S s n := hasF_s (fun p => e 80 p (by omega) (by omega)) (fun p => e 81 p (by omega) (by omega))
  have gm : ∀ n k c, mOf E n k c = mOf S n k c := fun n k c => mOf_e (fun p => e 76 p (by omega) (by omega)) (fun p => e 77 p (by omega) (by omega)) n k c
  simp only [g105, g106, g79, g82, gF, gm, eD] at h2
  exact why_of h1 h2 hy
theorem we_lt {S E : Mem} {d ns ob nc nf f i n h a : Nat} (hW : WW S d ob ns nc nf) (hB : SB S E) (hf : mI S 109 d = nI f) (hf1 : f < 8) (hi : mI S 110 d = nI i) (hi1 : i < 40) (hl : mI S 71 f = nI n) (hn : i < n) (hn1 : n ≤ 40) (hh : mI S 111 d = nI h) (hh1 : h ≤ 8) (ha : mI S 73 (40 * f + i) = nI a) (hc : mI S 72 (40 * f + i) = nI 60) (hy : d_X12_why S = some (nI 0, S)) : d_X12_why E = some (nI 0, E) := by
  obtain ⟨b1, b2, b3⟩ := id hB
  have e : ∀ a j, a ≠ 69 → a < 118 → mI E a j = mI S a j := fun a j h1 h2 => b1 a j (by omega) (by omega)
  have eD : ∀ j, mD E 107 j = mD S 107 j := fun j => b2 107 j (by omega)
  obtain ⟨hWA, hWV, hWC, hWO, hWF, hWS, hWP, hWE⟩ := id hW
  have hd := hWA.1
  have hd1 := hWA.2.1
  have h1 := wy_lt hd hd1 hf hf1 hi hi1 hl hn hn1 hh hh1 hc
  have h2 := wy_lt (S := E) ((b1 69 48 (by omega) (by omega)).trans hd) hd1 ((e 109 _ (by omega) (by omega)).trans hf) hf1 ((e 110 _ (by omega) (by omega)).trans hi) hi1 ((e 71 _ (by omega) (by omega)).trans hl) hn hn1 ((e 111 _ (by omega) (by omega)).trans hh) hh1 ((e 72 _ (by omega) (by omega)).trans hc)
  have g105 : ∀ j, mI E 105 j = mI S 105 j := fun j => e 105 j (by omega) (by omega)
  have g106 : ∀ j, mI E 106 j = mI S 106 j := fun j => e 106 j (by omega) (by omega)
  have g79 : ∀ j, mI E 79 j = mI S 79 j := fun j => e 79 j (by omega) (by omega)
  have g82 : ∀ j, mI E 82 j = mI S 82 j := fun j => e 82 j (by omega) (by omega)
  have gF : ∀ s n, hasF E s n = hasF S s n := hasF_s (fun p => e 80 p (by omega) (by omega)) (fun p => e 81 p (by omega) (by omega))
  have gm : ∀ n k c, mOf E n k c = mOf S n k c := fun n k c => mOf_e (fun p => e 76 p (by omega) (by omega)) (fun p => e 77 p (by omega) (by omega)) n k c
  simp only [g105, g106, g79, g82, gF, gm, eD] at h2
  exact why_of h1 h2 hy
theorem we_div {S E : Mem} {d ns ob nc nf f i n h a : Nat} (hW : WW S d ob ns nc nf) (hB : SB S E) (hf : mI S 109 d = nI f) (hf1 : f < 8) (hi : mI S 110 d = nI i) (hi1 : i < 40) (hl : mI S 71 f = nI n) (hn : i < n) (hn1 : n ≤ 40) (hh : mI S 111 d = nI h) (hh1 : h ≤ 8) (ha : mI S 73 (40 * f + i) = nI a) (hc : mI S 72 (40 * f + i) = nI 47) (hy : d_X12_why S = some (nI 0, S)) : d_X12_why E = some (nI 0, E) := by
  obtain ⟨b1, b2, b3⟩ := id hB
  have e : ∀ a j, a ≠ 69 → a < 118 → mI E a j = mI S a j := fun a j h1 h2 => b1 a j (by omega) (by omega)
  have eD : ∀ j, mD E 107 j = mD S 107 j := fun j => b2 107 j (by omega)
  obtain ⟨hWA, hWV, hWC, hWO, hWF, hWS, hWP, hWE⟩ := id hW
  have hd := hWA.1
  have hd1 := hWA.2.1
  have h1 := wy_div hd hd1 hf hf1 hi hi1 hl hn hn1 hh hh1 hc
  have h2 := wy_div (S := E) ((b1 69 48 (by omega) (by omega)).trans hd) hd1 ((e 109 _ (by omega) (by omega)).trans hf) hf1 ((e 110 _ (by omega) (by omega)).trans hi) hi1 ((e 71 _ (by omega) (by omega)).trans hl) hn hn1 ((e 111 _ (by omega) (by omega)).trans hh) hh1 ((e 72 _ (by omega) (by omega)).trans hc)
  have g105 : ∀ j, mI E 105 j = mI S 105 j := fun j => e 105 j (by omega) (by omega)
  have g106 : ∀ j, mI E 106 j = mI S 106 j := fun j => e 106 j (by omega) (by omega)
  have g79 : ∀ j, mI E 79 j = mI S 79 j := fun j => e 79 j (by omega) (by omega)
  have g82 : ∀ j, mI E 82 j = mI S 82 j := fun j => e 82 j (by omega) (by omega)
  have gF : ∀ s n, hasF E s n = hasF S s n := hasF_s (fun p => e 80 p (by omega) (by omega)) (fun p => e 81 p (by omega) (by omega))
  have gm : ∀ n k c, mOf E n k c = mOf S n k c := fun n k c => mOf_e (fun p => e 76 p (by omega) (by omega)) (fun p => e 77 p (by omega) (by omega)) n k c
  simp only [g105, g106, g79, g82, gF, gm, eD] at h2
  exact why_of h1 h2 hy
theorem we_rem {S E : Mem} {d ns ob nc nf f i n h a : Nat} (hW : WW S d ob ns nc nf) (hB : SB S E) (hf : mI S 109 d = nI f) (hf1 : f < 8) (hi : mI S 110 d = nI i) (hi1 : i < 40) (hl : mI S 71 f = nI n) (hn : i < n) (hn1 : n ≤ 40) (hh : mI S 111 d = nI h) (hh1 : h ≤ 8) (ha : mI S 73 (40 * f + i) = nI a) (hc : mI S 72 (40 * f + i) = nI 37) (hy : d_X12_why S = some (nI 0, S)) : d_X12_why E = some (nI 0, E) := by
  obtain ⟨b1, b2, b3⟩ := id hB
  have e : ∀ a j, a ≠ 69 → a < 118 → mI E a j = mI S a j := fun a j h1 h2 => b1 a j (by omega) (by omega)
  have eD : ∀ j, mD E 107 j = mD S 107 j := fun j => b2 107 j (by omega)
  obtain ⟨hWA, hWV, hWC, hWO, hWF, hWS, hWP, hWE⟩ := id hW
  have hd := hWA.1
  have hd1 := hWA.2.1
  have h1 := wy_rem hd hd1 hf hf1 hi hi1 hl hn hn1 hh hh1 hc
  have h2 := wy_rem (S := E) ((b1 69 48 (by omega) (by omega)).trans hd) hd1 ((e 109 _ (by omega) (by omega)).trans hf) hf1 ((e 110 _ (by omega) (by omega)).trans hi) hi1 ((e 71 _ (by omega) (by omega)).trans hl) hn hn1 ((e 111 _ (by omega) (by omega)).trans hh) hh1 ((e 72 _ (by omega) (by omega)).trans hc)
  have g105 : ∀ j, mI E 105 j = mI S 105 j := fun j => e 105 j (by omega) (by omega)
  have g106 : ∀ j, mI E 106 j = mI S 106 j := fun j => e 106 j (by omega) (by omega)
  have g79 : ∀ j, mI E 79 j = mI S 79 j := fun j => e 79 j (by omega) (by omega)
  have g82 : ∀ j, mI E 82 j = mI S 82 j := fun j => e 82 j (by omega) (by omega)
  have gF : ∀ s n, hasF E s n = hasF S s n := hasF_s (fun p => e 80 p (by omega) (by omega)) (fun p => e 81 p (by omega) (by omega))
  have gm : ∀ n k c, mOf E n k c = mOf S n k c := fun n k c => mOf_e (fun p => e 76 p (by omega) (by omega)) (fun p => e 77 p (by omega) (by omega)) n k c
  simp only [g105, g106, g79, g82, gF, gm, eD] at h2
  exact why_of h1 h2 hy
theorem we_w {S E : Mem} {d ns ob nc nf f i n h a : Nat} (hW : WW S d ob ns nc nf) (hB : SB S E) (hf : mI S 109 d = nI f) (hf1 : f < 8) (hi : mI S 110 d = nI i) (hi1 : i < 40) (hl : mI S 71 f = nI n) (hn : i < n) (hn1 : n ≤ 40) (hh : mI S 111 d = nI h) (hh1 : h ≤ 8) (ha : mI S 73 (40 * f + i) = nI a) (hc : mI S 72 (40 * f + i) = nI 119) (hy : d_X12_why S = some (nI 0, S)) : d_X12_why E = some (nI 0, E) := by
  obtain ⟨b1, b2, b3⟩ := id hB
  have e : ∀ a j, a ≠ 69 → a < 118 → mI E a j = mI S a j := fun a j h1 h2 => b1 a j (by omega) (by omega)
  have eD : ∀ j, mD E 107 j = mD S 107 j := fun j => b2 107 j (by omega)
  obtain ⟨hWA, hWV, hWC, hWO, hWF, hWS, hWP, hWE⟩ := id hW
  have hd := hWA.1
  have hd1 := hWA.2.1
  have h1 := wy_w hd hd1 hf hf1 hi hi1 hl hn hn1 hh hh1 hc
  have h2 := wy_w (S := E) ((b1 69 48 (by omega) (by omega)).trans hd) hd1 ((e 109 _ (by omega) (by omega)).trans hf) hf1 ((e 110 _ (by omega) (by omega)).trans hi) hi1 ((e 71 _ (by omega) (by omega)).trans hl) hn hn1 ((e 111 _ (by omega) (by omega)).trans hh) hh1 ((e 72 _ (by omega) (by omega)).trans hc)
  have g105 : ∀ j, mI E 105 j = mI S 105 j := fun j => e 105 j (by omega) (by omega)
  have g106 : ∀ j, mI E 106 j = mI S 106 j := fun j => e 106 j (by omega) (by omega)
  have g79 : ∀ j, mI E 79 j = mI S 79 j := fun j => e 79 j (by omega) (by omega)
  have g82 : ∀ j, mI E 82 j = mI S 82 j := fun j => e 82 j (by omega) (by omega)
  have gF : ∀ s n, hasF E s n = hasF S s n := hasF_s (fun p => e 80 p (by omega) (by omega)) (fun p => e 81 p (by omega) (by omega))
  have gm : ∀ n k c, mOf E n k c = mOf S n k c := fun n k c => mOf_e (fun p => e 76 p (by omega) (by omega)) (fun p => e 77 p (by omega) (by omega)) n k c
  simp only [g105, g106, g79, g82, gF, gm, eD] at h2
  exact why_of h1 h2 hy
theorem we_n {S E : Mem} {d ns ob nc nf f i n h a : Nat} (hW : WW S d ob ns nc nf) (hB : SB S E) (hf : mI S 109 d = nI f) (hf1 : f < 8) (hi : mI S 110 d = nI i) (hi1 : i < 40) (hl : mI S 71 f = nI n) (hn : i < n) (hn1 : n ≤ 40) (hh : mI S 111 d = nI h) (hh1 : h ≤ 8) (ha : mI S 73 (40 * f + i) = nI a) (hc : mI S 72 (40 * f + i) = nI 110) (hy : d_X12_why S = some (nI 0, S)) : d_X12_why E = some (nI 0, E) := by
  obtain ⟨b1, b2, b3⟩ := id hB
  have e : ∀ a j, a ≠ 69 → a < 118 → mI E a j = mI S a j := fun a j h1 h2 => b1 a j (by omega) (by omega)
  have eD : ∀ j, mD E 107 j = mD S 107 j := fun j => b2 107 j (by omega)
  obtain ⟨hWA, hWV, hWC, hWO, hWF, hWS, hWP, hWE⟩ := id hW
  have hd := hWA.1
  have hd1 := hWA.2.1
  have h1 := wy_n hd hd1 hf hf1 hi hi1 hl hn hn1 hh hh1 hc hWO.1 hWO.2.1
  have h2 := wy_n (S := E) ((b1 69 48 (by omega) (by omega)).trans hd) hd1 ((e 109 _ (by omega) (by omega)).trans hf) hf1 ((e 110 _ (by omega) (by omega)).trans hi) hi1 ((e 71 _ (by omega) (by omega)).trans hl) hn hn1 ((e 111 _ (by omega) (by omega)).trans hh) hh1 ((e 72 _ (by omega) (by omega)).trans hc) ((b1 69 52 (by omega) (by omega)).trans hWO.1) hWO.2.1
  have g105 : ∀ j, mI E 105 j = mI S 105 j := fun j => e 105 j (by omega) (by omega)
  have g106 : ∀ j, mI E 106 j = mI S 106 j := fun j => e 106 j (by omega) (by omega)
  have g79 : ∀ j, mI E 79 j = mI S 79 j := fun j => e 79 j (by omega) (by omega)
  have g82 : ∀ j, mI E 82 j = mI S 82 j := fun j => e 82 j (by omega) (by omega)
  have gF : ∀ s n, hasF E s n = hasF S s n := hasF_s (fun p => e 80 p (by omega) (by omega)) (fun p => e 81 p (by omega) (by omega))
  have gm : ∀ n k c, mOf E n k c = mOf S n k c := fun n k c => mOf_e (fun p => e 76 p (by omega) (by omega)) (fun p => e 77 p (by omega) (by omega)) n k c
  skip
  exact why_of h1 h2 hy
theorem we_c {S E : Mem} {d ns ob nc nf f i n h a : Nat} (hW : WW S d ob ns nc nf) (hB : SB S E) (hf : mI S 109 d = nI f) (hf1 : f < 8) (hi : mI S 110 d = nI i) (hi1 : i < 40) (hl : mI S 71 f = nI n) (hn : i < n) (hn1 : n ≤ 40) (hh : mI S 111 d = nI h) (hh1 : h ≤ 8) (ha : mI S 73 (40 * f + i) = nI a) (hc : mI S 72 (40 * f + i) = nI 99) (ha1 : a < nf) (hy : d_X12_why S = some (nI 0, S)) : d_X12_why E = some (nI 0, E) := by
  obtain ⟨b1, b2, b3⟩ := id hB
  have e : ∀ a j, a ≠ 69 → a < 118 → mI E a j = mI S a j := fun a j h1 h2 => b1 a j (by omega) (by omega)
  have eD : ∀ j, mD E 107 j = mD S 107 j := fun j => b2 107 j (by omega)
  obtain ⟨hWA, hWV, hWC, hWO, hWF, hWS, hWP, hWE⟩ := id hW
  have hd := hWA.1
  have hd1 := hWA.2.1
  have hnf := hWP.2.1
  obtain ⟨m, hm1, hm⟩ := (hWP.2.2.2.2.1 a ha1).1
  have h1 := wy_c hd hd1 hf hf1 hi hi1 hl hn hn1 hh hh1 hc ha (by omega) hm (by omega)
  have h2 := wy_c (S := E) ((b1 69 48 (by omega) (by omega)).trans hd) hd1 ((e 109 _ (by omega) (by omega)).trans hf) hf1 ((e 110 _ (by omega) (by omega)).trans hi) hi1 ((e 71 _ (by omega) (by omega)).trans hl) hn hn1 ((e 111 _ (by omega) (by omega)).trans hh) hh1 ((e 72 _ (by omega) (by omega)).trans hc) ((e 73 _ (by omega) (by omega)).trans ha) (by omega) ((e 70 _ (by omega) (by omega)).trans hm) (by omega)
  have g105 : ∀ j, mI E 105 j = mI S 105 j := fun j => e 105 j (by omega) (by omega)
  have g106 : ∀ j, mI E 106 j = mI S 106 j := fun j => e 106 j (by omega) (by omega)
  have g79 : ∀ j, mI E 79 j = mI S 79 j := fun j => e 79 j (by omega) (by omega)
  have g82 : ∀ j, mI E 82 j = mI S 82 j := fun j => e 82 j (by omega) (by omega)
  have gF : ∀ s n, hasF E s n = hasF S s n := hasF_s (fun p => e 80 p (by omega) (by omega)) (fun p => e 81 p (by omega) (by omega))
  have gm : ∀ n k c, mOf E n k c = mOf S n k c := fun n k c => mOf_e (fun p => e 76 p (by omega) (by omega)) (fun p => e 77 p (by omega) (by omega)) n k c
  skip
  exact why_of h1 h2 hy
theorem we_r {S E : Mem} {d ns ob nc nf f i n h a : Nat} (hW : WW S d ob ns nc nf) (hB : SB S E) (hf : mI S 109 d = nI f) (hf1 : f < 8) (hi : mI S 110 d = nI i) (hi1 : i < 40) (hl : mI S 71 f = nI n) (hn : i < n) (hn1 : n ≤ 40) (hh : mI S 111 d = nI h) (hh1 : h ≤ 8) (ha : mI S 73 (40 * f + i) = nI a) (hc : mI S 72 (40 * f + i) = nI 114) (hy : d_X12_why S = some (nI 0, S)) : d_X12_why E = some (nI 0, E) := by
  obtain ⟨b1, b2, b3⟩ := id hB
  have e : ∀ a j, a ≠ 69 → a < 118 → mI E a j = mI S a j := fun a j h1 h2 => b1 a j (by omega) (by omega)
  have eD : ∀ j, mD E 107 j = mD S 107 j := fun j => b2 107 j (by omega)
  obtain ⟨hWA, hWV, hWC, hWO, hWF, hWS, hWP, hWE⟩ := id hW
  have hd := hWA.1
  have hd1 := hWA.2.1
  have hb9 : ∃ hb, (0 < d → mI S 111 (d - 1) = nI hb) ∧ hb ≤ 8 := by
    by_cases q : 0 < d
    · obtain ⟨u, u1, hu⟩ := (hWA.2.2 (d - 1) (by omega)).2.2
      exact ⟨u, fun _ => hu, by omega⟩
    · exact ⟨0, fun y => absurd y q, by omega⟩
  obtain ⟨hb, hb0, hb1⟩ := hb9
  have h1 := wy_r hd hd1 hf hf1 hi hi1 hl hn hn1 hh hh1 hc hb0 hb1
  have h2 := wy_r (S := E) ((b1 69 48 (by omega) (by omega)).trans hd) hd1 ((e 109 _ (by omega) (by omega)).trans hf) hf1 ((e 110 _ (by omega) (by omega)).trans hi) hi1 ((e 71 _ (by omega) (by omega)).trans hl) hn hn1 ((e 111 _ (by omega) (by omega)).trans hh) hh1 ((e 72 _ (by omega) (by omega)).trans hc) (fun y => (e 111 _ (by omega) (by omega)).trans (hb0 y)) hb1
  have g105 : ∀ j, mI E 105 j = mI S 105 j := fun j => e 105 j (by omega) (by omega)
  have g106 : ∀ j, mI E 106 j = mI S 106 j := fun j => e 106 j (by omega) (by omega)
  have g79 : ∀ j, mI E 79 j = mI S 79 j := fun j => e 79 j (by omega) (by omega)
  have g82 : ∀ j, mI E 82 j = mI S 82 j := fun j => e 82 j (by omega) (by omega)
  have gF : ∀ s n, hasF E s n = hasF S s n := hasF_s (fun p => e 80 p (by omega) (by omega)) (fun p => e 81 p (by omega) (by omega))
  have gm : ∀ n k c, mOf E n k c = mOf S n k c := fun n k c => mOf_e (fun p => e 76 p (by omega) (by omega)) (fun p => e 77 p (by omega) (by omega)) n k c
  skip
  exact why_of h1 h2 hy
theorem we_g {S E : Mem} {d ns ob nc nf f i n h a : Nat} (hW : WW S d ob ns nc nf) (hB : SB S E) (hf : mI S 109 d = nI f) (hf1 : f < 8) (hi : mI S 110 d = nI i) (hi1 : i < 40) (hl : mI S 71 f = nI n) (hn : i < n) (hn1 : n ≤ 40) (hh : mI S 111 d = nI h) (hh1 : h ≤ 8) (ha : mI S 73 (40 * f + i) = nI a) (hc : mI S 72 (40 * f + i) = nI 103) (ha1 : a < 6) (hy : d_X12_why S = some (nI 0, S)) : d_X12_why E = some (nI 0, E) := by
  obtain ⟨b1, b2, b3⟩ := id hB
  have e : ∀ a j, a ≠ 69 → a < 118 → mI E a j = mI S a j := fun a j h1 h2 => b1 a j (by omega) (by omega)
  have eD : ∀ j, mD E 107 j = mD S 107 j := fun j => b2 107 j (by omega)
  obtain ⟨hWA, hWV, hWC, hWO, hWF, hWS, hWP, hWE⟩ := id hW
  have hd := hWA.1
  have hd1 := hWA.2.1
  have hob := hWO.2.1
  have hns := hWS.2.1
  have hnf := hWP.2.1
  have hO : ∃ q0 s cl, 0 < h → mI S 105 (14 * d + 6 + h - 1) = nI 111 → mI S 106 (14 * d + 6 + h - 1) = nI q0 ∧ q0 < 60 ∧ mI S 112 q0 = nI s ∧ s < 60 ∧ mI S 80 s = nI (cN S s) ∧ cN S s ≤ 6 ∧ mI S 79 s = nI cl ∧ cl < nc := by
    by_cases q : 1 ≤ h ∧ mI S 105 (14 * d + 6 + h - 1) = nI 111
    · obtain ⟨q9, k111⟩ := q
      have epl : 14 * d + 6 + h - 1 = 14 * d + (6 + h - 1) := by omega
      obtain ⟨q0, s, cl, hq1, hq60, hq9, hs, hs1, hs60, hz80, hcl, hcl1⟩ := obj_at (j := 6 + h - 1) hW hh hh1 (by omega) (by rw [← epl]; exact k111)
      rw [← epl] at hq9
      exact ⟨q0, s, cl, fun _ _ => ⟨hq9, hq60, hs, hs60, hz80, cN_le S s, hcl, hcl1⟩⟩
    · exact ⟨0, 0, 0, fun y1 y2 => absurd ⟨by omega, y2⟩ q⟩
  obtain ⟨q0, s, cl, hO⟩ := hO
  have h1 := wy_g hd hd1 hf hf1 hi hi1 hl hn hn1 hh hh1 hc ha ha1 (fun y1 y2 => by obtain ⟨hq9, hq60, hs, hs60, hz80, hz6, hcl, hcl1⟩ := hO y1 y2; exact ⟨hq9, hq60, hs, hs60, hz80, hz6⟩)
  have h2 := wy_g (S := E) ((b1 69 48 (by omega) (by omega)).trans hd) hd1 ((e 109 _ (by omega) (by omega)).trans hf) hf1 ((e 110 _ (by omega) (by omega)).trans hi) hi1 ((e 71 _ (by omega) (by omega)).trans hl) hn hn1 ((e 111 _ (by omega) (by omega)).trans hh) hh1 ((e 72 _ (by omega) (by omega)).trans hc) ((e 73 _ (by omega) (by omega)).trans ha) ha1 (fun y1 y2 => by rw [e 105 _ (by omega) (by omega)] at y2; obtain ⟨hq9, hq60, hs, hs60, hz80, hz6, hcl, hcl1⟩ := hO y1 y2; exact ⟨(e 106 _ (by omega) (by omega)).trans hq9, hq60, (e 112 _ (by omega) (by omega)).trans hs, hs60, (e 80 _ (by omega) (by omega)).trans hz80, hz6⟩)
  have g105 : ∀ j, mI E 105 j = mI S 105 j := fun j => e 105 j (by omega) (by omega)
  have g106 : ∀ j, mI E 106 j = mI S 106 j := fun j => e 106 j (by omega) (by omega)
  have g79 : ∀ j, mI E 79 j = mI S 79 j := fun j => e 79 j (by omega) (by omega)
  have g82 : ∀ j, mI E 82 j = mI S 82 j := fun j => e 82 j (by omega) (by omega)
  have gF : ∀ s n, hasF E s n = hasF S s n := hasF_s (fun p => e 80 p (by omega) (by omega)) (fun p => e 81 p (by omega) (by omega))
  have gm : ∀ n k c, mOf E n k c = mOf S n k c := fun n k c => mOf_e (fun p => e 76 p (by omega) (by omega)) (fun p => e 77 p (by omega) (by omega)) n k c
  simp only [g105, g106, g79, g82, gF, gm, eD] at h2
  exact why_of h1 h2 hy
theorem we_m {S E : Mem} {d ns ob nc nf f i n h a : Nat} (hW : WW S d ob ns nc nf) (hB : SB S E) (hf : mI S 109 d = nI f) (hf1 : f < 8) (hi : mI S 110 d = nI i) (hi1 : i < 40) (hl : mI S 71 f = nI n) (hn : i < n) (hn1 : n ≤ 40) (hh : mI S 111 d = nI h) (hh1 : h ≤ 8) (ha : mI S 73 (40 * f + i) = nI a) (hc : mI S 72 (40 * f + i) = nI 109) (ha1 : a < 6) (hy : d_X12_why S = some (nI 0, S)) : d_X12_why E = some (nI 0, E) := by
  obtain ⟨b1, b2, b3⟩ := id hB
  have e : ∀ a j, a ≠ 69 → a < 118 → mI E a j = mI S a j := fun a j h1 h2 => b1 a j (by omega) (by omega)
  have eD : ∀ j, mD E 107 j = mD S 107 j := fun j => b2 107 j (by omega)
  obtain ⟨hWA, hWV, hWC, hWO, hWF, hWS, hWP, hWE⟩ := id hW
  have hd := hWA.1
  have hd1 := hWA.2.1
  have hob := hWO.2.1
  have hns := hWS.2.1
  have hnf := hWP.2.1
  have hO : ∃ q0 s cl, 0 < h → mI S 105 (14 * d + 6 + h - 1) = nI 111 → mI S 106 (14 * d + 6 + h - 1) = nI q0 ∧ q0 < 60 ∧ mI S 112 q0 = nI s ∧ s < 60 ∧ mI S 80 s = nI (cN S s) ∧ cN S s ≤ 6 ∧ mI S 79 s = nI cl ∧ cl < nc := by
    by_cases q : 1 ≤ h ∧ mI S 105 (14 * d + 6 + h - 1) = nI 111
    · obtain ⟨q9, k111⟩ := q
      have epl : 14 * d + 6 + h - 1 = 14 * d + (6 + h - 1) := by omega
      obtain ⟨q0, s, cl, hq1, hq60, hq9, hs, hs1, hs60, hz80, hcl, hcl1⟩ := obj_at (j := 6 + h - 1) hW hh hh1 (by omega) (by rw [← epl]; exact k111)
      rw [← epl] at hq9
      exact ⟨q0, s, cl, fun _ _ => ⟨hq9, hq60, hs, hs60, hz80, cN_le S s, hcl, hcl1⟩⟩
    · exact ⟨0, 0, 0, fun y1 y2 => absurd ⟨by omega, y2⟩ q⟩
  obtain ⟨q0, s, cl, hO⟩ := hO
  have h1 := wy_m hd hd1 hf hf1 hi hi1 hl hn hn1 hh hh1 hc ha ha1 hWP.2.2.2.1 (fun y1 y2 => by obtain ⟨hq9, hq60, hs, hs60, hz80, hz6, hcl, hcl1⟩ := hO y1 y2; exact ⟨hq9, hq60, hs, hs60, hcl, hcl1⟩)
  have h2 := wy_m (S := E) ((b1 69 48 (by omega) (by omega)).trans hd) hd1 ((e 109 _ (by omega) (by omega)).trans hf) hf1 ((e 110 _ (by omega) (by omega)).trans hi) hi1 ((e 71 _ (by omega) (by omega)).trans hl) hn hn1 ((e 111 _ (by omega) (by omega)).trans hh) hh1 ((e 72 _ (by omega) (by omega)).trans hc) ((e 73 _ (by omega) (by omega)).trans ha) ha1 (WfP_e hWP.2.2.2.1 (fun p => e 76 p (by omega) (by omega))) (fun y1 y2 => by rw [e 105 _ (by omega) (by omega)] at y2; obtain ⟨hq9, hq60, hs, hs60, hz80, hz6, hcl, hcl1⟩ := hO y1 y2; exact ⟨(e 106 _ (by omega) (by omega)).trans hq9, hq60, (e 112 _ (by omega) (by omega)).trans hs, hs60, (e 79 _ (by omega) (by omega)).trans hcl, hcl1⟩)
  have g105 : ∀ j, mI E 105 j = mI S 105 j := fun j => e 105 j (by omega) (by omega)
  have g106 : ∀ j, mI E 106 j = mI S 106 j := fun j => e 106 j (by omega) (by omega)
  have g79 : ∀ j, mI E 79 j = mI S 79 j := fun j => e 79 j (by omega) (by omega)
  have g82 : ∀ j, mI E 82 j = mI S 82 j := fun j => e 82 j (by omega) (by omega)
  have gF : ∀ s n, hasF E s n = hasF S s n := hasF_s (fun p => e 80 p (by omega) (by omega)) (fun p => e 81 p (by omega) (by omega))
  have gm : ∀ n k c, mOf E n k c = mOf S n k c := fun n k c => mOf_e (fun p => e 76 p (by omega) (by omega)) (fun p => e 77 p (by omega) (by omega)) n k c
  simp only [g105, g106, g79, g82, gF, gm, eD] at h2
  exact why_of h1 h2 hy
theorem we_p {S E : Mem} {d ns ob nc nf f i n h a : Nat} (hW : WW S d ob ns nc nf) (hB : SB S E) (hf : mI S 109 d = nI f) (hf1 : f < 8) (hi : mI S 110 d = nI i) (hi1 : i < 40) (hl : mI S 71 f = nI n) (hn : i < n) (hn1 : n ≤ 40) (hh : mI S 111 d = nI h) (hh1 : h ≤ 8) (ha : mI S 73 (40 * f + i) = nI a) (hc : mI S 72 (40 * f + i) = nI 112) (ha1 : a < 6) (hy : d_X12_why S = some (nI 0, S)) : d_X12_why E = some (nI 0, E) := by
  obtain ⟨b1, b2, b3⟩ := id hB
  have e : ∀ a j, a ≠ 69 → a < 118 → mI E a j = mI S a j := fun a j h1 h2 => b1 a j (by omega) (by omega)
  have eD : ∀ j, mD E 107 j = mD S 107 j := fun j => b2 107 j (by omega)
  obtain ⟨hWA, hWV, hWC, hWO, hWF, hWS, hWP, hWE⟩ := id hW
  have hd := hWA.1
  have hd1 := hWA.2.1
  have hob := hWO.2.1
  have hns := hWS.2.1
  have hnf := hWP.2.1
  have hO : ∃ q0 s cl, 1 < h → mI S 105 (14 * d + 6 + h - 2) = nI 111 → mI S 106 (14 * d + 6 + h - 2) = nI q0 ∧ q0 < 60 ∧ mI S 112 q0 = nI s ∧ s < 60 ∧ mI S 80 s = nI (cN S s) ∧ cN S s ≤ 6 ∧ mI S 79 s = nI cl ∧ cl < nc := by
    by_cases q : 2 ≤ h ∧ mI S 105 (14 * d + 6 + h - 2) = nI 111
    · obtain ⟨q9, k111⟩ := q
      have epl : 14 * d + 6 + h - 2 = 14 * d + (6 + h - 2) := by omega
      obtain ⟨q0, s, cl, hq1, hq60, hq9, hs, hs1, hs60, hz80, hcl, hcl1⟩ := obj_at (j := 6 + h - 2) hW hh hh1 (by omega) (by rw [← epl]; exact k111)
      rw [← epl] at hq9
      exact ⟨q0, s, cl, fun _ _ => ⟨hq9, hq60, hs, hs60, hz80, cN_le S s, hcl, hcl1⟩⟩
    · exact ⟨0, 0, 0, fun y1 y2 => absurd ⟨by omega, y2⟩ q⟩
  obtain ⟨q0, s, cl, hO⟩ := hO
  have h1 := wy_p hd hd1 hf hf1 hi hi1 hl hn hn1 hh hh1 hc ha hWS.1 hns ha1 (fun y1 y2 => by obtain ⟨hq9, hq60, hs, hs60, hz80, hz6, hcl, hcl1⟩ := hO y1 y2; exact ⟨hq9, hq60, hs, hs60, hz80, hz6⟩)
  have h2 := wy_p (S := E) ((b1 69 48 (by omega) (by omega)).trans hd) hd1 ((e 109 _ (by omega) (by omega)).trans hf) hf1 ((e 110 _ (by omega) (by omega)).trans hi) hi1 ((e 71 _ (by omega) (by omega)).trans hl) hn hn1 ((e 111 _ (by omega) (by omega)).trans hh) hh1 ((e 72 _ (by omega) (by omega)).trans hc) ((e 73 _ (by omega) (by omega)).trans ha) ((b1 69 12 (by omega) (by omega)).trans hWS.1) hns ha1 (fun y1 y2 => by rw [e 105 _ (by omega) (by omega)] at y2; obtain ⟨hq9, hq60, hs, hs60, hz80, hz6, hcl, hcl1⟩ := hO y1 y2; exact ⟨(e 106 _ (by omega) (by omega)).trans hq9, hq60, (e 112 _ (by omega) (by omega)).trans hs, hs60, (e 80 _ (by omega) (by omega)).trans hz80, hz6⟩)
  have g105 : ∀ j, mI E 105 j = mI S 105 j := fun j => e 105 j (by omega) (by omega)
  have g106 : ∀ j, mI E 106 j = mI S 106 j := fun j => e 106 j (by omega) (by omega)
  have g79 : ∀ j, mI E 79 j = mI S 79 j := fun j => e 79 j (by omega) (by omega)
  have g82 : ∀ j, mI E 82 j = mI S 82 j := fun j => e 82 j (by omega) (by omega)
  have gF : ∀ s n, hasF E s n = hasF S s n := hasF_s (fun p => e 80 p (by omega) (by omega)) (fun p => e 81 p (by omega) (by omega))
  have gm : ∀ n k c, mOf E n k c = mOf S n k c := fun n k c => mOf_e (fun p => e 76 p (by omega) (by omega)) (fun p => e 77 p (by omega) (by omega)) n k c
  simp only [g105, g106, g79, g82, gF, gm, eD] at h2
  exact why_of h1 h2 hy
end MH1
