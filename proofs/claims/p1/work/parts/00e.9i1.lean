/-! ===== traces of both, heads, the wheel ===== -/
section MO1
/-- the same but for traces, heads, caches and the recording's cells -/
def SW (S E : Mem) : Prop := (∀ a j, (a < 83 ∨ 104 < a) → a ≠ 108 → (a < 118 ∨ 126 < a) → (a ≠ 69 ∨ (j ≠ 26 ∧ j ≠ 35 ∧ j ≠ 58 ∧ (j < 68 ∨ 78 < j) ∧ j ≠ 83 ∧ j ≠ 88 ∧ j ≠ 89)) → mI E a j = mI S a j) ∧ (∀ a j, (a ≠ 69 ∨ j ≠ 90) → mD E a j = mD S a j) ∧ (∀ a j, mL E a j = mL S a j)
theorem SW.refl (S : Mem) : SW S S := ⟨fun _ _ _ _ _ _ => rfl, fun _ _ _ => rfl, fun _ _ => rfl⟩
theorem SW.trans {A B C : Mem} (h : SW A B) (k : SW B C) : SW A C := ⟨fun a j x y z v => (k.1 a j x y z v).trans (h.1 a j x y z v), fun a j x => (k.2.1 a j x).trans (h.2.1 a j x), fun a j => (k.2.2 a j).trans (h.2.2 a j)⟩
theorem NB.refl (M : Mem) : NB M M := ⟨fun _ _ _ => rfl, fun _ _ _ => rfl⟩
theorem NB.trans {A B C : Mem} (h : NB A B) (k : NB B C) : NB A C := ⟨fun a j x => (k.1 a j x).trans (h.1 a j x), fun a j x => (k.2 a j x).trans (h.2 a j x)⟩
theorem ww_sw {S E : Mem} {d ob ns nc nf : Nat} (hW : WW S d ob ns nc nf) (hB : SW S E) : WW E d ob ns nc nf := by
  obtain ⟨b1, b2, b3⟩ := hB
  obtain ⟨⟨a1, a2, a3⟩, hWV, hWC, hWO, hWF, hWS, hWP, hWE⟩ := hW
  have e : ∀ a j, a ≠ 69 → (a < 83 ∨ 104 < a) → a ≠ 108 → a < 118 → mI E a j = mI S a j := fun a j h1 h2 h3 h4 => b1 a j h2 h3 (by omega) (by omega)
  have b : ∀ j, j = 48 ∨ j = 52 ∨ j = 12 ∨ j = 1 ∨ j = 8 ∨ j = 57 ∨ j = 59 → mI E 69 j = mI S 69 j := fun j h => b1 69 j (by omega) (by omega) (by omega) (by omega)
  refine ⟨⟨(b 48 (by omega)).trans a1, a2, fun f hf => ?_⟩, fun f hf j hj => ?_, ⟨fun p hp => ?_, fun p hp => ?_⟩, ⟨(b 52 (by omega)).trans hWO.1, hWO.2.1, fun k hk => ?_⟩, ?_, ?_, ?_, ?_⟩
  · rw [e 109 f (by omega) (by omega) (by omega) (by omega), e 110 f (by omega) (by omega) (by omega) (by omega), e 111 f (by omega) (by omega) (by omega) (by omega)]; exact a3 f hf
  · rw [e 111 f (by omega) (by omega) (by omega) (by omega)] at hj
    rw [e 105 _ (by omega) (by omega) (by omega) (by omega), e 106 _ (by omega) (by omega) (by omega) (by omega)]; exact hWV f hf j hj
  · rw [e 105 _ (by omega) (by omega) (by omega) (by omega)]; exact hWC.1 p hp
  · rw [e 113 _ (by omega) (by omega) (by omega) (by omega)]; exact hWC.2 p hp
  · rw [e 112 _ (by omega) (by omega) (by omega) (by omega)]; exact hWO.2.2 k hk
  · exact WF_e hWF (fun p => e 80 p (by omega) (by omega) (by omega) (by omega)) (fun p => e 81 p (by omega) (by omega) (by omega) (by omega)) (fun p => e 112 p (by omega) (by omega) (by omega) (by omega)) (fun p => e 113 p (by omega) (by omega) (by omega) (by omega)) (fun p => e 114 p (by omega) (by omega) (by omega) (by omega))
  · exact WS_e hWS (b 12 (by omega)) (fun p => e 78 p (by omega) (by omega) (by omega) (by omega)) (fun p => e 79 p (by omega) (by omega) (by omega) (by omega)) (fun p => e 80 p (by omega) (by omega) (by omega) (by omega)) (fun p => e 81 p (by omega) (by omega) (by omega) (by omega)) (fun p => e 82 p (by omega) (by omega) (by omega) (by omega))
  · exact WP_e hWP (b 1 (by omega)) (b 8 (by omega)) (fun a p h1 h2 => e a p (by omega) (by omega) (by omega) (by omega))
  · unfold WE at hWE ⊢
    rw [b 57 (by omega), b 59 (by omega)]
    exact hWE
theorem rc_sw {M N S E : Mem} {d ns : Nat} (hR : RC M S 18 d ns) (hN : NB M N) (hB : SW S E) : RC N E 18 d ns := by
  obtain ⟨b1, b2, b3⟩ := hB
  obtain ⟨n1, n2⟩ := hN
  obtain ⟨hRV, hRF, hRT, hRO, hRA, hRS, hPR⟩ := hR
  have e : ∀ a j, a ≠ 69 → (a < 83 ∨ 104 < a) → a ≠ 108 → a < 118 → mI E a j = mI S a j := fun a j h1 h2 h3 h4 => b1 a j h2 h3 (by omega) (by omega)
  have b : ∀ j, j = 63 ∨ j = 52 ∨ j = 1 ∨ j = 8 ∨ j = 57 ∨ j = 59 → mI E 69 j = mI S 69 j := fun j h => b1 69 j (by omega) (by omega) (by omega) (by omega)
  have eD : ∀ a j, a ≠ 69 → mD E a j = mD S a j := fun a j h1 => b2 a j (by omega)
  refine ⟨fun p hp => ?_, fun p hp => ?_, ⟨fun i hi => ?_, ?_⟩, ?_, ⟨?_, fun f hf => ?_⟩, ?_, ?_⟩
  · rw [n1 _ _ (by omega), n1 _ _ (by omega), n2 _ _ (by omega), e 105 _ (by omega) (by omega) (by omega) (by omega), e 106 _ (by omega) (by omega) (by omega) (by omega), eD 107 _ (by omega)]; exact hRV p hp
  · rw [n1 _ _ (by omega), n1 _ _ (by omega), n2 _ _ (by omega), e 113 _ (by omega) (by omega) (by omega) (by omega), e 114 _ (by omega) (by omega) (by omega) (by omega), eD 115 _ (by omega)]; exact hRF p hp
  · rw [n1 _ _ (by omega), n1 _ _ (by omega), n2 _ _ (by omega), e 116 _ (by omega) (by omega) (by omega) (by omega), b3]; exact hRT.1 i hi
  · rw [n1 _ _ (by omega), n1 _ _ (by omega), n2 _ _ (by omega), b 63 (by omega), b3]; exact hRT.2
  · unfold RO at hRO ⊢
    rw [n1 18 10 (by omega), n1 18 12 (by omega), n1 18 11 (by omega), b 52 (by omega), b 57 (by omega), b 59 (by omega)]
    exact ⟨hRO.1, hRO.2.1, hRO.2.2.1, fun k hk => by rw [n1 _ _ (by omega), e 112 _ (by omega) (by omega) (by omega) (by omega)]; exact hRO.2.2.2 k hk⟩
  · rw [n1 18 9 (by omega)]; exact hRA.1
  · rw [n1 _ _ (by omega), n1 _ _ (by omega), n1 _ _ (by omega), e 109 _ (by omega) (by omega) (by omega) (by omega), e 110 _ (by omega) (by omega) (by omega) (by omega), e 111 _ (by omega) (by omega) (by omega) (by omega)]; exact hRA.2 f hf
  · exact RS_e hRS (fun a p h1 h2 => n1 a p (by omega)) (fun p => e 78 p (by omega) (by omega) (by omega) (by omega)) (fun p => e 79 p (by omega) (by omega) (by omega) (by omega)) (fun p => e 80 p (by omega) (by omega) (by omega) (by omega)) (fun p => e 81 p (by omega) (by omega) (by omega) (by omega)) (fun p => e 82 p (by omega) (by omega) (by omega) (by omega))
  · exact PR_e hPR (fun a p h1 h2 => n1 a p (by omega)) (b 1 (by omega)) (b 8 (by omega)) (fun a p h1 h2 => e a p (by omega) (by omega) (by omega) (by omega))
theorem sat_sw {S S2 R : Mem} {bS bR n oS oR v : Nat} {eS eR : Nat → Nat} {val rval : Nat → Vl} (hs : Sat S R bS bR n eS eR oS oR v val rval) (hB : SW S S2) : Sat S2 R bS bR n eS eR oS oR v val rval := by
  obtain ⟨⟨f1, f2, f3, f4⟩, s1, s2, s3⟩ := hs
  have b := hB.1
  have eN : ∀ f, hN S2 f = hN S f := fun f => by unfold hN; rw [b 111 f (by omega) (by omega) (by omega) (by omega)]
  have eV : ∀ p, vS S2 p = vS S p := fun p => by unfold vS; rw [b 105 p (by omega) (by omega) (by omega) (by omega), b 106 p (by omega) (by omega) (by omega) (by omega), hB.2.1 107 p (by omega)]
  refine ⟨⟨(b 69 48 (by omega) (by omega) (by omega) (by omega)).trans f1, f2, f3, fun j hj => ?_⟩, s1, fun j k l hj hc => ?_, fun w hw => ?_⟩
  · rw [b 109 _ (by omega) (by omega) (by omega) (by omega), b 110 _ (by omega) (by omega) (by omega) (by omega), eN]; exact f4 j hj
  · unfold Cv at hc
    rw [eN] at hc
    obtain ⟨u, u1, u2, u3, u4⟩ := s2 j k l hj hc
    exact ⟨u, u1, u2, (eV _).trans u3, u4⟩
  · exact Kn_e (s3 w hw) rfl rfl rfl rfl (Nat.le_refl _) (Nat.le_refl _) (fun p _ => b 112 p (by omega) (by omega) (by omega) (by omega)) (fun _ _ => rfl)
/-- a step of the class leaves the reference's cells, and a step of the reference the class's -/
def MF (M N : Mem) : Prop := (∀ a j, (a = 0 ∨ (27 < a ∧ a < 38) ∨ 68 < a) → a < 129 → mI N a j = mI M a j ∧ mD N a j = mD M a j ∧ mL N a j = mL M a j) ∧ N.2.2.2.2 = M.2.2.2.2
def SF (S E : Mem) : Prop := (∀ a j, (a < 69 ∨ 126 < a) → mI E a j = mI S a j ∧ mD E a j = mD S a j ∧ mL E a j = mL S a j) ∧ E.2.2.2 = S.2.2.2
theorem MF.refl (M : Mem) : MF M M := ⟨fun _ _ _ _ => ⟨rfl, rfl, rfl⟩, rfl⟩
theorem SF.refl (M : Mem) : SF M M := ⟨fun _ _ _ => ⟨rfl, rfl, rfl⟩, rfl⟩
theorem MF.trans {A B C : Mem} (h : MF A B) (k : MF B C) : MF A C := ⟨fun a j x y => ⟨(k.1 a j x y).1.trans (h.1 a j x y).1, (k.1 a j x y).2.1.trans (h.1 a j x y).2.1, (k.1 a j x y).2.2.trans (h.1 a j x y).2.2⟩, k.2.trans h.2⟩
theorem SF.trans {A B C : Mem} (h : SF A B) (k : SF B C) : SF A C := ⟨fun a j x => ⟨(k.1 a j x).1.trans (h.1 a j x).1, (k.1 a j x).2.1.trans (h.1 a j x).2.1, (k.1 a j x).2.2.trans (h.1 a j x).2.2⟩, k.2.trans h.2⟩
/-- what entering, leaving and breaking off leave as it is -/
def CAX (M S N E : Mem) : Prop := (MF M N ∧ SF S E ∧ ∀ j, 12 < j → mI N 18 j = mI M 18 j) ∧ (∀ a j, 39 < a → a < 44 → mI N a j = mI M a j) ∧ (∀ j, j < 8 → mI N 38 j = mI M 38 j) ∧ (∀ a j, 82 < a → a < 105 → a ≠ 95 → a ≠ 96 → a ≠ 101 → a ≠ 102 → a ≠ 103 → a ≠ 87 → a ≠ 88 → mI E a j = mI S a j) ∧ ∀ j, j = 23 ∨ j = 24 ∨ j = 58 → mI E 69 j = mI S 69 j
/-- where the class keeps trace t -/
def TRO (M : Mem) (B : Nat → Nat) (t st gm : Nat) : Prop := mR M 68 t = some (B t) ∧ mK M (B t) = 9 ∧ 129 ≤ B t ∧ (∀ i, i < 10 → mR M (B t) (2 + i) = some (B t + 1 + i) ∧ mK M (B t + 1 + i) = 21) ∧ mN M (B t + 1) = st ∧ mN M (B t + 2) = st + 1 ∧ ∀ i, 2 ≤ i → i < 10 → mN M (B t + 1 + i) = gm
/-- trace t in both; fg: the first guard of each step -/
def TRC (M S : Mem) (B : Nat → Nat) (t st gm : Nat) (fg : Nat → Nat) : Prop := TRO M B t st gm ∧ (mI M (B t) 0 = nI st ∧ mI S 90 t = nI st ∧ 1 ≤ st ∧ st ≤ 30) ∧ (mI M (B t) 1 = nI gm ∧ mI S 92 t = nI gm ∧ gm ≤ 120) ∧ (mI M (B t) 12 = mI S 93 t ∧ mI M (B t) 13 = mI S 94 t ∧ mI M (B t) 14 = mI S 89 t ∧ mI M (B t) 15 = mI S 95 t ∧ mI M (B t) 16 = mI S 96 t) ∧ (∀ k, k < st → mI M (B t + 1) k = mI S 91 (30 * t + k)) ∧ (∀ g, g < gm → mI M (B t + 3) g = mI S 97 (120 * t + g) ∧ mI M (B t + 4) g = mI S 98 (120 * t + g) ∧ dst (mI S 97 (120 * t + g)) (mI S 99 (120 * t + g)) (mI M (B t + 5) g) ∧ mI M (B t + 6) g = mI S 100 (120 * t + g) ∧ mI M (B t + 7) g = mI S 101 (120 * t + g) ∧ mI M (B t + 8) g = mI S 102 (120 * t + g) ∧ mI M (B t + 9) g = mI S 103 (120 * t + g) ∧ mI M (B t + 10) g = mI S 104 (120 * t + g) ∧ isCh (mI S 97 (120 * t + g)) = True) ∧ (fg 0 = 0 ∧ fg st = gm ∧ (∀ k, k < st → fg k ≤ fg (k + 1)) ∧ (∀ k, k ≤ st → mI M (B t + 2) k = nI (fg k)) ∧ ∀ k g, k < st → fg k ≤ g → g < fg (k + 1) → mI S 98 (120 * t + g) = nI k)
/-- the recorder's arrays -/
def LYR (M : Mem) : Prop := (mK M 48 = 6 ∧ 129 ≤ nx M) ∧ (∀ i, i < 6 → mR M 48 i = some (49 + i) ∧ mK M (49 + i) = 21) ∧ mN M 49 = 30 ∧ mN M 50 = 31 ∧ ∀ i, 2 ≤ i → i < 6 → mN M (49 + i) = 120
theorem LYR_e {M N : Mem} (h : LYR M) (hn : nx M ≤ nx N) (hR : ∀ j, mR N 48 j = mR M 48 j) (hT : ∀ a, mT N a = mT M a) : LYR N := by
  obtain ⟨⟨h1, h0⟩, h2, h3, h4, h5⟩ := h
  have k : ∀ a, mK N a = mK M a := fun a => by unfold mK; rw [hT]
  have n : ∀ a, mN N a = mN M a := fun a => by unfold mN; rw [hT]
  exact ⟨⟨(k _).trans h1, by omega⟩, fun i hi => ⟨(hR i).trans (h2 i hi).1, (k _).trans (h2 i hi).2⟩, (n _).trans h3, (n _).trans h4, fun i x y => (n _).trans (h5 i x y)⟩
/-- what no trace has used yet is as it was made -/
def FRE (S : Mem) (cnt : Nat) : Prop := (∀ t, cnt ≤ t → mI S 95 t = nI 0 ∧ mI S 96 t = nI 0) ∧ ∀ j, 120 * cnt ≤ j → mI S 101 j = nI 0 ∧ mI S 102 j = nI 0 ∧ mI S 103 j = nI 0
theorem FRE_e {S E : Mem} {cnt : Nat} (h : FRE S cnt) (h1 : ∀ t, cnt ≤ t → mI E 95 t = mI S 95 t ∧ mI E 96 t = mI S 96 t) (h2 : ∀ j, 120 * cnt ≤ j → mI E 101 j = mI S 101 j ∧ mI E 102 j = mI S 102 j ∧ mI E 103 j = mI S 103 j) : FRE E cnt := ⟨fun t ht => ⟨(h1 t ht).1.trans (h.1 t ht).1, (h1 t ht).2.trans (h.1 t ht).2⟩, fun j hj => ⟨(h2 j hj).1.trans (h.2 j hj).1, (h2 j hj).2.1.trans (h.2 j hj).2.1, (h2 j hj).2.2.trans (h.2 j hj).2.2⟩⟩
/-- all traces -/
def FOR (M S : Mem) (B : Nat → Nat) (cnt : Nat) : Prop := mI M 67 3 = nI cnt ∧ mI S 69 26 = nI cnt ∧ cnt ≤ 20 ∧ mI M 67 4 = mI S 69 25 ∧ (mI M 67 5 = mI S 69 35 ∧ LYR M ∧ FRE S cnt) ∧ (∀ t, t < cnt → B t + 11 ≤ nx M ∧ ∀ t2, t2 < t → B t2 + 11 ≤ B t) ∧ ∀ t, t < cnt → (∃ st gm fg, TRC M S B t st gm fg) ∧ isBo (mI S 89 t) ∧ (∃ r, r ≤ t ∧ mI S 93 t = nI r ∧ mI S 93 r = nI r ∧ mI S 89 r = mI S 89 t ∧ mI S 94 r = mI S 94 t) ∧ nn (mI S 94 t) 320
def rtP (S : Mem) (t : Nat) (j : Nat) : Prop := mI S 89 t = nI 1 ∧ mI S 93 t = nI t ∧ mI S 94 t = nI j
def HDR (M S : Mem) (cnt : Nat) : Prop := (∀ j, mI M 45 j = mI S 87 j ∧ mI M 46 j = mI S 88 j) ∧ ∀ j, j < 320 → (mI M 47 j = -nI 1 ∧ ∀ t, t < cnt → ¬ rtP S t j) ∨ ∃ t, t < cnt ∧ mI M 47 j = nI t ∧ rtP S t j ∧ ∀ t2, t2 < cnt → rtP S t2 j → t2 = t
def WHL (M S : Mem) : Prop := mI M 38 5 = mI S 69 23 ∧ mI M 38 6 = mI S 69 24 ∧ mI M 38 7 = mI S 69 58
end MO1
