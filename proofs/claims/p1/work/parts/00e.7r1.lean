/-! ===== a step that changes one place and the frame on top ===== -/
section MR1
def EF (S E : Mem) (d q i h e : Nat) : Prop :=
  (∀ a j, (a ≠ 105 ∨ j ≠ q) ∧ (a ≠ 106 ∨ j ≠ q) ∧ a ≠ 108 ∧ (a ≠ 110 ∨ j ≠ d) ∧ (a ≠ 111 ∨ j ≠ d) ∧ (a < 123 ∨ 126 < a) ∧ (a ≠ 69 ∨ (j ≠ 57 ∧ j ≠ 83 ∧ j ≠ 88 ∧ j ≠ 89)) → mI E a j = mI S a j) ∧
  (∀ a j, (a ≠ 107 ∨ j ≠ q) ∧ (a ≠ 69 ∨ j ≠ 90) → mD E a j = mD S a j) ∧ (∀ a j, mL E a j = mL S a j) ∧ E.2.2.2 = S.2.2.2 ∧ mI E 110 d = nI i ∧ mI E 111 d = nI h ∧ mI E 69 57 = nI e
def NF (M N : Mem) (o d q i h e : Nat) : Prop :=
  (∀ a j, (a ≠ o + 2 ∨ j ≠ q) ∧ (a ≠ o + 3 ∨ j ≠ q) ∧ a ≠ o + 5 ∧ (a ≠ o + 7 ∨ j ≠ d) ∧ (a ≠ o + 8 ∨ j ≠ d) ∧ (a ≠ o ∨ j ≠ 12) → mI N a j = mI M a j) ∧
  (∀ a j, (a ≠ o + 4 ∨ j ≠ q) → mD N a j = mD M a j) ∧ (∀ a j, mL N a j = mL M a j) ∧ N.2.2.2 = M.2.2.2 ∧ mI N (o + 7) d = nI i ∧ mI N (o + 8) d = nI h ∧ mI N o 12 = nI e
theorem core_step {M N S E : Mem} {o d ns ob nc nf q h i1 h1 e1 : Nat} (ho : isO o) (hR : RC M S o d ns) (hW : WW S d ob ns nc nf) (hN : NF M N o d q i1 h1 e1) (hE : EF S E d q i1 h1 e1) (hq : q < 168) (hi : i1 < 41) (hh : mI S 111 d = nI h) (h8 : h ≤ 8) (h18 : h1 ≤ 8) (he : e1 < 1001)
    (hv : Vr (mI N (o + 2) q) (mI N (o + 3) q) (mD N (o + 4) q) (mI E 105 q) (mI E 106 q) (mD E 107 q)) (hk : kO ob (mI E 105 q) (mI E 106 q)) (hold : ∀ j, j < 6 + h1 → 14 * d + j ≠ q → j < 6 + h) (hch : isCh (mI E 105 q) = True) : RC N E o d ns ∧ WW E d ob ns nc nf := by
  obtain ⟨hRV, hRF, hRT, hRO, hRA, hRS, hPR⟩ := hR
  obtain ⟨hWA, hWV, hWC, hWO, hWF, hWS, hWP, hWE⟩ := hW
  obtain ⟨n1, n2, n3, n4, n5, n6, n7⟩ := hN
  obtain ⟨m1, m2, m3, m4, m5, m6, m7⟩ := hE
  have ho2 : o = 18 ∨ o = 28 := ho
  refine ⟨⟨?_, ?_, ?_, ?_, ?_, ?_, ?_⟩, ?_, ?_, ?_, ?_, ?_, ?_, ?_, ?_⟩
  · intro p hp
    by_cases e : p = q
    · subst e; exact hv
    · rw [n1 (o + 2) p (by omega), n1 (o + 3) p (by omega), n2 (o + 4) p (by omega), m1 105 p (by omega), m1 106 p (by omega), m2 107 p (by omega)]
      exact hRV p hp
  · intro p hp
    rw [n1 (o + 2) _ (by omega), n1 (o + 3) _ (by omega), n2 (o + 4) _ (by omega), m1 113 p (by omega), m1 114 p (by omega), m2 115 p (by omega)]
    exact hRF p hp
  · refine ⟨fun i hi => ?_, ?_⟩
    · rw [n1 (o + 2) _ (by omega), n1 (o + 3) _ (by omega), n2 (o + 4) _ (by omega), m1 116 i (by omega), m3]
      exact hRT.1 i hi
    · rw [n1 (o + 2) _ (by omega), n1 (o + 3) _ (by omega), n2 (o + 4) _ (by omega), m1 69 63 (by omega), m3]
      exact hRT.2
  · obtain ⟨r1, r2, r3, r4⟩ := hRO
    refine ⟨?_, n7.trans m7.symm, ?_, fun k hk => ?_⟩
    · rw [n1 o 10 (by omega), m1 69 52 (by omega)]; exact r1
    · rw [n1 o 11 (by omega), m1 69 59 (by omega)]; exact r3
    · rw [n1 (o + 9) k (by omega), m1 112 k (by omega)]; exact r4 k hk
  · obtain ⟨r1, r2⟩ := hRA
    refine ⟨?_, fun f hf => ?_⟩
    · rw [n1 o 9 (by omega)]; exact r1
    · obtain ⟨s1, s2, s3⟩ := r2 f hf
      refine ⟨?_, ?_, ?_⟩
      · rw [n1 (o + 6) f (by omega), m1 109 f (by omega)]; exact s1
      · by_cases e : f = d
        · subst e; exact n5.trans m5.symm
        · rw [n1 (o + 7) f (by omega), m1 110 f (by omega)]; exact s2
      · by_cases e : f = d
        · subst e; exact n6.trans m6.symm
        · rw [n1 (o + 8) f (by omega), m1 111 f (by omega)]; exact s3
  · exact RS_e hRS (fun a p _ _ => n1 a p (by omega)) (fun p => m1 78 p (by omega)) (fun p => m1 79 p (by omega)) (fun p => m1 80 p (by omega)) (fun p => m1 81 p (by omega)) (fun p => m1 82 p (by omega))
  · exact PR_e hPR (fun a p _ _ => n1 a p (by omega)) (m1 69 1 (by omega)) (m1 69 8 (by omega)) (fun a p _ _ => m1 a p (by omega))
  · exact WA_step hWA (m1 69 48 (by omega)) (fun f => m1 109 f (by omega)) m5 hi m6 (by omega) (fun f hf => m1 110 f (by omega)) (fun f hf => m1 111 f (by omega))
  · exact WV_step hWV hWA hh m6 h8 h18 (fun f hf => m1 111 f (by omega)) (fun p hp => ⟨m1 105 p (by omega), m1 106 p (by omega)⟩) hold hk
  · refine ⟨fun p hp => ?_, fun p hp => ?_⟩
    · by_cases e : p = q
      · subst e; exact hch
      · rw [m1 105 p (by omega)]; exact hWC.1 p hp
    · rw [m1 113 p (by omega)]; exact hWC.2 p hp
  · unfold WO at hWO ⊢
    refine ⟨(m1 69 52 (by omega)).trans hWO.1, hWO.2.1, fun k hk => ?_⟩
    rw [m1 112 k (by omega)]; exact hWO.2.2 k hk
  · exact WF_e hWF (fun p => m1 80 p (by omega)) (fun p => m1 81 p (by omega)) (fun p => m1 112 p (by omega)) (fun p => m1 113 p (by omega)) (fun p => m1 114 p (by omega))
  · exact WS_e hWS (m1 69 12 (by omega)) (fun p => m1 78 p (by omega)) (fun p => m1 79 p (by omega)) (fun p => m1 80 p (by omega)) (fun p => m1 81 p (by omega)) (fun p => m1 82 p (by omega))
  · exact WP_e hWP (m1 69 1 (by omega)) (m1 69 8 (by omega)) (fun a p _ _ => m1 a p (by omega))
  · exact WE_e hWE m7 he (m1 69 59 (by omega))
/-- what no step touches -/
def FS (S E : Mem) : Prop := (∀ a j, (a ≠ 69 ∨ (j ≠ 12 ∧ j ≠ 48 ∧ j ≠ 52 ∧ j ≠ 57 ∧ j ≠ 59 ∧ (j < 62 ∨ 67 < j) ∧ (j < 83 ∨ 90 < j))) ∧ (a < 78 ∨ (82 < a ∧ a < 105) ∨ (117 < a ∧ a < 123) ∨ 126 < a) → mI E a j = mI S a j) ∧ (∀ a j, 117 < a → mD E a j = mD S a j ∧ mL E a j = mL S a j) ∧ E.2.2.2 = S.2.2.2
def FM (M N : Mem) (o : Nat) : Prop := (∀ a j, (a < o ∨ o + 9 < a) ∧ (a < 11 ∨ 17 < a) → mI N a j = mI M a j) ∧ (∀ a j, (a < o ∨ o + 9 < a) → mD N a j = mD M a j ∧ mL N a j = mL M a j) ∧ N.2.2.2 = M.2.2.2
def ST (M S N E : Mem) (o : Nat) : Prop := FS S E ∧ FM M N o ∧ mI N o 13 = mI M o 13 ∧ mI E 69 67 = mI S 69 67 ∧ mI E 69 62 = mI S 69 62
theorem FS.trans {A B C : Mem} (h : FS A B) (k : FS B C) : FS A C := ⟨fun a j z => (k.1 a j z).trans (h.1 a j z), fun a j z => ⟨(k.2.1 a j z).1.trans (h.2.1 a j z).1, (k.2.1 a j z).2.trans (h.2.1 a j z).2⟩, k.2.2.trans h.2.2⟩
theorem FM.trans {A B C : Mem} {o : Nat} (h : FM A B o) (k : FM B C o) : FM A C o := ⟨fun a j z => (k.1 a j z).trans (h.1 a j z), fun a j z => ⟨(k.2.1 a j z).1.trans (h.2.1 a j z).1, (k.2.1 a j z).2.trans (h.2.1 a j z).2⟩, k.2.2.trans h.2.2⟩
theorem ST.trans {A B C X Y Z : Mem} {o : Nat} (h : ST A X B Y o) (k : ST B Y C Z o) : ST A X C Z o := ⟨h.1.trans k.1, h.2.1.trans k.2.1, k.2.2.1.trans h.2.2.1, k.2.2.2.1.trans h.2.2.2.1, k.2.2.2.2.trans h.2.2.2.2⟩
theorem st_of {M N S E : Mem} {o d q q1 i h e : Nat} (ho : isO o) (hN : NF M N o d q i h e) (hE : EF S E d q1 i h e) : ST M S N E o := by
  have ho2 : o = 18 ∨ o = 28 := ho
  obtain ⟨n1, n2, n3, n4, n5, n6, n7⟩ := hN
  obtain ⟨m1, m2, m3, m4, m5, m6, m7⟩ := hE
  exact ⟨⟨fun a j z => m1 a j (by omega), fun a j z => ⟨m2 a j (by omega), m3 a j⟩, m4⟩, ⟨fun a j z => n1 a j (by omega), fun a j z => ⟨n2 a j (by omega), n3 a j⟩, n4⟩, n1 o 13 (by omega), m1 69 67 (by omega), m1 69 62 (by omega)⟩
end MR1
