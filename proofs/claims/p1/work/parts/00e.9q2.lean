/-! ===== between the calls ===== -/
section MY2
/-- how the last run ended -/
def OUT (M S : Mem) (o : Nat) : Prop := mI M o 13 = mI S 69 62 ∧ (mI S 69 62 = nI 45 ∨ mI S 69 62 = nI 118 ∨ (mI S 69 62 = nI 120 ∧ mI M o 14 = mI S 69 65 ∧ mI M o 15 = mI S 69 66 ∧ isCh (mI S 69 65) = True))
/-- functions and classes that are not there yet -/
def FRP (S : Mem) (nf nc : Nat) : Prop := (∀ f, nf ≤ f → f < 8 → mI S 71 f = nI 0 ∧ mI S 74 f = -nI 1) ∧ ∀ p, 6 * nc ≤ p → p < 30 → mI S 77 p = -nI 1
/-- between two calls: the class's memory M, the reference's S -/
def INV (M S : Mem) (cnt ns nc nf : Nat) : Prop := ∃ B H G F b fg ob, RZ M S 18 ns ∧ RZ M S 28 ns ∧ WZ S ob ns nc nf ∧ FOR M S B cnt ∧ HDR M S cnt ∧ WHL M S ∧ CAC M S ∧ CAW S ∧ HIS S cnt H G F b fg ∧ RTN M S ∧ nx M + 11 * (20 - cnt) ≤ 1000000 ∧ OUT M S 18 ∧ mI M 1 5 = nI 1 ∧ FRP S nf nc
/-- the class's cells are the same -/
def EC (M N : Mem) : Prop := (∀ a j, (a < 69 ∨ 128 < a) → mI N a j = mI M a j ∧ mD N a j = mD M a j ∧ mL N a j = mL M a j) ∧ N.2.2.2.1 = M.2.2.2.1 ∧ N.2.2.2.2.1 = M.2.2.2.2.1 ∧ nx N = nx M
/-- the reference's cells are the same, but for what it has thrown -/
def ER (S E : Mem) : Prop := ∀ a j, 68 < a → a < 127 → (a ≠ 69 ∨ j ≠ 0) → mI E a j = mI S a j ∧ mD E a j = mD S a j ∧ mL E a j = mL S a j
theorem ER.symm {S E : Mem} (h : ER S E) : ER E S := fun a j x y u => ⟨(h a j x y u).1.symm, (h a j x y u).2.1.symm, (h a j x y u).2.2.symm⟩
theorem er_sm {S E : Mem} (h : ER S E) : SM S E := ⟨fun a j x y z u v => (h a j x (by omega) (by omega)).1, fun j => ⟨(h 107 j (by omega) (by omega) (by omega)).2.1, (h 115 j (by omega) (by omega) (by omega)).2.1⟩, fun j => (h 117 j (by omega) (by omega) (by omega)).2.2, (h 69 64 (by omega) (by omega) (by omega)).2.2⟩
theorem wz_sm {S E : Mem} {ob ns nc nf : Nat} (hW : WZ S ob ns nc nf) (hB : SM S E) : WZ E ob ns nc nf := by
  obtain ⟨b1, b2, b3⟩ := hB
  obtain ⟨hWC, hWO, hWF, hWS, hWP, hWE⟩ := hW
  have e : ∀ a j, a ≠ 69 → 68 < a → (a < 83 ∨ 104 < a) → a ≠ 108 → a < 118 → mI E a j = mI S a j := fun a j h1 h0 h2 h3 h4 => b1 a j h0 h2 h3 h4 (by omega)
  have b : ∀ j, j = 48 ∨ j = 52 ∨ j = 12 ∨ j = 1 ∨ j = 8 ∨ j = 57 ∨ j = 59 → mI E 69 j = mI S 69 j := fun j h => b1 69 j (by omega) (by omega) (by omega) (by omega) (by omega)
  refine ⟨⟨fun p hp => ?_, fun p hp => ?_⟩, ⟨(b 52 (by omega)).trans hWO.1, hWO.2.1, fun k hk => ?_⟩, ?_, ?_, ?_, ?_⟩
  · rw [e 105 _ (by omega) (by omega) (by omega) (by omega) (by omega)]; exact hWC.1 p hp
  · rw [e 113 _ (by omega) (by omega) (by omega) (by omega) (by omega)]; exact hWC.2 p hp
  · rw [e 112 _ (by omega) (by omega) (by omega) (by omega) (by omega)]; exact hWO.2.2 k hk
  · exact WF_e hWF (fun p => e 80 p (by omega) (by omega) (by omega) (by omega) (by omega)) (fun p => e 81 p (by omega) (by omega) (by omega) (by omega) (by omega)) (fun p => e 112 p (by omega) (by omega) (by omega) (by omega) (by omega)) (fun p => e 113 p (by omega) (by omega) (by omega) (by omega) (by omega)) (fun p => e 114 p (by omega) (by omega) (by omega) (by omega) (by omega))
  · exact WS_e hWS (b 12 (by omega)) (fun p => e 78 p (by omega) (by omega) (by omega) (by omega) (by omega)) (fun p => e 79 p (by omega) (by omega) (by omega) (by omega) (by omega)) (fun p => e 80 p (by omega) (by omega) (by omega) (by omega) (by omega)) (fun p => e 81 p (by omega) (by omega) (by omega) (by omega) (by omega)) (fun p => e 82 p (by omega) (by omega) (by omega) (by omega) (by omega))
  · exact WP_e hWP (b 1 (by omega)) (b 8 (by omega)) (fun a p h1 h2 => e a p (by omega) (by omega) (by omega) (by omega) (by omega))
  · unfold WE at hWE ⊢
    rw [b 57 (by omega), b 59 (by omega)]
    exact hWE
theorem inv_S {M S E : Mem} {cnt ns nc nf : Nat} (h : INV M S cnt ns nc nf) (k : ER S E) : INV M E cnt ns nc nf := by
  obtain ⟨B, H, G, F, b, fg, ob, h1, h2, h3, h4, h5, h6, h7, h8, h9, h10, h11, h12, h13⟩ := h
  have e : ∀ a j, 68 < a → a < 127 → (a ≠ 69 ∨ j ≠ 0) → mI E a j = mI S a j := fun a j x y u => (k a j x y u).1
  refine ⟨B, H, G, F, b, fg, ob, rz_sm h1 (er_sm k), rz_sm h2 (er_sm k), wz_sm h3 (er_sm k), FOR_x h4 (fun _ _ _ => rfl) (fun _ _ _ => rfl) (fun _ => rfl) (Nat.le_refl _) (fun a j x y => e a j (by omega) (by omega) (by omega)) (fun j _ => e 69 j (by omega) (by omega) (by omega)), HDR_x h5 (fun _ _ _ _ => rfl) (fun a j x => e a j (by omega) (by omega) (by omega)), ⟨?_, ?_, ?_⟩, fun j => ?_, fun j hj => ?_, his_grw h9 (fun a j x => e a j (by omega) (by omega) (by omega)) (fun t _ x => (e 89 t (by omega) (by omega) (by omega)).symm.trans x) h3.2.2.2.1 h3.2.2.2.2.1 (grw_sb h3.2.2.2.1.2.1 (fun a j x y u => e a j x (by omega) (by omega))), ⟨h10.1, (e 69 71 (by omega) (by omega) (by omega)).trans h10.2⟩, h11, ?_, h13.1, fun f u v => ?_, fun p u v => ?_⟩
  · rw [e 69 23 (by omega) (by omega) (by omega)]; exact h6.1
  · rw [e 69 24 (by omega) (by omega) (by omega)]; exact h6.2.1
  · rw [e 69 58 (by omega) (by omega) (by omega)]; exact h6.2.2
  · rw [e 83 j (by omega) (by omega) (by omega), e 84 j (by omega) (by omega) (by omega), e 85 j (by omega) (by omega) (by omega), e 86 j (by omega) (by omega) (by omega)]; exact h7 j
  · rw [e 83 j (by omega) (by omega) (by omega)]; exact h8 j hj
  · unfold OUT at h12 ⊢
    rw [e 69 62 (by omega) (by omega) (by omega), e 69 65 (by omega) (by omega) (by omega), e 69 66 (by omega) (by omega) (by omega)]; exact h12
  · rw [e 71 f (by omega) (by omega) (by omega), e 74 f (by omega) (by omega) (by omega)]; exact h13.2.1 f u v
  · rw [e 77 p (by omega) (by omega) (by omega)]; exact h13.2.2 p u v
theorem inv_M {M N S : Mem} {cnt ns nc nf : Nat} (h : INV M S cnt ns nc nf) (k : EC M N) : INV N S cnt ns nc nf := by
  obtain ⟨B, H, G, F, b, fg, ob, h1, h2, h3, h4, h5, h6, h7, h8, h9, h10, h11, h12, h13⟩ := h
  obtain ⟨k1, k2, k3, enx⟩ := k
  have e : ∀ a j, (a < 69 ∨ 128 < a) → mI N a j = mI M a j := fun a j x => (k1 a j x).1
  have nm : ∀ o, isO o → NM M N o := fun o ho => ⟨fun a j x => e a j (by have ho2 : o = 18 ∨ o = 28 := ho; omega), fun a j x => (k1 a j (by have ho2 : o = 18 ∨ o = 28 := ho; omega)).2.1⟩
  refine ⟨B, H, G, F, b, fg, ob, rz_nm (.inl rfl) h1 (nm 18 (.inl rfl)), rz_nm (.inr rfl) h2 (nm 28 (.inr rfl)), h3, FOR_x h4 (fun a j x => e a j (by omega)) (fun a j _ => congrArg (fun z => z a j) k2) (fun a => congrArg (fun z => z a) k3) (Nat.le_of_eq enx.symm) (fun _ _ _ _ => rfl) (fun _ _ => rfl), HDR_x h5 (fun a j x y => e a j (by omega)) (fun _ _ _ => rfl), ⟨(e 38 5 (by omega)).trans h6.1, (e 38 6 (by omega)).trans h6.2.1, (e 38 7 (by omega)).trans h6.2.2⟩, fun j => ?_, h8, h9, ⟨(e 48 10 (by omega)).trans h10.1, h10.2⟩, by rw [enx]; exact h11, ?_, (e 1 5 (by omega)).trans h13.1, h13.2⟩
  · rw [e 40 j (by omega), e 41 j (by omega), e 42 j (by omega), e 43 j (by omega)]; exact h7 j
  · unfold OUT at h12 ⊢
    rw [e 18 13 (by omega), e 18 14 (by omega), e 18 15 (by omega)]; exact h12
/-- the plain run's new followers are taken back -/
theorem tb_l {Q : Mem} {ns : Nat} (hns : ns ≤ 60) : ∀ (j i NC : Nat) (X : Mem), 6 * ns = i + j → j < NC → (∀ q, q < i → mI X 16 q = if mI Q 16 q < nI ns then mI Q 16 q else -nI 1) → (∀ q, i ≤ q → mI X 16 q = mI Q 16 q) → (∀ a q, a ≠ 16 → mI X a q = mI Q a q) → X.2 = Q.2 → ∃ T, d_X7_takeBack_2 (nI ns) NC (nI i) X = some ((), T) ∧ (∀ q, q < 6 * ns → mI T 16 q = if mI Q 16 q < nI ns then mI Q 16 q else -nI 1) ∧ (∀ q, 6 * ns ≤ q → mI T 16 q = mI Q 16 q) ∧ (∀ a q, a ≠ 16 → (a ≠ 11 ∨ q ≠ 6) → mI T a q = mI Q a q) ∧ mI T 11 6 = nI ns ∧ T.2 = Q.2 := by
  intro j
  induction j with
  | zero =>
    intro i NC X hi hN h1 h2 h3 h4
    obtain ⟨m, rfl⟩ : ∃ m, NC = m + 1 := ⟨NC - 1, by omega⟩
    refine ⟨sI X 11 6 (nI ns), ?_, fun q hq => ?_, fun q hq => ?_, fun a q x y => ?_, mI_eq _ _ _ _, h4⟩
    · rw [st_X7_takeBack_2]
      unfold d_X7_takeBack_2b
      have c : nI ns * (6 : Int32) ≤ nI i := by rw [l_6, qmul]; exact of_eq_true (qleT (by omega) (by omega))
      rw [if_pos c]
      rfl
    · rw [mI_ne (by omega)]; exact h1 q (by omega)
    · rw [mI_ne (by omega)]; exact h2 q (by omega)
    · rw [mI_ne (by omega)]; exact h3 a q x
  | succ j ih =>
    intro i NC X hi hN h1 h2 h3 h4
    obtain ⟨m, rfl⟩ : ∃ m, NC = m + 1 := ⟨NC - 1, by omega⟩
    have hc : ¬ nI ns * (6 : Int32) ≤ nI i := by rw [l_6, qmul]; exact of_eq_false (qleF (by omega) (by omega))
    rw [st_X7_takeBack_2]
    unfold d_X7_takeBack_2b
    rw [if_neg hc]
    have hv : vp_in (nI i) 360 := of_eq_true (qinT (by omega) (by omega))
    have hcl : (nI i).toNatClampNeg = i := qcl (by omega)
    have ea : nI i + (1 : Int32) = nI (i + 1) := by rw [l_1, qadd]
    rw [okk_pos hv, hcl, h2 i (by omega)]
    by_cases cc : mI Q 16 i < nI ns
    · rw [if_pos cc]
      unfold d_X7_takeBack_27
      rw [bnd_eq, ea]
      exact ih (i + 1) m X (by omega) (by omega) (fun q hq => by
        by_cases e : q = i
        · subst e; rw [if_pos cc]; exact h2 q (by omega)
        · exact h1 q (by omega)) (fun q hq => h2 q (by omega)) h3 h4
    · rw [if_neg cc, okk_pos hv, bnd_eq]
      unfold d_X7_takeBack_27
      rw [bnd_eq, ea]
      exact ih (i + 1) m (sI X 16 i (-nI 1)) (by omega) (by omega) (fun q hq => by
        by_cases e : q = i
        · subst e; rw [if_neg cc]; exact mI_eq _ _ _ _
        · rw [mI_ne (by omega)]; exact h1 q (by omega)) (fun q hq => (mI_ne (by omega)).trans (h2 q (by omega))) (fun a q x => (mI_ne (by omega)).trans (h3 a q x)) h4
end MY2
