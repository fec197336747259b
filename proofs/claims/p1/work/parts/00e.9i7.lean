/-! ===== traces: what leaves them as they are, and counts ===== -/
section MO7
theorem FOR_x {M N S E : Mem} {B : Nat → Nat} {cnt : Nat} (h : FOR M S B cnt) (hM : ∀ a j, (a = 67 ∨ 128 < a) → mI N a j = mI M a j) (hR : ∀ a j, 38 < a → mR N a j = mR M a j) (hT : ∀ a, mT N a = mT M a) (hn : nx M ≤ nx N) (hS : ∀ a j, 88 < a → a < 105 → mI E a j = mI S a j) (h69 : ∀ j, j = 25 ∨ j = 26 ∨ j = 35 → mI E 69 j = mI S 69 j) : FOR N E B cnt := by
  obtain ⟨a1, a2, a3, a4, ⟨a5, aY⟩, a6, a7⟩ := id h
  refine FOR_g h (hM 67 3 (by omega)) (h69 26 (by omega)) ?_ ?_ hn (fun y => LYR_e y hn (fun j => hR 48 j (by omega)) hT) (fun y => FRE_e y (fun t9 h9 => ⟨hS 95 t9 (by omega) (by omega), hS 96 t9 (by omega) (by omega)⟩) (fun j h9 => ⟨hS 101 j (by omega) (by omega), hS 102 j (by omega) (by omega), hS 103 j (by omega) (by omega)⟩)) (fun t st gm fg ht hT2 => ?_) (fun t ht => ?_) (fun j => hS 93 j (by omega) (by omega)) (fun j => hS 94 j (by omega) (by omega))
  · rw [hM 67 4 (by omega), h69 25 (by omega)]; exact a4
  · rw [hM 67 5 (by omega), h69 35 (by omega)]; exact a5
  · have hb := hT2.1.2.2.1
    have e : ∀ i j, mI N (B t + i) j = mI M (B t + i) j := fun i j => hM _ j (by omega)
    refine TRC_g hT2 (TRO_e hT2.1 hR hT) (fun a j h1 h2 h3 => hM a j (by omega)) (fun j => ⟨hS 90 j (by omega) (by omega), hS 91 j (by omega) (by omega), hS 92 j (by omega) (by omega), hS 93 j (by omega) (by omega), hS 94 j (by omega) (by omega), hS 97 j (by omega) (by omega), hS 98 j (by omega) (by omega), hS 99 j (by omega) (by omega), hS 100 j (by omega) (by omega)⟩) ?_ (fun g hg => ?_)
    · have c := hT2.2.2.2.1
      have e0 : ∀ j, mI N (B t) j = mI M (B t) j := fun j => hM _ j (by omega)
      rw [e0, e0, e0, hS 89 _ (by omega) (by omega), hS 95 _ (by omega) (by omega), hS 96 _ (by omega) (by omega)]
      exact c.2.2
    · obtain ⟨-, -, -, -, g5, g6, g7, g8, -⟩ := hT2.2.2.2.2.2.1 g hg
      rw [e, e, e, e, hS 101 _ (by omega) (by omega), hS 102 _ (by omega) (by omega), hS 103 _ (by omega) (by omega), hS 104 _ (by omega) (by omega)]
      exact ⟨g5, g6, g7, g8⟩
  · rw [hS 89 t (by omega) (by omega)]
    exact ⟨(a7 t ht).2.1, fun r _ _ k => by rw [hS 89 r (by omega) (by omega)]; exact k⟩
theorem HDR_x {M N S E : Mem} {cnt : Nat} (h : HDR M S cnt) (hM : ∀ a j, 44 < a → a < 48 → mI N a j = mI M a j) (hS : ∀ a j, (a = 87 ∨ a = 88 ∨ a = 89 ∨ a = 93 ∨ a = 94) → mI E a j = mI S a j) : HDR N E cnt := by
  have er : ∀ t2 j, rtP E t2 j = rtP S t2 j := fun t2 j => by unfold rtP; rw [hS 89 _ (by omega), hS 93 _ (by omega), hS 94 _ (by omega)]
  refine ⟨fun j => ?_, fun j hj => ?_⟩
  · rw [hM 45 _ (by omega) (by omega), hM 46 _ (by omega) (by omega), hS 87 _ (by omega), hS 88 _ (by omega)]; exact h.1 j
  · have := h.2 j hj
    simp only [er, hM 47 j (by omega) (by omega)]
    exact this
/-- a count of an exit goes up -/
theorem bump {M S : Mem} {B fg : Nat → Nat} {cnt t st gm q i : Nat} (hF : FOR M S B cnt) (hH : HDR M S cnt) (ht : t < cnt) (hT : TRC M S B t st gm fg) (hq : q < gm) (hi : i = 7 ∨ i = 8) : mI M (B t + i) q = mI S (94 + i) (120 * t + q) ∧ FOR (sI M (B t + i) q (mI M (B t + i) q + nI 1)) (sI S (94 + i) (120 * t + q) (mI S (94 + i) (120 * t + q) + nI 1)) B cnt ∧ HDR (sI M (B t + i) q (mI M (B t + i) q + nI 1)) (sI S (94 + i) (120 * t + q) (mI S (94 + i) (120 * t + q) + nI 1)) cnt ∧ TRC (sI M (B t + i) q (mI M (B t + i) q + nI 1)) (sI S (94 + i) (120 * t + q) (mI S (94 + i) (120 * t + q) + nI 1)) B t st gm fg := by
  obtain ⟨a1, a2, a3, a4, ⟨a5, aY⟩, a6, a7⟩ := id hF
  have hb := hT.1.2.2.1
  have ec : mI M (B t + i) q = mI S (94 + i) (120 * t + q) := by
    obtain ⟨-, -, -, -, g5, g6, -⟩ := hT.2.2.2.2.2.1 q hq
    rcases hi with rfl | rfl
    · exact g5
    · exact g6
  have key : ∀ t2 st2 gm2 fg2, t2 < cnt → TRC M S B t2 st2 gm2 fg2 → TRC (sI M (B t + i) q (mI M (B t + i) q + nI 1)) (sI S (94 + i) (120 * t + q) (mI S (94 + i) (120 * t + q) + nI 1)) B t2 st2 gm2 fg2 := by
    intro t2 st2 gm2 fg2 ht2 hT2
    have hb2 := hT2.1.2.2.1
    have hg2 := hT2.2.2.1.2.2
    have hg1 := hT.2.2.1.2.2
    have hne : t2 ≠ t → B t2 + 11 ≤ B t ∨ B t + 11 ≤ B t2 := fun z => B_ne hF ht2 ht z
    have far : ∀ k, k < 7 → B t2 + k ≠ B t + i := fun k hk => by
      by_cases z : t2 = t
      · subst z; omega
      · have := hne z; omega
    refine TRC_g hT2 hT2.1 (fun a j h1 h2 h3 => ?_) (fun j => ⟨mI_ne (by omega), mI_ne (by omega), mI_ne (by omega), mI_ne (by omega), mI_ne (by omega), mI_ne (by omega), mI_ne (by omega), mI_ne (by omega), mI_ne (by omega)⟩) ?_ (fun g hg => ?_)
    · have := far (a - B t2) (by omega)
      exact mI_ne (by omega)
    · have := far 0 (by omega)
      have c := hT2.2.2.2.1
      rw [mI_ne (by omega), mI_ne (by omega), mI_ne (by omega), mI_ne (by omega), mI_ne (by omega), mI_ne (by omega)]
      exact c.2.2
    · obtain ⟨-, -, -, -, g5, g6, g7, g8, -⟩ := hT2.2.2.2.2.2.1 g hg
      by_cases z : t2 = t ∧ g = q
      · obtain ⟨rfl, rfl⟩ := z
        rcases hi with rfl | rfl
        · refine ⟨?_, ?_, ?_, ?_⟩
          · rw [mI_eq, mI_eq, g5]
          · rw [mI_ne (by omega), mI_ne (by omega)]; exact g6
          · rw [mI_ne (by omega), mI_ne (by omega)]; exact g7
          · rw [mI_ne (by omega), mI_ne (by omega)]; exact g8
        · refine ⟨?_, ?_, ?_, ?_⟩
          · rw [mI_ne (by omega), mI_ne (by omega)]; exact g5
          · rw [mI_eq, mI_eq, g6]
          · rw [mI_ne (by omega), mI_ne (by omega)]; exact g7
          · rw [mI_ne (by omega), mI_ne (by omega)]; exact g8
      · have n1 : ∀ k, B t2 + k ≠ B t + i ∨ g ≠ q ∨ 10 < k := fun k => by
          by_cases y : t2 = t
          · subst y; omega
          · have := hne y; omega
        have n2 : ∀ k, (94 + k ≠ 94 + i ∨ 120 * t2 + g ≠ 120 * t + q) := fun k => by
          by_cases y : t2 = t
          · subst y; omega
          · omega
        have e7 := n1 7
        have e8 := n1 8
        have e9 := n1 9
        have e10 := n1 10
        have f7 := n2 7
        have f8 := n2 8
        refine ⟨?_, ?_, ?_, ?_⟩
        · rw [mI_ne (by omega), mI_ne (by omega)]; exact g5
        · rw [mI_ne (by omega), mI_ne (by omega)]; exact g6
        · rw [mI_ne (by omega), mI_ne (by omega)]; exact g7
        · rw [mI_ne (by omega), mI_ne (by omega)]; exact g8
  refine ⟨ec, ?_, ?_, key t st gm fg ht hT⟩
  · refine FOR_g hF (mI_ne (by omega)) (mI_ne (by omega)) ?_ ?_ (Nat.le_refl _) (fun y => y) (fun y => FRE_e y (fun t9 h9 => ⟨mI_ne (by omega), mI_ne (by omega)⟩) (fun j h9 => by have hgm9 := hT.2.2.1.2.2; exact ⟨mI_ne (by omega), mI_ne (by omega), mI_ne (by omega)⟩)) key (fun t2 ht2 => ?_) (fun j => mI_ne (by omega)) (fun j => mI_ne (by omega))
    · rw [mI_ne (by omega), mI_ne (by omega)]; exact a4
    · rw [mI_ne (by omega), mI_ne (by omega)]; exact a5
    · rw [mI_ne (by omega)]
      exact ⟨(a7 t2 ht2).2.1, fun r _ _ k => by rw [mI_ne (by omega)]; exact k⟩
  · exact HDR_x hH (fun a j h1 h2 => mI_ne (by omega)) (fun a j h => mI_ne (by omega))
end MO7
