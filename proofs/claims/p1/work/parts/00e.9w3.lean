/-! ===== the first memory: what holds ===== -/
section MA3
def L0 : List (Nat × Nat × Nat × Int32) := [(74, 0, 8, (-1 : Int32)), (82, 0, 360, (-1 : Int32)), (77, 0, 30, (-1 : Int32)), (69, 68, 69, (-1 : Int32)), (69, 62, 63, (45 : Int32)), (69, 25, 26, (80 : Int32)), (69, 24, 25, (2 : Int32)), (69, 23, 24, (3 : Int32)), (1, 5, 6, (1 : Int32)), (38, 6, 7, (2 : Int32)), (38, 5, 6, (3 : Int32)), (67, 4, 5, (80 : Int32)), (56, 14, 15, (1 : Int32)), (56, 13, 14, (0 : Int32)), (56, 12, 13, (-1 : Int32)), (58, 0, 1, (0 : Int32)), (56, 1, 2, (0 : Int32)), (56, 0, 1, (0 : Int32)), (47, 0, 320, (-1 : Int32)), (28, 14, 15, (45 : Int32)), (28, 13, 14, (45 : Int32)), (18, 14, 15, (45 : Int32)), (18, 13, 14, (45 : Int32)), (10, 0, 30, (-1 : Int32)), (5, 0, 8, (-1 : Int32))]
theorem rs_get {α : Type} {l : List α} {i : Nat} {e d : α} (h : l[i]? = some e) : l.getD i d = e := by
  rw [List.getD_eq_getElem?_getD, h]; rfl
/-- both objects, and the two arrays of answers, are made: all is laid out -/
theorem st_lay {n : Nat} {s : Nat → Int32} {L : List (Nat × Nat × Nat × Int32)} {M : Mem} (h : STA n s 129 131 L M) : Lay M := by
  obtain ⟨h1, h2, h3, h5, h6, h7, h8⟩ := h
  refine ⟨fun i e hi => ?_, fun i e hi => ?_, ?_, by rw [h1]; exact Nat.le_refl _, h2⟩
  · have hl : i < nTab.length := by
      rcases Nat.lt_or_ge i nTab.length with q | q
      · exact q
      · rw [List.getElem?_eq_none q] at hi; cases hi
    have hl2 : i < 128 := hl
    rw [h5 (i + 1) (by omega)]
    unfold TT
    rw [if_neg (by omega), Nat.add_sub_cancel]
    exact rs_get hi
  · have hl : i < rTab.length := by
      rcases Nat.lt_or_ge i rTab.length with q | q
      · exact q
      · rw [List.getElem?_eq_none q] at hi; cases hi
    have hl2 : i < 120 := hl
    obtain ⟨p1, p2⟩ := pi_ok i hl2
    rw [p1] at hi
    have e2 := Option.some.inj hi
    rw [← e2]
    exact (h6 _ p2).1
  · unfold mK
    rw [h5 0 (by omega)]; rfl
theorem vr_0 : Vr (0 : Int32) (0 : Int32) (0 : UInt64) (0 : Int32) (0 : Int32) (0 : UInt64) := ⟨rfl, .inl ⟨by decide, rfl, rfl, rfl⟩⟩
theorem lr_0 : Lr (0 : Int32) (0 : Int32) (0 : UInt64) (0 : Int32) (0 : Int64) := ⟨0, 0, vr_0, by decide, .inr (.inr (.inr rfl)), by decide⟩
/-- between the calls, before the first -/
theorem st_inv {n : Nat} {s : Nat → Int32} {M : Mem} (h : STA n s 129 131 L0 M) : INV M M 0 0 0 0 := by
  have hL := st_lay h
  have hK : ∀ a, a < 129 → mK M a = (TT n a).1 := fun a ha => h.K ha rfl
  have hN : ∀ a, a < 129 → mN M a = (TT n a).2 := fun a ha => h.N ha
  obtain ⟨h1, h2, h3, h5, h6, h7, h8⟩ := h
  have z : ∀ a j, 0 < a → a < 129 → mI M a j = vzL L0 a j := fun a j x y => (h7 a j x y).1
  have zL : ∀ a j, 0 < a → a < 129 → mL M a j = 0 := fun a j x y => (h7 a j x y).2.1
  have zD : ∀ a j, 0 < a → a < 129 → mD M a j = 0 := fun a j x y => (h7 a j x y).2.2
  have z20 : ∀ j, mI M 20 j = 0 := fun j => (z 20 j (by decide) (by decide)).trans rfl
  have z21 : ∀ j, mI M 21 j = 0 := fun j => (z 21 j (by decide) (by decide)).trans rfl
  have z30 : ∀ j, mI M 30 j = 0 := fun j => (z 30 j (by decide) (by decide)).trans rfl
  have z31 : ∀ j, mI M 31 j = 0 := fun j => (z 31 j (by decide) (by decide)).trans rfl
  have z24 : ∀ j, mI M 24 j = 0 := fun j => (z 24 j (by decide) (by decide)).trans rfl
  have z25 : ∀ j, mI M 25 j = 0 := fun j => (z 25 j (by decide) (by decide)).trans rfl
  have z26 : ∀ j, mI M 26 j = 0 := fun j => (z 26 j (by decide) (by decide)).trans rfl
  have z27 : ∀ j, mI M 27 j = 0 := fun j => (z 27 j (by decide) (by decide)).trans rfl
  have z34 : ∀ j, mI M 34 j = 0 := fun j => (z 34 j (by decide) (by decide)).trans rfl
  have z35 : ∀ j, mI M 35 j = 0 := fun j => (z 35 j (by decide) (by decide)).trans rfl
  have z36 : ∀ j, mI M 36 j = 0 := fun j => (z 36 j (by decide) (by decide)).trans rfl
  have z37 : ∀ j, mI M 37 j = 0 := fun j => (z 37 j (by decide) (by decide)).trans rfl
  have z105 : ∀ j, mI M 105 j = 0 := fun j => (z 105 j (by decide) (by decide)).trans rfl
  have z106 : ∀ j, mI M 106 j = 0 := fun j => (z 106 j (by decide) (by decide)).trans rfl
  have z113 : ∀ j, mI M 113 j = 0 := fun j => (z 113 j (by decide) (by decide)).trans rfl
  have z114 : ∀ j, mI M 114 j = 0 := fun j => (z 114 j (by decide) (by decide)).trans rfl
  have z112 : ∀ j, mI M 112 j = 0 := fun j => (z 112 j (by decide) (by decide)).trans rfl
  have z116 : ∀ j, mI M 116 j = 0 := fun j => (z 116 j (by decide) (by decide)).trans rfl
  have z12 : ∀ j, mI M 12 j = 0 := fun j => (z 12 j (by decide) (by decide)).trans rfl
  have z13 : ∀ j, mI M 13 j = 0 := fun j => (z 13 j (by decide) (by decide)).trans rfl
  have z14 : ∀ j, mI M 14 j = 0 := fun j => (z 14 j (by decide) (by decide)).trans rfl
  have z15 : ∀ j, mI M 15 j = 0 := fun j => (z 15 j (by decide) (by decide)).trans rfl
  have z16 : ∀ j, mI M 16 j = 0 := fun j => (z 16 j (by decide) (by decide)).trans rfl
  have z17 : ∀ j, mI M 17 j = 0 := fun j => (z 17 j (by decide) (by decide)).trans rfl
  have z78 : ∀ j, mI M 78 j = 0 := fun j => (z 78 j (by decide) (by decide)).trans rfl
  have z79 : ∀ j, mI M 79 j = 0 := fun j => (z 79 j (by decide) (by decide)).trans rfl
  have z80 : ∀ j, mI M 80 j = 0 := fun j => (z 80 j (by decide) (by decide)).trans rfl
  have z81 : ∀ j, mI M 81 j = 0 := fun j => (z 81 j (by decide) (by decide)).trans rfl
  have z3 : ∀ j, mI M 3 j = 0 := fun j => (z 3 j (by decide) (by decide)).trans rfl
  have z4 : ∀ j, mI M 4 j = 0 := fun j => (z 4 j (by decide) (by decide)).trans rfl
  have z6 : ∀ j, mI M 6 j = 0 := fun j => (z 6 j (by decide) (by decide)).trans rfl
  have z7 : ∀ j, mI M 7 j = 0 := fun j => (z 7 j (by decide) (by decide)).trans rfl
  have z8 : ∀ j, mI M 8 j = 0 := fun j => (z 8 j (by decide) (by decide)).trans rfl
  have z9 : ∀ j, mI M 9 j = 0 := fun j => (z 9 j (by decide) (by decide)).trans rfl
  have z70 : ∀ j, mI M 70 j = 0 := fun j => (z 70 j (by decide) (by decide)).trans rfl
  have z71 : ∀ j, mI M 71 j = 0 := fun j => (z 71 j (by decide) (by decide)).trans rfl
  have z72 : ∀ j, mI M 72 j = 0 := fun j => (z 72 j (by decide) (by decide)).trans rfl
  have z73 : ∀ j, mI M 73 j = 0 := fun j => (z 73 j (by decide) (by decide)).trans rfl
  have z75 : ∀ j, mI M 75 j = 0 := fun j => (z 75 j (by decide) (by decide)).trans rfl
  have z76 : ∀ j, mI M 76 j = 0 := fun j => (z 76 j (by decide) (by decide)).trans rfl
  have z83 : ∀ j, mI M 83 j = 0 := fun j => (z 83 j (by decide) (by decide)).trans rfl
  have z84 : ∀ j, mI M 84 j = 0 := fun j => (z 84 j (by decide) (by decide)).trans rfl
  have z85 : ∀ j, mI M 85 j = 0 := fun j => (z 85 j (by decide) (by decide)).trans rfl
  have z86 : ∀ j, mI M 86 j = 0 := fun j => (z 86 j (by decide) (by decide)).trans rfl
  have z40 : ∀ j, mI M 40 j = 0 := fun j => (z 40 j (by decide) (by decide)).trans rfl
  have z41 : ∀ j, mI M 41 j = 0 := fun j => (z 41 j (by decide) (by decide)).trans rfl
  have z42 : ∀ j, mI M 42 j = 0 := fun j => (z 42 j (by decide) (by decide)).trans rfl
  have z43 : ∀ j, mI M 43 j = 0 := fun j => (z 43 j (by decide) (by decide)).trans rfl
  have z45 : ∀ j, mI M 45 j = 0 := fun j => (z 45 j (by decide) (by decide)).trans rfl
  have z46 : ∀ j, mI M 46 j = 0 := fun j => (z 46 j (by decide) (by decide)).trans rfl
  have z87 : ∀ j, mI M 87 j = 0 := fun j => (z 87 j (by decide) (by decide)).trans rfl
  have z88 : ∀ j, mI M 88 j = 0 := fun j => (z 88 j (by decide) (by decide)).trans rfl
  have z95 : ∀ j, mI M 95 j = 0 := fun j => (z 95 j (by decide) (by decide)).trans rfl
  have z96 : ∀ j, mI M 96 j = 0 := fun j => (z 96 j (by decide) (by decide)).trans rfl
  have z101 : ∀ j, mI M 101 j = 0 := fun j => (z 101 j (by decide) (by decide)).trans rfl
  have z102 : ∀ j, mI M 102 j = 0 := fun j => (z 102 j (by decide) (by decide)).trans rfl
  have z103 : ∀ j, mI M 103 j = 0 := fun j => (z 103 j (by decide) (by decide)).trans rfl
  have z5 : ∀ j, mI M 5 j = if 0 ≤ j ∧ j < 8 then (-1 : Int32) else 0 := fun j => (z 5 j (by decide) (by decide)).trans rfl
  have z74 : ∀ j, mI M 74 j = if 0 ≤ j ∧ j < 8 then (-1 : Int32) else 0 := fun j => (z 74 j (by decide) (by decide)).trans rfl
  have z10 : ∀ j, mI M 10 j = if 0 ≤ j ∧ j < 30 then (-1 : Int32) else 0 := fun j => (z 10 j (by decide) (by decide)).trans rfl
  have z77 : ∀ j, mI M 77 j = if 0 ≤ j ∧ j < 30 then (-1 : Int32) else 0 := fun j => (z 77 j (by decide) (by decide)).trans rfl
  have z82 : ∀ j, mI M 82 j = if 0 ≤ j ∧ j < 360 then (-1 : Int32) else 0 := fun j => (z 82 j (by decide) (by decide)).trans rfl
  have z47 : ∀ j, mI M 47 j = if 0 ≤ j ∧ j < 320 then (-1 : Int32) else 0 := fun j => (z 47 j (by decide) (by decide)).trans rfl
  have f18_10 : mI M 18 10 = (0 : Int32) := (z 18 10 (by decide) (by decide)).trans rfl
  have f18_11 : mI M 18 11 = (0 : Int32) := (z 18 11 (by decide) (by decide)).trans rfl
  have f18_12 : mI M 18 12 = (0 : Int32) := (z 18 12 (by decide) (by decide)).trans rfl
  have f18_13 : mI M 18 13 = (45 : Int32) := (z 18 13 (by decide) (by decide)).trans rfl
  have f28_10 : mI M 28 10 = (0 : Int32) := (z 28 10 (by decide) (by decide)).trans rfl
  have f28_11 : mI M 28 11 = (0 : Int32) := (z 28 11 (by decide) (by decide)).trans rfl
  have f28_12 : mI M 28 12 = (0 : Int32) := (z 28 12 (by decide) (by decide)).trans rfl
  have f69_1 : mI M 69 1 = (0 : Int32) := (z 69 1 (by decide) (by decide)).trans rfl
  have f69_8 : mI M 69 8 = (0 : Int32) := (z 69 8 (by decide) (by decide)).trans rfl
  have f69_12 : mI M 69 12 = (0 : Int32) := (z 69 12 (by decide) (by decide)).trans rfl
  have f69_23 : mI M 69 23 = (3 : Int32) := (z 69 23 (by decide) (by decide)).trans rfl
  have f69_24 : mI M 69 24 = (2 : Int32) := (z 69 24 (by decide) (by decide)).trans rfl
  have f69_25 : mI M 69 25 = (80 : Int32) := (z 69 25 (by decide) (by decide)).trans rfl
  have f69_26 : mI M 69 26 = (0 : Int32) := (z 69 26 (by decide) (by decide)).trans rfl
  have f69_35 : mI M 69 35 = (0 : Int32) := (z 69 35 (by decide) (by decide)).trans rfl
  have f69_52 : mI M 69 52 = (0 : Int32) := (z 69 52 (by decide) (by decide)).trans rfl
  have f69_57 : mI M 69 57 = (0 : Int32) := (z 69 57 (by decide) (by decide)).trans rfl
  have f69_58 : mI M 69 58 = (0 : Int32) := (z 69 58 (by decide) (by decide)).trans rfl
  have f69_59 : mI M 69 59 = (0 : Int32) := (z 69 59 (by decide) (by decide)).trans rfl
  have f69_62 : mI M 69 62 = (45 : Int32) := (z 69 62 (by decide) (by decide)).trans rfl
  have f69_63 : mI M 69 63 = (0 : Int32) := (z 69 63 (by decide) (by decide)).trans rfl
  have f69_71 : mI M 69 71 = (0 : Int32) := (z 69 71 (by decide) (by decide)).trans rfl
  have f67_3 : mI M 67 3 = (0 : Int32) := (z 67 3 (by decide) (by decide)).trans rfl
  have f67_4 : mI M 67 4 = (80 : Int32) := (z 67 4 (by decide) (by decide)).trans rfl
  have f67_5 : mI M 67 5 = (0 : Int32) := (z 67 5 (by decide) (by decide)).trans rfl
  have f38_5 : mI M 38 5 = (3 : Int32) := (z 38 5 (by decide) (by decide)).trans rfl
  have f38_6 : mI M 38 6 = (2 : Int32) := (z 38 6 (by decide) (by decide)).trans rfl
  have f38_7 : mI M 38 7 = (0 : Int32) := (z 38 7 (by decide) (by decide)).trans rfl
  have f48_10 : mI M 48 10 = (0 : Int32) := (z 48 10 (by decide) (by decide)).trans rfl
  have f2_8 : mI M 2 8 = (0 : Int32) := (z 2 8 (by decide) (by decide)).trans rfl
  have f2_9 : mI M 2 9 = (0 : Int32) := (z 2 9 (by decide) (by decide)).trans rfl
  have f11_6 : mI M 11 6 = (0 : Int32) := (z 11 6 (by decide) (by decide)).trans rfl
  have f1_5 : mI M 1 5 = (1 : Int32) := (z 1 5 (by decide) (by decide)).trans rfl
  have hPR : PR M M := by
    refine ⟨fun i => ⟨?_, ?_, ?_, ?_, ?_, ?_, ?_, ?_⟩, f2_8.trans f69_1.symm, f2_9.trans f69_8.symm⟩
    · rw [z3, z70]
    · rw [z4, z71]
    · rw [z5, z74]
    · rw [z6, z72]
    · rw [z7, z73]
    · rw [z8, z75]
    · rw [z9, z76]
    · rw [z10, z77]
  have hRS : RS M M 0 := ⟨f11_6, fun c _ => by rw [z17, z78], fun s hs => absurd hs (by omega)⟩
  have hWS : WS M 0 0 := ⟨f69_12, by omega, fun p _ hp => by rw [z82, if_pos (by omega)]; decide, fun c hc => absurd hc (by omega), fun s hs => absurd hs (by omega)⟩
  have hWP : WP M 0 0 := ⟨f69_1, by omega, f69_8, ⟨by omega, fun c hc => absurd hc (by omega)⟩, fun f hf => absurd hf (by omega), fun c n hc => absurd hc (by omega)⟩
  have rz : ∀ o, o = 18 ∨ o = 28 → RZ M M o 0 := fun o ho => by
    have i2 : ∀ j, mI M (o + 2) j = 0 := fun j => by rcases ho with rfl | rfl; exact z20 j; exact z30 j
    have i3 : ∀ j, mI M (o + 3) j = 0 := fun j => by rcases ho with rfl | rfl; exact z21 j; exact z31 j
    have i9 : ∀ j, mI M (o + 9) j = 0 := fun j => by rcases ho with rfl | rfl; exact z27 j; exact z37 j
    have d4 : ∀ j, mD M (o + 4) j = 0 := fun j => zD _ _ (by omega) (by omega)
    have ro : mI M o 10 = 0 ∧ mI M o 12 = 0 ∧ mI M o 11 = 0 := by rcases ho with rfl | rfl; exact ⟨f18_10, f18_12, f18_11⟩; exact ⟨f28_10, f28_12, f28_11⟩
    refine ⟨fun p _ => ?_, fun p _ => ?_, ⟨fun i _ => ?_, ?_⟩, ⟨?_, ?_, ?_, fun k _ => ?_⟩, hRS, hPR⟩
    · rw [i2, i3, d4, z105, z106, zD 107 _ (by decide) (by decide)]; exact vr_0
    · rw [i2, i3, d4, z113, z114, zD 115 _ (by decide) (by decide)]; exact vr_0
    · rw [i2, i3, d4, z116, zL 117 _ (by decide) (by decide)]; exact lr_0
    · rw [i2, i3, d4, f69_63, zL 69 64 (by decide) (by decide)]; exact lr_0
    · rw [ro.1, f69_52]
    · rw [ro.2.1, f69_57]
    · rw [ro.2.2, f69_59]
    · rw [i9, z112]
  have hFOR : FOR M M (fun _ => 0) 0 := by
    refine ⟨f67_3, f69_26, by omega, f67_4.trans f69_25.symm, ⟨f67_5.trans f69_35.symm, ⟨⟨(hK 48 (by decide)).trans rfl, by rw [h1]; exact Nat.le_refl _⟩, fun i hi => ?_, (hN 49 (by decide)).trans rfl, (hN 50 (by decide)).trans rfl, fun i i1 i2 => ?_⟩, ⟨fun t _ => ⟨z95 t, z96 t⟩, fun j _ => ⟨z101 j, z102 j, z103 j⟩⟩⟩, fun t ht => absurd ht (by omega), fun t ht => absurd ht (by omega)⟩
    · have hr := hL.2.1
      have : i = 0 ∨ i = 1 ∨ i = 2 ∨ i = 3 ∨ i = 4 ∨ i = 5 := by omega
      rcases this with rfl | rfl | rfl | rfl | rfl | rfl
      · exact ⟨hr 53 (48, 0, 49) rfl, (hK 49 (by decide)).trans rfl⟩
      · exact ⟨hr 54 (48, 1, 50) rfl, (hK 50 (by decide)).trans rfl⟩
      · exact ⟨hr 55 (48, 2, 51) rfl, (hK 51 (by decide)).trans rfl⟩
      · exact ⟨hr 56 (48, 3, 52) rfl, (hK 52 (by decide)).trans rfl⟩
      · exact ⟨hr 57 (48, 4, 53) rfl, (hK 53 (by decide)).trans rfl⟩
      · exact ⟨hr 58 (48, 5, 54) rfl, (hK 54 (by decide)).trans rfl⟩
    · have : i = 2 ∨ i = 3 ∨ i = 4 ∨ i = 5 := by omega
      rcases this with rfl | rfl | rfl | rfl
      · exact (hN 51 (by decide)).trans rfl
      · exact (hN 52 (by decide)).trans rfl
      · exact (hN 53 (by decide)).trans rfl
      · exact (hN 54 (by decide)).trans rfl
  refine ⟨fun _ => 0, fun _ _ => M, fun _ _ => M, fun _ _ => M, fun _ => 0, fun _ _ => 0, 0, rz 18 (.inl rfl), rz 28 (.inr rfl), ⟨⟨fun p _ => ?_, fun p _ => ?_⟩, ⟨f69_52, by omega, fun k hk => absurd hk (by omega)⟩, fun k n hk => absurd hk (by omega), hWS, hWP, ⟨⟨0, by omega, f69_57⟩, ⟨0, by omega, f69_59⟩⟩⟩, hFOR, ⟨fun j => ⟨by rw [z45, z87], by rw [z46, z88]⟩, fun j hj => .inl ⟨by rw [z47, if_pos (by omega)]; decide, fun t ht => absurd ht (by omega)⟩⟩, ⟨f38_5.trans f69_23.symm, f38_6.trans f69_24.symm, f38_7.trans f69_58.symm⟩, fun j => ⟨by rw [z40, z84], by rw [z41, z83], by rw [z42, z85], by rw [z43, z86]⟩, fun j _ => .inr ⟨0, by omega, z83 j⟩, ⟨fun t ht => absurd ht (by omega), fun r hr => absurd hr (by omega), fun t r st ht => absurd ht (by omega), fun t k g st ht => absurd ht (by omega)⟩, ⟨f48_10, f69_71⟩, by rw [h1]; decide, ⟨f18_13.trans f69_62.symm, .inl f69_62⟩, f1_5, ⟨fun f _ hf => ⟨z71 f, by rw [z74, if_pos (by omega)]; decide⟩, fun p _ hp => by rw [z77, if_pos (by omega)]; decide⟩⟩
  · rw [z105]; exact eq_true (by decide)
  · rw [z113]; exact eq_true (by decide)
/-- the law's first steps: the class's object, the reference's, and the two arrays -/
theorem st_start {n : Nat} {s : Nat → Int32} {M : Mem} (h : STA n s 1 0 [] M) : ∃ M2 M4, d_X11_init 1 (sN M 1 11 6) = some ((), M2) ∧ nx M2 = 69 ∧ d_X12_init 69 (sN M2 69 12 91) = some ((), M4) ∧ nx M4 = 127 ∧ STA n s 129 131 L0 (sN (sN M4 127 24 1) 128 25 1) := by
  have h1 := st_sN (t := 11) (m := 6) h rfl (fun _ => rfl) (by decide) (by decide)
  obtain ⟨M2, e2, h2⟩ := in_X11_1 h1
  have h3 := st_sN (t := 12) (m := 91) h2 rfl (fun _ => rfl) (by decide) (by decide)
  obtain ⟨M4, e4, h4⟩ := in_X12_69 h3
  have h5 := st_sN (t := 24) (m := 1) h4 rfl (fun _ => rfl) (by decide) (by decide)
  have h6 := st_sN (t := 25) (m := 1) h5 rfl (fun _ => rfl) (by decide) (by decide)
  exact ⟨M2, M4, e2, h2.1, e4, h4.1, h6⟩
/-- the law, from its first loop on: it answers 1 -/
theorem st_law {n : Nat} {s : Nat → Int32} {M : Mem} (hn : n ≤ 2048) (h : STA n s 129 131 L0 M) : ∃ E, d_L_law_28 fuel (0 : Int32) M = some (nI 1, E) ∧ uC E ≤ uC M + 740 ∧ uS E ≤ uS M + 25100 := law_ok hn ((h.N (a := 0) (by decide)).trans rfl) (st_inv h)
end MA3
