/-! ===== setters: limits ===== -/
section MWA
theorem FOR_l {M N S E : Mem} {B : Nat → Nat} {cnt : Nat} (h : FOR M S B cnt) (h4 : mI N 67 4 = mI E 69 25) (hM : ∀ a j, ((a = 67 ∧ j ≠ 4) ∨ 128 < a) → mI N a j = mI M a j) (hR : ∀ a j, 38 < a → mR N a j = mR M a j) (hT : ∀ a, mT N a = mT M a) (hn : nx M ≤ nx N) (hS : ∀ a j, 88 < a → a < 105 → mI E a j = mI S a j) (h69 : ∀ j, j = 26 ∨ j = 35 → mI E 69 j = mI S 69 j) : FOR N E B cnt := by
  obtain ⟨a1, a2, a3, a4, ⟨a5, aY⟩, a6, a7⟩ := id h
  refine FOR_g h (hM 67 3 (by omega)) (h69 26 (by omega)) h4 ?_ hn (fun y => LYR_e y hn (fun j => hR 48 j (by omega)) hT) (fun y => FRE_e y (fun t9 h9 => ⟨hS 95 t9 (by omega) (by omega), hS 96 t9 (by omega) (by omega)⟩) (fun j h9 => ⟨hS 101 j (by omega) (by omega), hS 102 j (by omega) (by omega), hS 103 j (by omega) (by omega)⟩)) (fun t st gm fg ht hT2 => ?_) (fun t ht => ?_) (fun j => hS 93 j (by omega) (by omega)) (fun j => hS 94 j (by omega) (by omega))
  · rw [hM 67 5 (by omega), h69 35 (by omega)]; exact a5
  · have hb := hT2.1.2.2.1
    have e : ∀ i j, mI N (B t + i) j = mI M (B t + i) j := fun i j => hM _ j (by omega)
    refine TRC_g hT2 (TRO_e hT2.1 hR hT) (fun a j h1 h2 h3 => hM a j (by omega)) (fun j => ⟨hS 90 j (by omega) (by omega), hS 91 j (by omega) (by omega), hS 92 j (by omega) (by omega), hS 93 j (by omega) (by omega), hS 94 j (by omega) (by omega), hS 97 j (by omega) (by omega), hS 98 j (by omega) (by omega), hS 99 j (by omega) (by omega), hS 100 j (by omega) (by omega)⟩) ?_ (fun g hg => ?_)
    · have c := hT2.2.2.2.1
      have e0 : ∀ j, mI N (B t) j = mI M (B t) j := fun j => hM _ j (by omega)
      rw [e0, e0, e0, hS 89 _ (by omega) (by omega), hS 95 _ (by omega) (by omega), hS 96 _ (by omega) (by omega)]
      exact c.2.2
    · obtain ⟨-, -, -, -, g5, g6, g7, g8, -⟩ := hT2.2.2.2.2.2.1 g hg
      rw [e, e, e, e, hS 101 _ (by omega) (by omega), hS 102 _ (by omega) (by omega), hS 103 _ (by omega) (by omega), hS 104 _ (by omega) (by omega)]
      exact ⟨g5, g6, g7, g8⟩
  · rw [hS 89 t (by omega) (by omega)]
    exact ⟨(a7 t ht).2.1, fun r _ _ k => by rw [hS 89 r (by omega) (by omega)]; exact k⟩
def liM (M : Mem) (x1 x2 x3 : Int32) : Mem := sI (sI (sI M 38 5 x1) 38 6 x2) 67 4 x3
def liS (S : Mem) (x1 x2 x3 : Int32) : Mem := sI (sI (sI (sI S 69 0 (0 : Int32)) 69 23 x1) 69 24 x2) 69 25 x3
theorem inv_lim {M S : Mem} {cnt ns nc nf : Nat} {x1 x2 x3 : Int32} (hI : INV M S cnt ns nc nf) : INV (liM M x1 x2 x3) (liS S x1 x2 x3) cnt ns nc nf := by
  obtain ⟨B, H, G, F, b, fg, ob, g1, g2, g3, hF, hH, hL, hC, hCW, hI9, hRT, hnx, hO, h15, hfr⟩ := hI
  have hN : ∀ a j, (a ≠ 38 ∨ (j ≠ 5 ∧ j ≠ 6)) → (a ≠ 67 ∨ j ≠ 4) → mI (liM M x1 x2 x3) a j = mI M a j := fun a j u v => by unfold liM; rw [mI_ne (by omega), mI_ne (by omega), mI_ne (by omega)]
  have hE : ∀ a j, (a ≠ 69 ∨ (j ≠ 0 ∧ j ≠ 23 ∧ j ≠ 24 ∧ j ≠ 25)) → mI (liS S x1 x2 x3) a j = mI S a j := fun a j u => by unfold liS; rw [mI_ne (by omega), mI_ne (by omega), mI_ne (by omega), mI_ne (by omega)]
  have e5 : mI (liM M x1 x2 x3) 38 5 = mI (liS S x1 x2 x3) 69 23 := by unfold liM liS; rw [mI_ne (by omega), mI_ne (by omega), mI_eq, mI_ne (by omega), mI_ne (by omega), mI_eq]
  have e6 : mI (liM M x1 x2 x3) 38 6 = mI (liS S x1 x2 x3) 69 24 := by unfold liM liS; rw [mI_ne (by omega), mI_eq, mI_ne (by omega), mI_eq]
  have e4 : mI (liM M x1 x2 x3) 67 4 = mI (liS S x1 x2 x3) 69 25 := by unfold liM liS; rw [mI_eq, mI_eq]
  have n2 : (liM M x1 x2 x3).2 = M.2 := rfl
  have s2 : (liS S x1 x2 x3).2 = S.2 := rfl
  generalize liM M x1 x2 x3 = N at *
  generalize liS S x1 x2 x3 = E at *
  have nm : ∀ o, isO o → NM M N o := fun o ho => by
    have ho2 : o = 18 ∨ o = 28 := ho
    exact ⟨fun a j x => hN a j (by omega) (by omega), fun a j x => congrArg (fun z => z.2.1 a j) n2⟩
  have sm : SM S E := ⟨fun a j _ _ _ _ _ => hE a j (by omega), fun j => ⟨congrArg (fun z => z.2.1 107 j) s2, congrArg (fun z => z.2.1 115 j) s2⟩, fun j => congrArg (fun z => z.1 117 j) s2, congrArg (fun z => z.1 69 64) s2⟩
  have enx : nx N = nx M := congrArg (fun z => z.2.2.2.2.1) n2
  refine ⟨B, H, G, F, b, fg, ob, rz_sm (rz_nm (.inl rfl) g1 (nm 18 (.inl rfl))) sm, rz_sm (rz_nm (.inr rfl) g2 (nm 28 (.inr rfl))) sm, wz_sm g3 sm, FOR_l hF e4 (fun a j u => hN a j (by omega) (by omega)) (fun a j _ => congrArg (fun z => z.2.2.1 a j) n2) (fun a => congrArg (fun z => z.2.2.2.1 a) n2) (Nat.le_of_eq enx.symm) (fun a j u v => hE a j (by omega)) (fun j u => hE 69 j (by omega)), HDR_x hH (fun a j u v => hN a j (by omega) (by omega)) (fun a j u => hE a j (by omega)), ⟨e5, e6, ?_⟩, fun j => ?_, fun j hj => ?_, his_grw hI9 (fun a j y => hE a j (by omega)) (fun t _ y => (hE 89 t (by omega)).symm.trans y) g3.2.2.2.1 g3.2.2.2.2.1 (grw_sb g3.2.2.2.1.2.1 (fun a j u v y => hE a j (by omega))), ⟨(hN 48 10 (by omega) (by omega)).trans hRT.1, (hE 69 71 (by omega)).trans hRT.2⟩, by rw [enx]; exact hnx, ?_, (hN 1 5 (by omega) (by omega)).trans h15, fun f u v => ?_, fun p u v => ?_⟩
  · rw [hN 38 7 (by omega) (by omega), hE 69 58 (by omega)]; exact hL.2.2
  · rw [hN 40 j (by omega) (by omega), hN 41 j (by omega) (by omega), hN 42 j (by omega) (by omega), hN 43 j (by omega) (by omega), hE 83 j (by omega), hE 84 j (by omega), hE 85 j (by omega), hE 86 j (by omega)]; exact hC j
  · rw [hE 83 j (by omega)]; exact hCW j hj
  · unfold OUT at hO ⊢
    rw [hN 18 13 (by omega) (by omega), hN 18 14 (by omega) (by omega), hN 18 15 (by omega) (by omega), hE 69 62 (by omega), hE 69 65 (by omega), hE 69 66 (by omega)]; exact hO
  · rw [hE 71 f (by omega), hE 74 f (by omega)]; exact hfr.1 f u v
  · rw [hE 77 p (by omega)]; exact hfr.2 p u v
end MWA
