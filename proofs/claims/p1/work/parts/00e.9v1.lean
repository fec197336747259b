/-! ===== setters: the history held against elder cells ===== -/
section MV1
/-- the reference's memory with elder cells and methods -/
def KM (S : Mem) (u w : Nat → Int32) : Mem := (fun a j => if a = 75 then u j else if a = 77 then w j else mI S a j, S.2)
theorem km_n {S : Mem} {u w : Nat → Int32} {a j : Nat} (h : a ≠ 75 ∧ a ≠ 77) : mI (KM S u w) a j = mI S a j := by
  show (if a = 75 then u j else if a = 77 then w j else mI S a j) = _
  rw [if_neg h.1, if_neg h.2]
theorem km_75 {S : Mem} {u w : Nat → Int32} {j : Nat} : mI (KM S u w) 75 j = u j := by
  show (if 75 = 75 then u j else if 75 = 77 then w j else mI S 75 j) = _
  exact if_pos rfl
theorem km_77 {S : Mem} {u w : Nat → Int32} {j : Nat} : mI (KM S u w) 77 j = w j := by
  show (if 77 = 75 then u j else if 77 = 77 then w j else mI S 77 j) = _
  rw [if_neg (by decide)]
  exact if_pos rfl
theorem km_e {S E : Mem} {u w : Nat → Int32} {a j : Nat} (h : a ≠ 75 → a ≠ 77 → mI E a j = mI S a j) : mI (KM E u w) a j = mI (KM S u w) a j := by
  by_cases h1 : a = 75
  · subst h1; rw [km_75, km_75]
  · by_cases h2 : a = 77
    · subst h2; rw [km_77, km_77]
    · rw [km_n ⟨h1, h2⟩, km_n ⟨h1, h2⟩]; exact h h1 h2
theorem km_ws {S : Mem} {u w : Nat → Int32} {ns nc : Nat} (h : WS S ns nc) : WS (KM S u w) ns nc := WS_e h (km_n (by omega)) (fun _ => km_n (by omega)) (fun _ => km_n (by omega)) (fun _ => km_n (by omega)) (fun _ => km_n (by omega)) (fun _ => km_n (by omega))
def INV2 (u w : Nat → Int32) (M S : Mem) (cnt ns nc nf : Nat) : Prop := ∃ B H G F b fg ob, RZ M S 18 ns ∧ RZ M S 28 ns ∧ WZ S ob ns nc nf ∧ FOR M S B cnt ∧ HDR M S cnt ∧ WHL M S ∧ CAC M S ∧ CAW S ∧ HIS (KM S u w) cnt H G F b fg ∧ RTN M S ∧ nx M + 11 * (20 - cnt) ≤ 1000000 ∧ OUT M S 18 ∧ mI M 1 5 = nI 1 ∧ FRP S nf nc ∧ WP (KM S u w) nf nc
theorem inv2_throw {M S : Mem} {u w : Nat → Int32} {cnt ns nc nf r : Nat} (hI : INV2 u w M S cnt ns nc nf) (hr : r < cnt) (h89 : mI S 89 r = nI 1) (h93 : mI S 93 r = nI r) : ∃ N E, d_X1_throwTree (nI r) M = some ((), N) ∧ d_X12_throwAway (nI r) S = some ((), E) ∧ INV2 u w N E cnt ns nc nf ∧ MF M N ∧ SF S E ∧ (∀ a j, a ≠ 87 → a ≠ 89 → mI E a j = mI S a j) ∧ (∀ j, mI E 89 j = (if j < cnt ∧ mI S 93 j = nI r then nI 0 else mI S 89 j)) ∧ (∀ a j, a < 38 → mI N a j = mI M a j) := by
  obtain ⟨B, H, G, F, b, fg, ob, g1, g2, g3, hF, hH, hL, hC, hCW, hI9, hRT, hnx, hO, h15, hfr, hWP2⟩ := hI
  obtain ⟨-, -, -, ⟨h, h3, h94⟩⟩ := hF.2.2.2.2.2.2 r hr
  obtain ⟨N', E', t1, t2, t3, t4, t5, t6, t7, t8, t9, t10, t11, t12, t13⟩ := throw_both hF hH hr ⟨h89, h93, h94⟩ h3
  have hnx2 : nx N' = nx M := congrArg (fun z => z.2.1) t12.2
  have nm : ∀ o, isO o → NM M N' o := fun o ho => by
    have ho2 : o = 18 ∨ o = 28 := ho
    exact ⟨fun a j x => t5.1 a j (by omega), fun a j x => t5.2 a j (by omega)⟩
  have sm := sw_sm t6
  have h89' : ∀ t, mI E' 89 t = nI 1 → mI S 89 t = nI 1 := fun t y => by
    rw [t11] at y
    split at y
    · exact absurd y (by decide)
    · exact y
  have k10 : ∀ a j, a ≠ 87 → a ≠ 89 → mI (KM E' u w) a j = mI (KM S u w) a j := fun a j x y => km_e (fun _ _ => t10 a j x y)
  refine ⟨N', E', t1, t2, ⟨B, H, G, F, b, fg, ob, rz_sm (rz_nm (.inl rfl) g1 (nm 18 (.inl rfl))) sm, rz_sm (rz_nm (.inr rfl) g2 (nm 28 (.inr rfl))) sm, wz_sm g3 sm, t3, t4, ⟨(t7 38 5 (by omega) (by omega)).trans (hL.1.trans (t10 69 23 (by omega) (by omega)).symm), (t7 38 6 (by omega) (by omega)).trans (hL.2.1.trans (t10 69 24 (by omega) (by omega)).symm), (t7 38 7 (by omega) (by omega)).trans (hL.2.2.trans (t10 69 58 (by omega) (by omega)).symm)⟩, fun j => ?_, fun j hj => ?_, his_grw hI9 (fun a j y => k10 a j (by omega) (by omega)) (fun t _ y => (km_n (by omega)).trans (h89' t ((km_n (by omega)).symm.trans y))) (km_ws g3.2.2.2.1) hWP2 (grw_sb g3.2.2.2.1.2.1 (fun a j x y _ => k10 a j (by omega) (by omega))), ⟨(t8 48 10 (by omega) (by omega)).trans hRT.1, (t10 69 71 (by omega) (by omega)).trans hRT.2⟩, by rw [hnx2]; exact hnx, ?_, (t5.1 1 5 (by omega)).trans h15, ⟨fun f u v => ?_, fun p u v => ?_⟩, WP_e hWP2 (k10 69 1 (by omega) (by omega)) (k10 69 8 (by omega) (by omega)) (fun a q h1 h2 => k10 a q (by omega) (by omega))⟩, t12, t13, t10, t11, t5.1⟩
  · rw [t7 40 j (by omega) (by omega), t7 41 j (by omega) (by omega), t7 42 j (by omega) (by omega), t7 43 j (by omega) (by omega), t10 83 j (by omega) (by omega), t10 84 j (by omega) (by omega), t10 85 j (by omega) (by omega), t10 86 j (by omega) (by omega)]; exact hC j
  · rw [t10 83 j (by omega) (by omega)]; exact hCW j hj
  · unfold OUT at hO ⊢
    rw [t5.1 18 13 (by omega), t5.1 18 14 (by omega), t5.1 18 15 (by omega), t10 69 62 (by omega) (by omega), t10 69 65 (by omega) (by omega), t10 69 66 (by omega) (by omega)]; exact hO
  · rw [t10 71 f (by omega) (by omega), t10 74 f (by omega) (by omega)]; exact hfr.1 f u v
  · rw [t10 77 p (by omega) (by omega)]; exact hfr.2 p u v
theorem rz_g {M N S E : Mem} {o ns : Nat} (ho : isO o) (hR : RZ M S o ns) (n1 : ∀ a j, ((o ≤ a ∧ a < o + 10) ∨ (10 < a ∧ a < 18)) → mI N a j = mI M a j) (hN2 : N.2 = M.2) (hE : ∀ a j, ((77 < a ∧ a < 83) ∨ 104 < a ∨ (a = 69 ∧ j ≠ 0)) → mI E a j = mI S a j) (hE2 : E.2 = S.2) (hPR : PR N E) : RZ N E o ns := by
  have ho2 : o = 18 ∨ o = 28 := ho
  obtain ⟨hRV, hRF, hRT, hRO, hRS, -⟩ := hR
  have n2 : ∀ a j, mD N a j = mD M a j := fun a j => congrArg (fun z => z.2.1 a j) hN2
  have e2 : ∀ a j, mD E a j = mD S a j := fun a j => congrArg (fun z => z.2.1 a j) hE2
  have e3 : ∀ a j, mL E a j = mL S a j := fun a j => congrArg (fun z => z.1 a j) hE2
  refine ⟨fun p hp => ?_, fun p hp => ?_, ⟨fun i hi => ?_, ?_⟩, ?_, RS_e hRS (fun a p x y => n1 a p (by omega)) (fun p => hE 78 p (by omega)) (fun p => hE 79 p (by omega)) (fun p => hE 80 p (by omega)) (fun p => hE 81 p (by omega)) (fun p => hE 82 p (by omega)), hPR⟩
  · rw [n1 _ _ (by omega), n1 _ _ (by omega), n2, hE 105 _ (by omega), hE 106 _ (by omega), e2]; exact hRV p hp
  · rw [n1 _ _ (by omega), n1 _ _ (by omega), n2, hE 113 _ (by omega), hE 114 _ (by omega), e2]; exact hRF p hp
  · rw [n1 _ _ (by omega), n1 _ _ (by omega), n2, hE 116 _ (by omega), e3]; exact hRT.1 i hi
  · rw [n1 _ _ (by omega), n1 _ _ (by omega), n2, hE 69 63 (by omega), e3]; exact hRT.2
  · unfold RO at hRO ⊢
    rw [n1 o 10 (by omega), n1 o 12 (by omega), n1 o 11 (by omega), hE 69 52 (by omega), hE 69 57 (by omega), hE 69 59 (by omega)]
    exact ⟨hRO.1, hRO.2.1, hRO.2.2.1, fun k hk => by rw [n1 _ _ (by omega), hE 112 _ (by omega)]; exact hRO.2.2.2 k hk⟩
/-- cells, methods and caches of methods are written -/
theorem inv2_set {M N S E : Mem} {cnt ns nc nf : Nat} (h : INV M S cnt ns nc nf) (hN : ∀ a j, a ≠ 8 → a ≠ 10 → a ≠ 41 → mI N a j = mI M a j) (hN2 : N.2 = M.2) (hE : ∀ a j, a ≠ 75 → a ≠ 77 → a ≠ 83 → (a ≠ 69 ∨ j ≠ 0) → mI E a j = mI S a j) (hE2 : E.2 = S.2) (hPR : PR N E) (hWP : WP E nf nc) (hC : ∀ j, mI N 41 j = mI E 83 j) (hCW : CAW E) (hfr : FRP E nf nc) : INV2 (fun j => mI S 75 j) (fun j => mI S 77 j) N E cnt ns nc nf := by
  obtain ⟨B, H, G, F, b, fg, ob, h1, h2, h3, h4, h5, h6, h7, h8, h9, h10, h11, h12, h13, -⟩ := h
  obtain ⟨hWC, hWO, hWF, hWS0, hWP0, hWE⟩ := id h3
  have enx : nx N = nx M := congrArg (fun z => z.2.2.2.2.1) hN2
  have hWS : WS E ns nc := WS_e hWS0 (hE 69 12 (by omega) (by omega) (by omega) (by omega)) (fun p => hE 78 p (by omega) (by omega) (by omega) (by omega)) (fun p => hE 79 p (by omega) (by omega) (by omega) (by omega)) (fun p => hE 80 p (by omega) (by omega) (by omega) (by omega)) (fun p => hE 81 p (by omega) (by omega) (by omega) (by omega)) (fun p => hE 82 p (by omega) (by omega) (by omega) (by omega))
  have e : ∀ a j, 83 < a → mI E a j = mI S a j := fun a j x => hE a j (by omega) (by omega) (by omega) (by omega)
  have e69 : ∀ j, j ≠ 0 → mI E 69 j = mI S 69 j := fun j x => hE 69 j (by omega) (by omega) (by omega) (by omega)
  have k : ∀ a j, a ≠ 83 → (a ≠ 69 ∨ j ≠ 0) → mI (KM E (fun j => mI S 75 j) (fun j => mI S 77 j)) a j = mI S a j := fun a j x y => by
    by_cases c1 : a = 75
    · subst c1; exact km_75
    · by_cases c2 : a = 77
      · subst c2; exact km_77
      · rw [km_n ⟨c1, c2⟩]; exact hE a j c1 c2 x y
  refine ⟨B, H, G, F, b, fg, ob, rz_g (.inl rfl) h1 (fun a j x => hN a j (by omega) (by omega) (by omega)) hN2 (fun a j x => hE a j (by omega) (by omega) (by omega) (by omega)) hE2 hPR, rz_g (.inr rfl) h2 (fun a j x => hN a j (by omega) (by omega) (by omega)) hN2 (fun a j x => hE a j (by omega) (by omega) (by omega) (by omega)) hE2 hPR, ⟨⟨fun p hp => ?_, fun p hp => ?_⟩, ⟨(e69 52 (by omega)).trans hWO.1, hWO.2.1, fun k hk => ?_⟩, WF_e hWF (fun p => hE 80 p (by omega) (by omega) (by omega) (by omega)) (fun p => hE 81 p (by omega) (by omega) (by omega) (by omega)) (fun p => e 112 p (by omega)) (fun p => e 113 p (by omega)) (fun p => e 114 p (by omega)), hWS, hWP, ?_⟩, FOR_x h4 (fun a j x => hN a j (by omega) (by omega) (by omega)) (fun a j _ => congrArg (fun z => z.2.2.1 a j) hN2) (fun a => congrArg (fun z => z.2.2.2.1 a) hN2) (Nat.le_of_eq enx.symm) (fun a j x y => e a j (by omega)) (fun j x => e69 j (by omega)), HDR_x h5 (fun a j x y => hN a j (by omega) (by omega) (by omega)) (fun a j x => e a j (by omega)), ⟨?_, ?_, ?_⟩, fun j => ?_, hCW, his_grw h9 (fun a j x => k a j (by omega) (by omega)) (fun t _ x => (k 89 t (by omega) (by omega)).symm.trans x) hWS0 hWP0 (grw_sb hWS0.2.1 (fun a j x y z => k a j (by omega) (by omega))), ⟨(hN 48 10 (by omega) (by omega) (by omega)).trans h10.1, (e69 71 (by omega)).trans h10.2⟩, by rw [enx]; exact h11, ?_, (hN 1 5 (by omega) (by omega) (by omega)).trans h13, hfr, WP_e hWP0 (k 69 1 (by omega) (by omega)) (k 69 8 (by omega) (by omega)) (fun a q x y => k a q (by omega) (by omega))⟩
  · rw [e 105 _ (by omega)]; exact hWC.1 p hp
  · rw [e 113 _ (by omega)]; exact hWC.2 p hp
  · rw [e 112 _ (by omega)]; exact hWO.2.2 k hk
  · unfold WE at hWE ⊢
    rw [e69 57 (by omega), e69 59 (by omega)]; exact hWE
  · rw [hN 38 5 (by omega) (by omega) (by omega), e69 23 (by omega)]; exact h6.1
  · rw [hN 38 6 (by omega) (by omega) (by omega), e69 24 (by omega)]; exact h6.2.1
  · rw [hN 38 7 (by omega) (by omega) (by omega), e69 58 (by omega)]; exact h6.2.2
  · obtain ⟨c1, c2, c3, c4⟩ := h7 j
    rw [hN 40 j (by omega) (by omega) (by omega), hN 42 j (by omega) (by omega) (by omega), hN 43 j (by omega) (by omega) (by omega), e 84 j (by omega), e 85 j (by omega), e 86 j (by omega)]; exact ⟨c1, hC j, c3, c4⟩
  · unfold OUT at h12 ⊢
    rw [hN 18 13 (by omega) (by omega) (by omega), hN 18 14 (by omega) (by omega) (by omega), hN 18 15 (by omega) (by omega) (by omega), e69 62 (by omega), e69 65 (by omega), e69 66 (by omega)]; exact h12
/-! only the steps of traces that are there count -/
theorem HIS.mono2 {S S2 : Mem} {cnt : Nat} {H G F : Nat → Nat → Mem} {b : Nat → Nat} {fg : Nat → Nat → Nat} (h : HIS S cnt H G F b fg) (hA : ∀ a j, a = 89 ∨ a = 90 ∨ a = 92 ∨ a = 93 ∨ a = 94 ∨ a = 104 → mI S2 a j = mI S a j) (hst : ∀ t k st R G F, t < cnt → mI S 89 t = nI 1 → mI S 90 t = nI st → st ≤ 30 → k < st → HST S t (b t) k (fg t) R G F → HST S2 t (b t) k (fg t) R G F) : HIS S2 cnt H G F b fg := by
  obtain ⟨h1, h2, h3, h4⟩ := h
  have h89 : ∀ t, mI S2 89 t = nI 1 → mI S 89 t = nI 1 := fun t x => (hA 89 t (by omega)).symm.trans x
  refine ⟨fun t ht h8 => ?_, fun r hr h8 h9 => ?_, fun t r st ht h8 hr h9 h0 h00 => ?_, fun t k g st ht h8 h0 h00 hk g1 g2 => ?_⟩
  · obtain ⟨st, gm, n, ⟨a1, a2⟩, ⟨b1, b2⟩, h3, h4, h5⟩ := h1 t ht (h89 t h8)
    exact ⟨st, gm, n, ⟨(hA 90 t (by omega)).trans a1, a2⟩, ⟨(hA 92 t (by omega)).trans b1, b2⟩, h3, fun k hk => ⟨hst t k st _ _ _ ht (h89 t h8) a1 a2.2 hk (h4 k hk).1, (h4 k hk).2⟩, h5⟩
  · rw [hA 94 r (by omega)]
    exact h2 r hr (h89 r h8) ((hA 93 r (by omega)).symm.trans h9)
  · exact h3 t r st ht (h89 t h8) hr ((hA 93 t (by omega)).symm.trans h9) ((hA 90 t (by omega)).symm.trans h0) h00
  · rw [hA 104 _ (by omega), hA 93 t (by omega)]
    rcases h4 t k g st ht (h89 t h8) ((hA 90 t (by omega)).symm.trans h0) h00 hk g1 g2 with x | ⟨s, n, y1, y2, y3, y4, y5⟩
    · exact .inl x
    · exact .inr ⟨s, n, y1, y2, y3, by rw [hA 93 s (by omega)]; exact y4, y5⟩
/-- when no step that is left is touched, the elder cells are forgotten -/
theorem inv2_end {M S : Mem} {u w : Nat → Int32} {cnt ns nc nf : Nat} (h : INV2 u w M S cnt ns nc nf) (hk : ∀ t k st f i b2, t < cnt → mI S 89 t = nI 1 → mI S 90 t = nI st → st ≤ 30 → k < st → f < 8 → i < 40 → mI S 91 (30 * t + k) = nI (100 * f + i) → mI S 72 (40 * f + i) = nI 107 → mI S 73 (40 * f + i) = nI b2 → b2 < 8 → mI S 75 b2 = u b2) (hm : ∀ t k st f i b2 cl, t < cnt → mI S 89 t = nI 1 → mI S 90 t = nI st → st ≤ 30 → k < st → f < 8 → i < 40 → mI S 91 (30 * t + k) = nI (100 * f + i) → mI S 72 (40 * f + i) = nI 109 → mI S 73 (40 * f + i) = nI b2 → b2 < 6 → cl < nc → mOf S b2 7 (nI cl) = mOf (KM S u w) b2 7 (nI cl)) : INV M S cnt ns nc nf := by
  obtain ⟨B, H, G, F, b, fg, ob, h1, h2, h3, h4, h5, h6, h7, h8, h9, h10, h11, h12, h13, h14, h15⟩ := h
  have k : ∀ a j, a ≠ 75 ∧ a ≠ 77 → mI S a j = mI (KM S u w) a j := fun a j x => (km_n x).symm
  refine ⟨B, H, G, F, b, fg, ob, h1, h2, h3, h4, h5, h6, h7, h8, h9.mono2 (fun a j x => k a j (by omega)) (fun t i st R G F ht h8 h9 h0 hi x => ?_), h10, h11, h12, h13, h14⟩
  have h8' : mI S 89 t = nI 1 := (k 89 t (by omega)).trans h8
  have h9' : mI S 90 t = nI st := (k 90 t (by omega)).trans h9
  refine hs_mono x (k 91 _ (by omega)) (fun g _ _ => ⟨k 97 _ (by omega), k 98 _ (by omega), k 99 _ (by omega), k 100 _ (by omega)⟩) (km_ws h3.2.2.2.1).1 h3.2.2.2.1.1 h15.2.2.1 h3.2.2.2.2.1.2.2.1 h15.1 h3.2.2.2.2.1.1 (Nat.le_refl _) h3.2.2.2.1.2.1 (Nat.le_refl _) h15.2.2.2.1.1 (Nat.le_refl _) h15.2.1 (tx_e (fun c _ => k 78 c (by omega)) (fun g _ => k 70 g (by omega)) (fun a j y z => k a j (by omega))) (h71_e (fun a j y z => k a j (by omega))) (fun f j b2 hf hj hl q1 q2 q3 => ?_) (fun f j b2 cl hf hj hl q1 q2 q3 q4 => ?_)
  · rw [km_75]
    exact hk t i st f j b2 ht h8' h9' h0 hi hf hj ((k 91 _ (by omega)).trans hl) ((k 72 _ (by omega)).trans q1) ((k 73 _ (by omega)).trans q2) q3
  · exact hm t i st f j b2 cl ht h8' h9' h0 hi hf hj ((k 91 _ (by omega)).trans hl) ((k 72 _ (by omega)).trans q1) ((k 73 _ (by omega)).trans q2) q3 q4
end MV1
