/-! ===== setters: a tree thrown away ===== -/
section MW8
theorem inv_throw {M S : Mem} {cnt ns nc nf r : Nat} (hI : INV M S cnt ns nc nf) (hr : r < cnt) (h89 : mI S 89 r = nI 1) (h93 : mI S 93 r = nI r) : ∃ N E, d_X1_throwTree (nI r) M = some ((), N) ∧ d_X12_throwAway (nI r) S = some ((), E) ∧ INV N E cnt ns nc nf ∧ MF M N ∧ SF S E ∧ (∀ a j, a ≠ 87 → a ≠ 89 → mI E a j = mI S a j) ∧ (∀ j, mI E 89 j = (if j < cnt ∧ mI S 93 j = nI r then nI 0 else mI S 89 j)) ∧ (∀ a j, a < 38 → mI N a j = mI M a j) ∧ rcF E cnt < rcF S cnt := by
  obtain ⟨B, H, G, F, b, fg, ob, g1, g2, g3, hF, hH, hL, hC, hCW, hI9, hRT, hnx, hO, h15, hfr⟩ := hI
  obtain ⟨-, -, -, ⟨h, h3, h94⟩⟩ := hF.2.2.2.2.2.2 r hr
  obtain ⟨N', E', t1, t2, t3, t4, t5, t6, t7, t8, t9, t10, t11, t12, t13⟩ := throw_both hF hH hr ⟨h89, h93, h94⟩ h3
  have hnx2 : nx N' = nx M := congrArg (fun z => z.2.1) t12.2
  have nm : ∀ o, isO o → NM M N' o := fun o ho => by
    have ho2 : o = 18 ∨ o = 28 := ho
    exact ⟨fun a j x => t5.1 a j (by omega), fun a j x => t5.2 a j (by omega)⟩
  have sm := sw_sm t6
  have h89' : ∀ t, mI E' 89 t = nI 1 → mI S 89 t = nI 1 := fun t y => by
    rw [t11] at y
    split at y
    · exact absurd y (by decide)
    · exact y
  refine ⟨N', E', t1, t2, ⟨B, H, G, F, b, fg, ob, rz_sm (rz_nm (.inl rfl) g1 (nm 18 (.inl rfl))) sm, rz_sm (rz_nm (.inr rfl) g2 (nm 28 (.inr rfl))) sm, wz_sm g3 sm, t3, t4, ⟨(t7 38 5 (by omega) (by omega)).trans (hL.1.trans (t10 69 23 (by omega) (by omega)).symm), (t7 38 6 (by omega) (by omega)).trans (hL.2.1.trans (t10 69 24 (by omega) (by omega)).symm), (t7 38 7 (by omega) (by omega)).trans (hL.2.2.trans (t10 69 58 (by omega) (by omega)).symm)⟩, fun j => ?_, fun j hj => ?_, his_grw hI9 (fun a j y => t10 a j (by omega) (by omega)) (fun t _ y => h89' t y) g3.2.2.2.1 g3.2.2.2.2.1 (sw_grw g3.2.2.2.1.2.1 t6), ⟨(t8 48 10 (by omega) (by omega)).trans hRT.1, (t10 69 71 (by omega) (by omega)).trans hRT.2⟩, by rw [hnx2]; exact hnx, ?_, (t5.1 1 5 (by omega)).trans h15, fun f u v => ?_, fun p u v => ?_⟩, t12, t13, t10, t11, t5.1, ?_⟩
  · rw [t7 40 j (by omega) (by omega), t7 41 j (by omega) (by omega), t7 42 j (by omega) (by omega), t7 43 j (by omega) (by omega), t10 83 j (by omega) (by omega), t10 84 j (by omega) (by omega), t10 85 j (by omega) (by omega), t10 86 j (by omega) (by omega)]; exact hC j
  · rw [t10 83 j (by omega) (by omega)]; exact hCW j hj
  · unfold OUT at hO ⊢
    rw [t5.1 18 13 (by omega), t5.1 18 14 (by omega), t5.1 18 15 (by omega), t10 69 62 (by omega) (by omega), t10 69 65 (by omega) (by omega), t10 69 66 (by omega) (by omega)]; exact hO
  · rw [t10 71 f (by omega) (by omega), t10 74 f (by omega) (by omega)]; exact hfr.1 f u v
  · rw [t10 77 p (by omega) (by omega)]; exact hfr.2 p u v
  · refine rcF_lt (fun t y => ⟨h89' t y.1, (t10 93 t (by omega) (by omega)).symm.trans y.2⟩) ⟨h89, h93⟩ ?_ cnt hr
    rw [t11, if_pos ⟨hr, h93⟩]
    decide
end MW8
