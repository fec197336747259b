/-! ===== setters: trees with a step that is asked for are thrown ===== -/
section MV3
theorem inv2_f {u w : Nat → Int32} {M S : Mem} {cnt ns nc nf : Nat} (h : INV2 u w M S cnt ns nc nf) : (∃ B, FOR M S B cnt) ∧ PR M S := by
  obtain ⟨B, H, G, F, b, fg, ob, h1, -, -, h4, -⟩ := h
  exact ⟨⟨B, h4⟩, h1.2.2.2.2.2⟩
/-- the lines of a trace that is there -/
theorem inv2_ln {u w : Nat → Int32} {M S : Mem} {cnt ns nc nf t st : Nat} (h : INV2 u w M S cnt ns nc nf) (ht : t < cnt) (h89 : mI S 89 t = nI 1) (h90 : mI S 90 t = nI st) (hst : st ≤ 30) : ∀ k, k < st → ∃ f i, f < 8 ∧ i < 40 ∧ mI S 91 (30 * t + k) = nI (100 * f + i) := by
  obtain ⟨B, H, G, F, b, fg, ob, -, -, -, -, -, -, -, -, h9, -⟩ := h
  obtain ⟨st2, gm, n, ⟨a1, a2⟩, -, -, h4, -⟩ := h9.1 t ht ((km_n (by omega)).trans h89)
  obtain rfl : st = st2 := qinj (by omega) (by omega) (h90.symm.trans ((km_n (by omega)).symm.trans a1))
  intro k hk
  obtain ⟨n2, ob2, ns2, nc2, nf2, f, i, e, m, h0, c, v, obF, nsF, dF, mS, nfS, nsS, ncS, a, ⟨-, p1⟩, ⟨A2, -⟩, -⟩ := (h4 k hk).1
  obtain ⟨-, x1, x2, x3, x4, -⟩ := A2
  exact ⟨f, i, x2, x4, (km_n (by omega)).symm.trans p1⟩
theorem tw_both {u w : Nat → Int32} {cnt ns nc nf c : Nat} {x x2 x3 : Int32} (hc : c < 1000) (hR : (c = 109 ∧ x2 = -1) ∨ (c ≠ 109 ∧ ¬ x2 = (-1 : Int32) ∧ x2 = x)) (hC : c = 109 ∨ (c ≠ 109 ∧ x3 = x)) : ∀ (j t N1 N2 : Nat) (M S : Mem) (n : Int32), cnt = t + j → j < N1 → j < N2 → INV2 u w M S cnt ns nc nf → (∀ q st, q < t → mI S 89 q = nI 1 → mI S 90 q = nI st → st ≤ 30 → ¬ hsQ S q c x st) → ∃ N E v, d_X1_throwThoseWith_5 (nI c) x3 N1 (n, nI t) M = some (v, N) ∧ d_X12_throwsWith_5 (nI c) x2 N2 (n, nI t) S = some (v, E) ∧ INV2 u w N E cnt ns nc nf ∧ MF M N ∧ SF S E ∧ (∀ a j, a ≠ 87 → a ≠ 89 → mI E a j = mI S a j) ∧ ∀ q st, q < cnt → mI E 89 q = nI 1 → mI E 90 q = nI st → st ≤ 30 → ¬ hsQ E q c x st := by
  intro j
  induction j with
  | zero =>
    intro t N1 N2 M S n hk h1 h2 hI hno
    obtain ⟨m1, rfl, -⟩ := ex_pred h1
    obtain ⟨m2, rfl, -⟩ := ex_pred h2
    obtain rfl : cnt = t := by omega
    obtain ⟨⟨B, hF⟩, -⟩ := inv2_f hI
    have hct := hF.2.2.1
    refine ⟨M, S, n, ?_, ?_, hI, MF.refl M, SF.refl S, fun _ _ _ _ => rfl, hno⟩
    · rw [st_X1_throwThoseWith_5]
      unfold d_X1_throwThoseWith_5b
      dsimp only
      rw [hF.1, if_pos (of_eq_true (qleT (Nat.le_refl _) (by omega)))]
    · rw [st_X12_throwsWith_5]
      unfold d_X12_throwsWith_5b
      dsimp only
      rw [hF.2.1, if_pos (of_eq_true (qleT (Nat.le_refl _) (by omega)))]
  | succ j ih =>
    intro t N1 N2 M S n hk h1 h2 hI hno
    obtain ⟨m1, rfl, hm1⟩ := ex_pred h1
    obtain ⟨m2, rfl, hm2⟩ := ex_pred h2
    obtain ⟨⟨B, hF⟩, hPR⟩ := inv2_f hI
    have hct := hF.2.2.1
    obtain ⟨⟨st, gm, fg, hT⟩, hb, ⟨r, r1, r2, r3, r4, -⟩, -⟩ := hF.2.2.2.2.2.2 t (by omega)
    have h90 := hT.2.1.2.1
    have hst1 := hT.2.1.2.2.1
    have hst := hT.2.1.2.2.2
    have hv : vp_in (nI t) 20 := of_eq_true (qinT (by omega) (by omega))
    have hcl : (nI t).toNatClampNeg = t := qcl (by omega)
    have hk9 := hT.1.2.1
    have hr68 := hT.1.1
    have h12 := hT.2.2.2.1.1
    have h14 := hT.2.2.2.1.2.2.1
    have ek : nI t + (1 : Int32) = nI (t + 1) := by rw [l_1, qadd]
    rw [st_X1_throwThoseWith_5, st_X12_throwsWith_5]
    unfold d_X1_throwThoseWith_5b d_X12_throwsWith_5b
    dsimp only
    rw [hF.1, hF.2.1, if_neg (of_eq_false (qleF (by omega) (by omega))), if_neg (of_eq_false (qleF (by omega) (by omega))), okk_pos hv, hcl, hr68]
    simp only [obind]
    rw [okk_pos hk9, h14]
    unfold d_X1_throwThoseWith_60
    simp only [bnd_eq]
    rw [ek]
    rcases hb with hb | hb
    · have hb0 : mI S 89 t = (0 : Int32) := hb
      rw [if_pos hb0, hsR_no (by omega) h90 hst1 hst hb0]
      unfold d_X12_throwsWith_125
      rw [if_pos rfl]
      unfold d_X12_throwsWith_144
      rw [bnd_eq, ek]
      exact ih (t + 1) m1 m2 M S n (by omega) (by omega) (by omega) hI (fun q st2 hq h8 h9 h0 => by
        by_cases e : q = t
        · subst e; rw [hb] at h8; exact absurd h8 (by decide)
        · exact hno q st2 (by omega) h8 h9 h0)
    · have hb1 : mI S 89 t = nI 1 := hb
      have hb0 : ¬ mI S 89 t = (0 : Int32) := by rw [hb1]; exact n1z
      have hl := inv2_ln hI (by omega) hb1 h90 hst
      rw [if_neg hb0, okk_pos hv, hsC_ok hc hC hT hPR hl, hsR_ok hR (by omega) h90 hst hb0 hl]
      simp only [obind]
      unfold d_X12_throwsWith_125
      by_cases p : hsQ S t c x st
      · obtain ⟨N, E, u1, u2, u3, u4, u5, u6, u7, -⟩ := inv2_throw hI (show r < cnt by omega) (r4.trans hb1) r3
        rw [pBT p, if_neg n1z, if_neg n1z, okk_pos hv, okk_pos hv, hcl, hr68]
        simp only [obind]
        rw [okk_pos hk9, h12, r2, u1, u2]
        simp only [obind, bnd_eq]
        unfold d_X12_throwsWith_144
        rw [bnd_eq, ek]
        obtain ⟨N2, E2, v, w1, w2, w3, w4, w5, w6, w7⟩ := ih (t + 1) m1 m2 N E (n + 1) (by omega) (by omega) (by omega) u3 (fun q st2 hq h8 h9 h0 hQ => by
          rw [u7] at h8
          by_cases e : q < cnt ∧ mI S 93 q = nI r
          · rw [if_pos e] at h8; exact absurd h8 (by decide)
          · rw [if_neg e] at h8
            have e2 : q ≠ t := fun z => e ⟨by omega, by rw [z]; exact r2⟩
            exact hno q st2 (by omega) h8 ((u6 90 q (by omega) (by omega)).symm.trans h9) h0 (hsQ_e (fun a j y => u6 a j (by omega) (by omega)) hQ))
        exact ⟨N2, E2, v, w1, w2, w3, u4.trans w4, u5.trans w5, fun a j y z => (w6 a j y z).trans (u6 a j y z), w7⟩
      · rw [pBF p, if_pos z00, if_pos z00]
        unfold d_X12_throwsWith_144
        rw [bnd_eq, ek]
        exact ih (t + 1) m1 m2 M S n (by omega) (by omega) (by omega) hI (fun q st2 hq h8 h9 h0 => by
          by_cases e : q = t
          · subst e
            obtain rfl : st2 = st := qinj (by omega) (by omega) (h9.symm.trans h90)
            exact p
          · exact hno q st2 (by omega) h8 h9 h0)
theorem tw_all {u w : Nat → Int32} {cnt ns nc nf c : Nat} {x x2 x3 : Int32} {M S : Mem} (hc : c < 1000) (hR : (c = 109 ∧ x2 = -1) ∨ (c ≠ 109 ∧ ¬ x2 = (-1 : Int32) ∧ x2 = x)) (hC : c = 109 ∨ (c ≠ 109 ∧ x3 = x)) (hI : INV2 u w M S cnt ns nc nf) : ∃ N E v, d_X1_throwThoseWith (nI c) x3 M = some (v, N) ∧ d_X12_throwsWith (nI c) x2 S = some (v, E) ∧ INV2 u w N E cnt ns nc nf ∧ MF M N ∧ SF S E ∧ (∀ a j, a ≠ 87 → a ≠ 89 → mI E a j = mI S a j) ∧ ∀ q st, q < cnt → mI E 89 q = nI 1 → mI E 90 q = nI st → st ≤ 30 → ¬ hsQ E q c x st := by
  obtain ⟨⟨B, hF⟩, -⟩ := inv2_f hI
  have := hF.2.2.1
  have := fuel_big
  exact tw_both hc hR hC cnt 0 fuel fuel M S (0 : Int32) (by omega) (by omega) (by omega) hI (fun q st h => absurd h (by omega))
end MV3
