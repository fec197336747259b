/-! ===== setters: limits, whole ===== -/
section MWB
theorem in_l (x a b : Int32) (S : Mem) : d_X12_in x a b S = some (pB (¬ x < a ∧ ¬ b < x), S) := by
  unfold d_X12_in
  by_cases c : x < a
  · rw [if_pos c, pBF (fun z => z.1 c)]; rfl
  · rw [if_neg c]
    by_cases d : b < x
    · rw [if_pos d, pBF (fun z => z.2 d)]; rfl
    · rw [if_neg d, pBT ⟨c, d⟩]; rfl
theorem le_nlt {x b : Int32} : x ≤ b ↔ ¬ b < x := by
  rw [Int32.le_iff_toInt_le, Int32.lt_iff_toInt_lt]
  omega
theorem cl_badL {M : Mem} {x1 x2 x3 : Int32} (h : ¬ ((¬ x1 < (2 : Int32) ∧ ¬ (50 : Int32) < x1) ∧ (¬ x2 < (1 : Int32) ∧ ¬ (20 : Int32) < x2) ∧ (¬ x3 < (10 : Int32) ∧ ¬ (200 : Int32) < x3))) : d_X11_setLimits x1 x2 x3 M = some (.inr "java/lang/IllegalArgumentException", tk M 6) := by
  unfold d_X11_setLimits d_X11_setLimits_35
  by_cases a1 : x1 < (2 : Int32)
  · exact if_pos a1
  · rw [if_neg a1]
    by_cases a2 : (50 : Int32) < x1
    · exact if_pos a2
    · rw [if_neg a2]
      by_cases a3 : x2 < (1 : Int32)
      · exact if_pos a3
      · rw [if_neg a3]
        by_cases a4 : (20 : Int32) < x2
        · exact if_pos a4
        · rw [if_neg a4]
          by_cases a5 : x3 < (10 : Int32)
          · exact if_pos a5
          · rw [if_neg a5]
            by_cases a6 : (200 : Int32) < x3
            · exact if_neg (fun z => le_nlt.mp z a6)
            · exact absurd ⟨⟨a1, a2⟩, ⟨a3, a4⟩, a5, a6⟩ h
theorem r_badL {S : Mem} {x1 x2 x3 : Int32} (h : ¬ ((¬ x1 < (2 : Int32) ∧ ¬ (50 : Int32) < x1) ∧ (¬ x2 < (1 : Int32) ∧ ¬ (20 : Int32) < x2) ∧ (¬ x3 < (10 : Int32) ∧ ¬ (200 : Int32) < x3))) : d_X12_setLimits x1 x2 x3 S = some (nI 0, sI (sI S 69 0 (0 : Int32)) 69 0 (1 : Int32)) := by
  unfold d_X12_setLimits
  rw [bnd_eq, in_l]
  simp only [obind]
  by_cases a1 : ¬ x1 < (2 : Int32) ∧ ¬ (50 : Int32) < x1
  · rw [pBT a1, if_neg n1z, in_l]
    simp only [obind]
    by_cases a2 : ¬ x2 < (1 : Int32) ∧ ¬ (20 : Int32) < x2
    · rw [pBT a2, if_neg n1z, in_l]
      simp only [obind]
      rw [pBF (fun z => h ⟨a1, a2, z⟩), if_pos z00]
      rfl
    · rw [pBF a2, if_pos z00]
      rfl
  · rw [pBF a1, if_pos z00]
    rfl
theorem s_setLimits {M S : Mem} {cnt ns nc nf : Nat} {x1 x2 x3 : Int32} (hI : INV M S cnt ns nc nf) : SETR (d_L_setLimits x1 x2 x3) (d_X12_setLimits x1 x2 x3) M S cnt := by
  by_cases c : (¬ x1 < (2 : Int32) ∧ ¬ (50 : Int32) < x1) ∧ (¬ x2 < (1 : Int32) ∧ ¬ (20 : Int32) < x2) ∧ (¬ x3 < (10 : Int32) ∧ ¬ (200 : Int32) < x3)
  · obtain ⟨⟨a1, a2⟩, ⟨a3, a4⟩, a5, a6⟩ := id c
    have hx3 : ¬ x3 < (0 : Int32) := fun z => a5 (by
      rw [Int32.lt_iff_toInt_lt] at z ⊢
      rw [show (0 : Int32).toInt = 0 by decide] at z
      rw [show (10 : Int32).toInt = 10 by decide]
      omega)
    obtain ⟨L, hL, eL⟩ := i32_nn hx3
    have hL2 : L ≤ 200 := by
      have h1 : nI L ≤ nI 200 := by rw [← eL]; exact le_nlt.mpr a6
      rwa [qle hL (by decide)] at h1
    have hI2 := inv_lim (x1 := x1) (x2 := x2) (x3 := x3) hI
    obtain ⟨B, hF⟩ := inv_f hI2
    have hcnt : cnt ≤ 20 := hF.2.2.1
    have hr := rcF_le (liS S x1 x2 x3) cnt
    have hfb := fuel_big
    obtain ⟨N, E, v, u1, u2, u3, u4, u5, u6⟩ := shrink_l (L := L) (by omega) (rcF (liS S x1 x2 x3) cnt) (liM M x1 x2 x3) (liS S x1 x2 x3) 0 fuel fuel hI2 (by unfold liS; rw [mI_eq]; exact eL) rfl (by omega) (by omega) (by omega)
    have e0 : mI E 69 0 = nI 0 := by
      rw [u6]
      unfold liS
      rw [mI_ne (by omega), mI_ne (by omega), mI_ne (by omega), mI_eq]
      rfl
    have cc : d_X11_setLimits x1 x2 x3 M = some (.inl v, N) := by
      unfold d_X11_setLimits
      rw [if_neg a1, if_neg a2, if_neg a3, if_neg a4, if_neg a5, if_pos (le_nlt.mpr a6), bnd_eq, bnd_eq, bnd_eq]
      unfold d_X1_shrink
      rw [show d_X1_shrink_2 fuel (0 : Int32) (sI (sI (sI M 38 5 x1) 38 6 x2) 67 4 x3) = some (v, N) from u1]
      rfl
    have cr : d_X12_setLimits x1 x2 x3 S = some (v, E) := by
      unfold d_X12_setLimits
      rw [bnd_eq, in_l]
      simp only [obind]
      rw [pBT ⟨a1, a2⟩, if_neg n1z, in_l]
      simp only [obind]
      rw [pBT ⟨a3, a4⟩, if_neg n1z, in_l]
      simp only [obind]
      rw [pBT ⟨a5, a6⟩, if_neg n1z, bnd_eq, bnd_eq, bnd_eq]
      exact u2
    refine ⟨nI 0, v, sL N 127 0 v.toInt64, E, ns, nc, nf, lT_setLimits cc, cr, e0, fun _ => mL_eq _ _ _ _, inv_M u3 (nc_L _ _).ec, ?_⟩
    have c1 : CFR M (liM M x1 x2 x3) cnt cnt 0 := cfr_eq cnt (fun a j u v => ⟨by unfold liM; rw [mI_ne (by omega), mI_ne (by omega), mI_ne (by omega)], rfl, rfl⟩) rfl
    have c2 := (c1.trans ((MF.c u4 cnt).cfr)).trans ((nc_L N v.toInt64).cfr cnt)
    exact c2
  · exact ASK.setr hI (ask_t (k := nI 1) (v := nI 0) (lE1_setLimits (cl_badL c)) (r_badL c) (mI_eq _ _ _ _) n1n ((sc_1 _ _).trans (sc_1 _ _)))
end MWB
