/-! ===== a new trace: heads, histories ===== -/
section MX5
theorem new_hdr {N E X Y : Mem} {cnt k g z hd : Nat} {rt : Int32} {P : Nat → Nat → Prop} {P2 : Nat → Prop} (hH : HDR N E cnt) (hX : NTX N X z cnt k g rt P) (hY : NTY E Y cnt k g rt (nI hd) P2) (hc : cnt < 20) (h129 : 129 ≤ z) (hhd : hd < 320) (hP : ∀ a j, P a j → a = 47 ∨ 128 < a) (h47 : (rt = nI cnt ∧ mI X 47 hd = nI cnt ∧ mI N 47 hd = -nI 1 ∧ ∀ j, j ≠ hd → mI X 47 j = mI N 47 j) ∨ ∃ r, r < cnt ∧ rt = nI r ∧ ∀ j, mI X 47 j = mI N 47 j) : HDR X Y (cnt + 1) := by
  obtain ⟨x1, -⟩ := hX
  obtain ⟨y1, y2, -, y5, ⟨y6, y7, y8, y9, y10⟩, -⟩ := hY
  obtain ⟨h1, h2⟩ := hH
  have er : ∀ t j, t < cnt → (rtP Y t j ↔ rtP E t j) := fun t j ht => by
    unfold rtP
    rw [y5 89 t (by omega) (by omega), y5 93 t (by omega) (by omega), y5 94 t (by omega) (by omega)]
  refine ⟨fun j => ?_, fun j hj => ?_⟩
  · rw [x1 45 j (by omega) (by omega) (by omega) (fun q => by have := hP _ _ q; omega), x1 46 j (by omega) (by omega) (by omega) (fun q => by have := hP _ _ q; omega), y1 87 j (by omega) (by omega), y1 88 j (by omega) (by omega)]
    exact h1 j
  · rcases h47 with ⟨w1, w2, w3, w4⟩ | ⟨r, r1, r2, r3⟩
    · by_cases e : j = hd
      · subst e
        rcases h2 j hj with ⟨-, q⟩ | ⟨t, t1, t2, -⟩
        · refine .inr ⟨cnt, by omega, w2, ⟨y6, y9.trans w1, y10⟩, fun t ht ht2 => ?_⟩
          by_cases e : t = cnt
          · exact e
          · exact absurd ((er t j (by omega)).mp ht2) (q t (by omega))
        · exact absurd (w3.symm.trans t2) (fun y => absurd y.symm (of_eq_false (qneg_ne (by omega))))
      · have hn : ¬ rtP Y cnt j := fun y => e (qinj (by omega) (by omega) (y.2.2.symm.trans y10))
        rw [w4 j e]
        rcases h2 j hj with ⟨q1, q⟩ | ⟨t, t1, t2, t3, t4⟩
        · refine .inl ⟨q1, fun t ht y => ?_⟩
          by_cases e2 : t = cnt
          · subst e2; exact hn y
          · exact q t (by omega) ((er t j (by omega)).mp y)
        · refine .inr ⟨t, by omega, t2, (er t j t1).mpr t3, fun t9 ht y => ?_⟩
          by_cases e2 : t9 = cnt
          · subst e2; exact absurd y hn
          · exact t4 t9 (by omega) ((er t9 j (by omega)).mp y)
    · have hn : ¬ rtP Y cnt j := fun y => by
        have := qinj (by omega) (by omega) ((y.2.1.symm.trans y9).trans r2)
        omega
      rw [r3 j]
      rcases h2 j hj with ⟨q1, q⟩ | ⟨t, t1, t2, t3, t4⟩
      · refine .inl ⟨q1, fun t ht y => ?_⟩
        by_cases e2 : t = cnt
        · subst e2; exact hn y
        · exact q t (by omega) ((er t j (by omega)).mp y)
      · refine .inr ⟨t, by omega, t2, (er t j t1).mpr t3, fun t9 ht y => ?_⟩
        by_cases e2 : t9 = cnt
        · subst e2; exact absurd y hn
        · exact t4 t9 (by omega) ((er t9 j (by omega)).mp y)
def upT {α : Type} (f : Nat → α) (cnt : Nat) (x : α) : Nat → α := fun t => if t = cnt then x else f t
theorem upT_o {α : Type} {f : Nat → α} {cnt t : Nat} {x : α} (h : t ≠ cnt) : upT f cnt x t = f t := if_neg h
theorem upT_n {α : Type} {f : Nat → α} {cnt : Nat} {x : α} : upT f cnt x cnt = x := if_pos rfl
theorem frs_site {A X : Mem} {a b f i f' i' : Nat} (h1 : mI A 109 a = nI f) (h2 : mI A 110 a = nI i) (h3 : mI X 109 b = nI f') (h4 : mI X 110 b = nI i') (hi : i < 40) (hi' : i' < 40) (he : 40 * f + i = 40 * f' + i') : FRS A X a b 0 := fun j hj => by
  obtain rfl : j = 0 := by omega
  obtain rfl : f = f' := by omega
  obtain rfl : i = i' := by omega
  exact ⟨h1.trans h3.symm, h2.trans h4.symm, fun y => absurd y (by omega)⟩
theorem new_his {E Y : Mem} {cnt k g hd d f i ns nc nf : Nat} {rt : Int32} {P2 : Nat → Prop} {H G F : Nat → Nat → Mem} {b : Nat → Nat} {fg : Nat → Nat → Nat} {fgR : Nat → Nat} {HR GR FR : Nat → Mem} (hI : HIS E cnt H G F b fg) (hY : NTY E Y cnt k g rt (nI hd) P2) (hc : cnt < 20) (hk1 : 1 ≤ k) (hk : k ≤ 30) (hg : g ≤ 120) (hhd : hd = 40 * f + i) (hf8 : f < 8) (hi4 : i < 40) (hS : WS E ns nc) (hP : WP E nf nc) (hHI : ∀ i, i < k → HSR E d i fgR (HR i) (GR i) (FR i) ∧ CW (FR i) (HR (i + 1))) (hf : fgR 0 = 0 ∧ fgR k = g ∧ ∀ i, i < k → fgR i ≤ fgR (i + 1)) (hbe : ∃ n, BEG (HR 0) d n) (he : mI (HR k) 69 48 = nI d ∧ mI (HR k) 109 d = nI f ∧ mI (HR k) 110 d = nI i) (hkr : (rt = nI cnt ∧ (∀ j, ¬ P2 j) ∧ mI (HR 0) 69 48 = nI d ∧ ∃ f' i', f' < 8 ∧ i' < 40 ∧ mI (HR 0) 109 d = nI f' ∧ mI (HR 0) 110 d = nI i' ∧ hd = 40 * f' + i') ∨ (∃ r p q kk st n, rt = nI r ∧ r < cnt ∧ p < cnt ∧ q < 120 ∧ mI E 93 p = nI r ∧ mI E 93 r = nI r ∧ mI E 89 r = nI 1 ∧ mI E 94 r = nI hd ∧ mI E 89 p = nI 1 ∧ (∀ j, P2 j → j = 120 * p + q) ∧ mI Y 104 (120 * p + q) = nI cnt ∧ mI E 90 p = nI st ∧ st ≤ 30 ∧ kk < st ∧ fg p kk ≤ q ∧ q < fg p (kk + 1) ∧ mI (H p kk) 69 48 = nI (b p + n) ∧ n < 12 ∧ FRS (H p kk) (HR 0) (b p) d n ∧ mI (HR 0) 69 48 = nI (d + n))) : HIS Y (cnt + 1) (upT H cnt HR) (upT G cnt GR) (upT F cnt FR) (upT b cnt d) (upT fg cnt fgR) := by
  obtain ⟨y1, y2, ⟨y3, y4⟩, y5, ⟨y6, y7, y8, y9, y10⟩, y11, y12, y13, y14, y15⟩ := hY
  obtain ⟨i1, i2, i3, i4⟩ := hI
  have hgr : GRW E Y ns ns := grw_sb hS.2.1 (fun a j q1 q2 q3 => by
    by_cases e : a = 69
    · subst e; exact y2 j (by omega) (by omega)
    · exact y1 a j e (by omega))
  refine ⟨fun t ht h89 => ?_, fun r hr h89 h93 => ?_, fun t r st ht h89 hrt h93 h90 hst => ?_, fun t k' q st ht h89 h90 hst hk' q1 q2 => ?_⟩
  · by_cases e : t = cnt
    · subst e
      rw [upT_n, upT_n, upT_n, upT_n, upT_n]
      obtain ⟨n, hn⟩ := hbe
      refine ⟨k, g, n, ⟨y7, hk1, hk⟩, ⟨y8, hg⟩, hf, fun i hi => ⟨?_, (hHI i hi).2⟩, hn, he.1⟩
      exact hs_grw (d := 0) (ob := 0) (hHI i hi).1 (y12 i hi) (fun q z1 z2 => by
        have hq : q < g := by
          have := fg_mono hf.2.2 (show i + 1 ≤ k by omega) (Nat.le_refl _)
          omega
        obtain ⟨w1, w2, w3, w4, -⟩ := y14 q hq
        exact ⟨w1, w2, w3, w4⟩) hS hP hgr
    · rw [upT_o e, upT_o e, upT_o e, upT_o e, upT_o e]
      obtain ⟨st, gm, n, ⟨a1, a2, a3⟩, ⟨b1, b2⟩, ⟨c1, c2, c3⟩, c4, c5⟩ := i1 t (by omega) ((y5 89 t (by omega) e).symm.trans h89)
      refine ⟨st, gm, n, ⟨(y5 90 t (by omega) e).trans a1, a2, a3⟩, ⟨(y5 92 t (by omega) e).trans b1, b2⟩, ⟨c1, c2, c3⟩, fun k' hk' => ⟨?_, (c4 k' hk').2⟩, c5⟩
      exact hs_grw (d := 0) (ob := 0) (c4 k' hk').1 (y11 _ (by omega)) (fun q z1 z2 => by
        have hq : q < gm := by
          have := fg_mono c3 (show k' + 1 ≤ st by omega) (Nat.le_refl _)
          omega
        exact ⟨y13 97 _ (by omega) (by omega), y13 98 _ (by omega) (by omega), y13 99 _ (by omega) (by omega), y13 100 _ (by omega) (by omega)⟩) hS hP hgr
  · by_cases e : r = cnt
    · subst e
      rw [upT_n, upT_n]
      rcases hkr with ⟨w1, w2, w3, f', i', w4, w5, w6, w7, w8⟩ | ⟨r', p, q, kk, st, n, w1, w2, -⟩
      · exact ⟨w3, f', i', w4, w5, w6, w7, by rw [y10, w8]⟩
      · have := qinj (by omega) (by omega) ((h93.symm.trans y9).trans w1)
        omega
    · rw [upT_o e, upT_o e, y5 94 r (by omega) e]
      exact i2 r (by omega) ((y5 89 r (by omega) e).symm.trans h89) ((y5 93 r (by omega) e).symm.trans h93)
  · by_cases e : t = cnt
    · subst e
      have hs : st = k := qinj (by omega) (by omega) (h90.symm.trans y7)
      subst hs
      rw [upT_n, upT_n]
      rcases hkr with ⟨w1, w2, w3, f', i', w4, w5, w6, w7, w8⟩ | ⟨r', p, q, kk, st9, n, w1, w2, w3, w4, w5, w6, w7, w8, -⟩
      · have hr : r = t := qinj (by omega) (by omega) ((h93.symm.trans y9).trans w1)
        subst hr
        rw [upT_n, upT_n]
        exact frs_site he.2.1 he.2.2 w6 w7 hi4 w5 (hhd.symm.trans w8)
      · have hr : r = r' := qinj (by omega) (by omega) ((h93.symm.trans y9).trans w1)
        subst hr
        rw [upT_o (by omega), upT_o (by omega)]
        obtain ⟨-, f', i', z1, z2, z3, z4, z5⟩ := i2 r w2 w7 w6
        exact frs_site he.2.1 he.2.2 z3 z4 hi4 z2 (hhd.symm.trans (qinj (by omega) (by omega) (w8.symm.trans z5)))
    · rw [upT_o e, upT_o e, upT_o (show r ≠ cnt by omega), upT_o (show r ≠ cnt by omega)]
      exact i3 t r st (by omega) ((y5 89 t (by omega) e).symm.trans h89) hrt ((y5 93 t (by omega) e).symm.trans h93) ((y5 90 t (by omega) e).symm.trans h90) hst
  · by_cases e : t = cnt
    · subst e
      have hs : st = k := qinj (by omega) (by omega) (h90.symm.trans y7)
      subst hs
      rw [upT_n] at q1 q2
      have hq : q < g := by
        have := fg_mono hf.2.2 (show k' + 1 ≤ st by omega) (Nat.le_refl _)
        omega
      exact .inl (y14 q hq).2.2.2.2
    · rw [upT_o e] at q1 q2
      have h89' := (y5 89 t (by omega) e).symm.trans h89
      have h90' := (y5 90 t (by omega) e).symm.trans h90
      obtain ⟨st9, gm, n9, ⟨a1, a2, a3⟩, ⟨b1, b2⟩, ⟨c1, c2, c3⟩, -⟩ := i1 t (by omega) h89'
      have hs9 : st9 = st := qinj (by omega) (by omega) (a1.symm.trans h90')
      subst hs9
      have hq : q < 120 := by
        have := fg_mono c3 (show k' + 1 ≤ st9 by omega) (Nat.le_refl _)
        omega
      have old : mI Y 104 (120 * t + q) = mI E 104 (120 * t + q) → mI Y 104 (120 * t + q) = -nI 1 ∨ ∃ s n, t < s ∧ s < cnt + 1 ∧ mI Y 104 (120 * t + q) = nI s ∧ mI Y 93 s = mI Y 93 t ∧ mI (upT H cnt HR t k') 69 48 = nI (upT b cnt d t + n) ∧ n < 12 ∧ FRS (upT H cnt HR t k') (upT H cnt HR s 0) (upT b cnt d t) (upT b cnt d s) n ∧ mI (upT H cnt HR s 0) 69 48 = nI (upT b cnt d s + n) := fun z => by
        rcases i4 t k' q st9 (by omega) h89' h90' hst hk' q1 q2 with w | ⟨s, n, w1, w2, w3, w4, w5, w6, w7, w8⟩
        · exact .inl (z.trans w)
        · refine .inr ⟨s, n, w1, by omega, z.trans w3, ?_, ?_⟩
          · rw [y5 93 s (by omega) (by omega), y5 93 t (by omega) e]; exact w4
          · rw [upT_o e, upT_o e, upT_o (show s ≠ cnt by omega), upT_o (show s ≠ cnt by omega)]
            exact ⟨w5, w6, w7, w8⟩
      by_cases hp2 : P2 (120 * t + q)
      · rcases hkr with ⟨w1, w2, -⟩ | ⟨r', p, q', kk, st8, n, w1, w2, w3, w4, w5, w6, w7, w8, w9, w10, w11, w12, w13, w14, w15, w16, w17, w18, w19, w20⟩
        · exact absurd hp2 (w2 _)
        · have hj := w10 _ hp2
          have htp : t = p := by omega
          subst htp
          have hqq : q = q' := by omega
          subst hqq
          have hs8 : st8 = st9 := qinj (by omega) (by omega) (w12.symm.trans h90')
          subst hs8
          have hkk : kk = k' := by
            rcases Nat.lt_trichotomy kk k' with y | y | y
            · have := fg_mono c3 (show kk + 1 ≤ k' by omega) (show k' ≤ st8 by omega)
              omega
            · exact y
            · have := fg_mono c3 (show k' + 1 ≤ kk by omega) (show kk ≤ st8 by omega)
              omega
          subst hkk
          refine .inr ⟨cnt, n, w3, by omega, w11, ?_, ?_⟩
          · rw [y9, y5 93 t (by omega) e, w1, w5]
          · rw [upT_o e, upT_o e, upT_n, upT_n]
            exact ⟨w17, w18, w19, w20⟩
      · exact old (y13 104 _ (.inr ⟨rfl, hp2⟩) (by omega))
end MX5
