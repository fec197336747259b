/-! ===== what a recording knows holds in a run: calls, returns, puts ===== -/
section MB82
theorem At_e {S E R F : Mem} {v v2 : Nat} {val rval val2 rval2 : Nat → Vl} {p q p2 q2 : Nat} (h : At S R v val rval p q) (hv : v ≤ v2) (hval : ∀ u, u < v → val2 u = val u ∧ rval2 u = rval u) (c : mI F 105 p2 = mI R 105 p ∧ mI F 106 p2 = mI R 106 p ∧ mD F 107 p2 = mD R 107 p ∧ mI F 108 p2 = mI R 108 p) (d : mI E 105 q2 = mI S 105 q ∧ mI E 106 q2 = mI S 106 q ∧ mD E 107 q2 = mD S 107 q) : At E F v2 val2 rval2 p2 q2 := by
  obtain ⟨u, u1, u2, u3, u4⟩ := h
  obtain ⟨c1, c2, c3, c4⟩ := c
  obtain ⟨d1, d2, d3⟩ := d
  obtain ⟨e1, e2⟩ := hval u u1
  refine ⟨u, by omega, c4.trans u2, ?_, ?_⟩
  · unfold vS at u3 ⊢; rw [d1, d2, d3, e1]; exact u3
  · unfold vS at u4 ⊢; rw [c1, c2, c3, e2]; exact u4
theorem d3 {a b c d : Prop} (h : a ∧ b ∧ c ∧ d) : a ∧ b ∧ c := ⟨h.1, h.2.1, h.2.2.1⟩
def nullV : Vl := (nI 110, nI 0, FP.dconst0)
theorem n110 : ¬ nI 110 = nI 0 := by decide
theorem Kn_null {E F : Mem} {oS oR u : Nat} (h1 : mI F 123 u = nI 110) (h2 : mI F 124 u = nI 0) (h3 : mI F 125 u = -nI 1) (h4 : mI F 126 u = nI 0) : Kn E F oS oR u nullV nullV := by
  refine ⟨fun _ => rfl, fun _ => ⟨h1.symm, h1.symm⟩, fun z => absurd h3 z, fun z => ?_, fun z => absurd h4 z⟩
  rw [h4] at z; exact absurd z (by decide)
theorem sat_cl {S E R F : Mem} {bS bR n i g m oS oR v tS tR : Nat} {eS eR : Nat → Nat} {val rval : Nat → Vl} (hs : Sat S R bS bR n eS eR oS oR v val rval) (h1 : CL S E (bS + n) tS i g m) (h2 : CL R F (bR + n) tR i g m) (o1 : OE S E) (o2 : OE R F) (hr : mI R 69 71 = nI 1) (hv500 : v < 500) (hm : m ≤ 3) (hS : mI S 111 (bS + n) = nI (tS + m)) (hR : mI R 111 (bR + n) = nI (tR + m)) (tS8 : tS + m ≤ 8) (tR8 : tR + m ≤ 8) : Sat E F bS bR (n + 1) eS eR oS oR (v + (6 - m)) (fun u => if u < v then val u else nullV) (fun u => if u < v then rval u else nullV) := by
  obtain ⟨⟨f1, f2, f3, f4⟩, s1, s2, s3⟩ := hs
  obtain ⟨a1, a2, a3, a4, a5, a6, a7, a8, a9, a10, a11, -⟩ := h1
  obtain ⟨b1, b2, b3, b4, b5, b6, b7, b8, b9, b10, b11, b12⟩ := h2
  obtain ⟨-, v', hv1, hv2, k1, k2, k3, k4⟩ := b12.resolve_left (fun z => by rw [hr] at z; exact absurd z.1 (by decide))
  obtain rfl : v' = v := qinj (by omega) (by omega) (hv2.symm.trans s1)
  have en := (f4 n (Nat.le_refl _)).2.2.1
  have hSn := hN_e (S := S) hS tS8
  have hRn := hN_e (S := S) hR tR8
  rw [hSn, hRn] at en
  have hE1 : hN E (bS + n) = tS := hN_e (S := S) a6 (by omega)
  have hF1 : hN F (bR + n) = tR := hN_e (S := S) b6 (by omega)
  have hE2 : hN E (bS + (n + 1)) = 0 := hN_e (S := S) a8 (by omega)
  have hF2 : hN F (bR + (n + 1)) = 0 := hN_e (S := S) b8 (by omega)
  have hE3 : ∀ j, j < n → hN E (bS + j) = hN S (bS + j) := fun j hj => by unfold hN; rw [(a4 (bS + j) (by omega) (by omega)).2]
  have hF3 : ∀ j, j < n → hN F (bR + j) = hN R (bR + j) := fun j hj => by unfold hN; rw [(b4 (bR + j) (by omega) (by omega)).2]
  have hval : ∀ u, u < v' → (fun u => if u < v' then val u else nullV) u = val u ∧ (fun u => if u < v' then rval u else nullV) u = rval u := fun u hu => ⟨if_pos hu, if_pos hu⟩
  refine ⟨⟨a1, b1, f3, fun j hj => ?_⟩, k1, fun j k l hj hcv => ?_, fun u hu => ?_⟩
  · by_cases e1 : j = n + 1
    · subst e1
      rw [hE2, hF2]
      refine ⟨a3.trans b3.symm, a7.trans b7.symm, ?_, by omega, by omega⟩
      have := f3 (n + 1) (by omega)
      omega
    · obtain ⟨g1, g2, g3, g4, g5⟩ := f4 j (by omega)
      rw [a2 _ (by omega), b2 _ (by omega)]
      by_cases e : j = n
      · subst e
        rw [hE1, hF1]
        exact ⟨g1, a5.trans b5.symm, by omega, by omega, by omega⟩
      · rw [hE3 j (by omega), hF3 j (by omega), (a4 (bS + j) (by omega) (by omega)).1, (b4 (bR + j) (by omega) (by omega)).1]
        exact ⟨g1, g2, g3, g4, g5⟩
  · by_cases e1 : j = n + 1
    · subst e1
      unfold Cv at hcv
      rw [hE2, hF2] at hcv
      have hk : k < 6 ∧ l = k := by omega
      obtain ⟨hk, rfl⟩ := hk
      by_cases e : l < m
      · have ho := s2 n (6 + tR + l) (6 + tS + l) (Nat.le_refl _) (by unfold Cv; rw [hSn, hRn]; omega)
        refine At_e ho (by omega) hval ?_ ?_
        · have := b10 l e
          rw [show 14 * (bR + n) + (6 + tR + l) = 14 * (bR + n) + 6 + tR + l by omega]
          exact this
        · have := a10 l e
          rw [show 14 * (bS + n) + (6 + tS + l) = 14 * (bS + n) + 6 + tS + l by omega]
          exact d3 this
      · refine ⟨v' + (l - m), by omega, k2 l (by omega) hk, ?_, ?_⟩
        · show _ = ite _ _ _
          rw [if_neg (by omega)]
          obtain ⟨c1, c2, c3⟩ := a11 l (by omega) hk
          unfold vS; rw [show bS + (n + 1) = bS + n + 1 by omega, c1, c2, c3]; rfl
        · show _ = ite _ _ _
          rw [if_neg (by omega)]
          obtain ⟨c1, c2, c3⟩ := b11 l (by omega) hk
          unfold vS; rw [show bR + (n + 1) = bR + n + 1 by omega, c1, c2, c3]; rfl
    · obtain ⟨g1, g2, g3, g4, g5⟩ := f4 j (by omega)
      have hcv2 : Cv S R bS bR eS eR j k l := by
        unfold Cv at hcv ⊢
        by_cases e : j = n
        · subst e
          rw [hE1, hF1] at hcv
          rw [hSn, hRn]
          omega
        · rw [hE3 j (by omega), hF3 j (by omega)] at hcv
          exact hcv
      have hlt : k < 14 ∧ l < 14 := by unfold Cv at hcv2; omega
      exact At_e (s2 j k l (by omega) hcv2) (by omega) hval (b9 _ (by omega)) (d3 (a9 _ (by omega)))
  · by_cases e : u < v'
    · show Kn E F oS oR u (ite _ _ _) (ite _ _ _)
      rw [if_pos e, if_pos e]
      obtain ⟨q1, q2, q3, q4⟩ := k3 u e
      exact Kn_e (s3 u e) q1 q2 q3 q4 (Nat.le_refl _) (Nat.le_refl _) (fun p _ => o1.2 p) (fun p _ => o2.2 p)
    · show Kn E F oS oR u (ite _ _ _) (ite _ _ _)
      rw [if_neg e, if_neg e]
      obtain ⟨q1, q2, q3, q4⟩ := k4 u (by omega) (by omega)
      exact Kn_null q1 q2 q3 q4
theorem sat_rt {S E R F : Mem} {bS bR n oS oR v tS tR uS uR : Nat} {eS eR : Nat → Nat} {val rval : Nat → Vl} (hs : Sat S R bS bR (n + 1) eS eR oS oR v val rval) (h1 : RTn S E (bS + n) tS uS) (h2 : RTn R F (bR + n) tR uR) (hS : mI S 111 (bS + n + 1) = nI (tS + 1)) (hR : mI R 111 (bR + n + 1) = nI (tR + 1)) (tS8 : tS < 8) (tR8 : tR < 8) (kS : mI S 111 (bS + n) = nI uS) (kR : mI R 111 (bR + n) = nI uR) (uS8 : uS < 8) (uR8 : uR < 8) : Sat E F bS bR n eS eR oS oR v val rval := by
  obtain ⟨⟨f1, f2, f3, f4⟩, s1, s2, s3⟩ := hs
  obtain ⟨a1, a2, a3, a4, a5, a6, a7, a8⟩ := h1
  obtain ⟨b1, b2, b3, b4, b5, b6, b7, b8⟩ := h2
  have en := (f4 n (by omega)).2.2.1
  have en1 := (f4 (n + 1) (Nat.le_refl _)).2.2.1
  have hSn := hN_e (S := S) kS (by omega)
  have hRn := hN_e (S := S) kR (by omega)
  have hSt : hN S (bS + (n + 1)) = tS + 1 := hN_e (S := S) hS (by omega)
  have hRt : hN R (bR + (n + 1)) = tR + 1 := hN_e (S := S) hR (by omega)
  rw [hSn, hRn] at en
  rw [hSt, hRt] at en1
  have hE1 : hN E (bS + n) = uS + 1 := hN_e (S := S) a4 (by omega)
  have hF1 : hN F (bR + n) = uR + 1 := hN_e (S := S) b4 (by omega)
  have hE3 : ∀ j, j < n → hN E (bS + j) = hN S (bS + j) := fun j hj => by unfold hN; rw [a3 (bS + j) (by omega)]
  have hF3 : ∀ j, j < n → hN F (bR + j) = hN R (bR + j) := fun j hj => by unfold hN; rw [b3 (bR + j) (by omega)]
  refine ⟨⟨a1, b1, f3, fun j hj => ?_⟩, b7.1.trans s1, fun j k l hj hcv => ?_, fun u hu => ?_⟩
  · obtain ⟨g1, g2, g3, g4, g5⟩ := f4 j (by omega)
    rw [(a2 _).1, (a2 _).2, (b2 _).1, (b2 _).2]
    by_cases e : j = n
    · subst e
      rw [hE1, hF1]
      exact ⟨g1, g2, by omega, by omega, by omega⟩
    · rw [hE3 j (by omega), hF3 j (by omega)]
      exact ⟨g1, g2, g3, g4, g5⟩
  · by_cases e : j = n
    · subst e
      unfold Cv at hcv
      rw [hE1, hF1] at hcv
      by_cases e2 : k = 6 + uR
      · subst e2
        obtain rfl : l = 6 + uS := by omega
        have ho := s2 (j + 1) (6 + tR) (6 + tS) (Nat.le_refl _) (by unfold Cv; rw [hSt, hRt]; omega)
        simp only [Nat.add_assoc] at b6 a6 ho ⊢
        exact At_e ho (Nat.le_refl _) (fun u _ => ⟨rfl, rfl⟩) b6 (d3 a6)
      · have ho := s2 j k l (by omega) (by unfold Cv; rw [hSn, hRn]; omega)
        exact At_e ho (Nat.le_refl _) (fun u _ => ⟨rfl, rfl⟩) (b5 _ (by omega)) (d3 (a5 _ (by omega)))
    · obtain ⟨g1, g2, g3, g4, g5⟩ := f4 j (by omega)
      have hcv2 : Cv S R bS bR eS eR j k l := by
        unfold Cv at hcv ⊢
        rw [hE3 j (by omega), hF3 j (by omega)] at hcv
        exact hcv
      have hlt : k < 14 ∧ l < 14 := by unfold Cv at hcv2; omega
      exact At_e (s2 j k l (by omega) hcv2) (Nat.le_refl _) (fun u _ => ⟨rfl, rfl⟩) (b5 _ (by omega)) (d3 (a5 _ (by omega)))
  · obtain ⟨q1, q2, q3, q4⟩ := b7.2 u
    exact Kn_e (s3 u hu) q1 q2 q3 q4 (Nat.le_refl _) (Nat.le_refl _) (fun p _ => a8.2 p) (fun p _ => b8.2 p)
theorem sat_pu {S E R F : Mem} {bS bR n i oS oR v pS pR qS qR s s2 a tS tR : Nat} {eS eR : Nat → Nat} {val rval : Nat → Vl} (hs : Sat S R bS bR n eS eR oS oR v val rval) (h1 : PU S E (bS + n) pS qS s a s2 i tS) (h2 : PU R F (bR + n) pR qR s a s2 i tR) (hb : bS + n < 12) (hb2 : bR + n < 12) (hr0 : mI S 69 71 = nI 0) (hr : mI R 69 71 = nI 1) (hv500 : v < 500) (hS : mI S 111 (bS + n) = nI (tS + 2)) (hR : mI R 111 (bR + n) = nI (tR + 2)) (tS8 : tS < 7) (tR8 : tR < 7) (hpS : pS = 14 * (bS + n) + 6 + tS) (hpR : pR = 14 * (bR + n) + 6 + tR)
    (sS : mI S 112 qS = nI s) (sR : mI R 112 qR = nI s) (qS1 : qS < oS) (qR1 : qR < oR) (kS : mI S 105 pS = nI 111) (kR : mI R 105 pR = nI 111) (nS : mI S 106 pS = nI qS) (nR : mI R 106 pR = nI qR) : Sat E F bS bR n eS eR oS oR v val rval := by
  obtain ⟨p1, o1, o2, o3, -, -, -⟩ := h1
  obtain ⟨p2, q1, q2, q3, -, -, kk⟩ := h2
  have eh := (hs.1.2.2.2 n (Nat.le_refl _)).2.2.1
  have hSn := hN_e (S := S) hS (by omega)
  have hRn := hN_e (S := S) hR (by omega)
  rw [hSn, hRn] at eh
  have hv2 : mI F 69 83 = nI v := by
    rcases kk with ⟨-, k⟩ | ⟨-, -, v', u, hv1, hv2, hv3, -⟩
    · exact k.1.trans hs.2.1
    · rw [hv3, ← hv2]; exact hs.2.1
  refine sat_one hs p1 p2 (by omega) (by omega) (by omega) (by omega) (by omega) (fun k l hc => .inr ⟨by omega, by omega, ?_⟩) (Nat.le_refl _) hv2 (fun u _ => ⟨rfl, rfl⟩) (fun u hu => ?_)
  · unfold Cv
    rw [hSn, hRn]
    omega
  · rcases kk with ⟨hz, k⟩ | ⟨-, hne, v', w, hv1, hv2', hv3, hw1, hw2, hw3, hw4, hw5⟩
    · have e2 : s2 = s := hz.resolve_left (fun z => by rw [hr] at z; exact absurd z (by decide))
      subst e2
      obtain ⟨a1, a2, a3, a4⟩ := k.2 u
      refine Kn_e (hs.2.2.2 u hu) a1 a2 a3 a4 (Nat.le_refl _) (Nat.le_refl _) (fun p _ => ?_) (fun p _ => ?_)
      · by_cases e : p = qS
        · subst e; exact o2.trans sS.symm
        · exact o3 p e
      · by_cases e : p = qR
        · subst e; exact q2.trans sR.symm
        · exact q3 p e
    · obtain rfl : v' = v := qinj (by omega) (by omega) (hv2'.symm.trans hs.2.1)
      obtain ⟨a1, a2, a4⟩ := hw3 u
      obtain ⟨c1, c2, c3, c4, c5⟩ := hs.2.2.2 u hu
      refine ⟨by rw [a2]; exact c1, by rw [a1]; exact c2, fun z => ?_, by rw [a4]; exact c4, by rw [a4]; exact c5⟩
      by_cases e : u = w
      · subst e
        rw [hw4]
        obtain ⟨u2, g1, g2, g3, g4⟩ := hs.2.2.1 n (6 + tR) (6 + tS) (Nat.le_refl _) (by unfold Cv; rw [hSn, hRn]; omega)
        rw [show 14 * (bR + n) + (6 + tR) = pR by omega] at g2 g4
        rw [show 14 * (bS + n) + (6 + tS) = pS by omega] at g3
        obtain rfl : u = u2 := qinj (by omega) (by omega) (hw1.symm.trans g2)
        rw [← g3, ← g4]
        exact ⟨⟨kS, qS, qS1, nS, o2⟩, kR, qR, qR1, nR, q2⟩
      · exact absurd (hw5 u hu e) z
end MB82
