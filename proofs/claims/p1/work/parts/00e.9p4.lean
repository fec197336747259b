/-! ===== a new trace: what both know of it ===== -/
section MX4
/-- the class behind its new trace -/
def NTX (N X : Mem) (z cnt k g : Nat) (rt : Int32) (P : Nat → Nat → Prop) : Prop := (∀ a j, a < z → (a ≠ 67 ∨ j ≠ 3) → (a ≠ 48 ∨ j ≠ 10) → ¬ P a j → mI X a j = mI N a j) ∧ (∀ a j, a < z → mD X a j = mD N a j ∧ mL X a j = mL N a j) ∧ (∀ a j, a < z → (a ≠ 68 ∨ j ≠ cnt) → mR X a j = mR N a j) ∧ mR X 68 cnt = some z ∧ (∀ a, a < z → mT X a = mT N a) ∧ (nx X = z + 11 ∧ uC X = uC N + 11 ∧ uS X = uS N + 17 + sumT k g 10) ∧ (mI X 67 3 = nI (cnt + 1) ∧ mI X 48 10 = nI 0) ∧ (mK X z = 9 ∧ mI X z 0 = nI k ∧ mI X z 1 = nI g ∧ mI X z 12 = rt ∧ mI X z 13 = mI N 48 11 ∧ mI X z 14 = nI 1 ∧ mI X z 15 = nI 0 ∧ mI X z 16 = nI 0) ∧ ∀ q, q < 10 → mR X z (2 + q) = some (z + 1 + q) ∧ mT X (z + 1 + q) = (21, lenT k g q) ∧ ∀ j, mI X (z + 1 + q) j = valT N k g q j
/-- the reference behind its new trace -/
def NTY (E Y : Mem) (cnt k g : Nat) (rt hd : Int32) (P2 : Nat → Prop) : Prop := (∀ a j, a ≠ 69 → (a < 89 ∨ 104 < a ∨ a = 95 ∨ a = 96 ∨ (100 < a ∧ a < 104)) → mI Y a j = mI E a j) ∧ (∀ j, j ≠ 71 → j ≠ 26 → mI Y 69 j = mI E 69 j) ∧ (mI Y 69 71 = nI 0 ∧ mI Y 69 26 = nI (cnt + 1)) ∧ (∀ a j, (a = 89 ∨ a = 90 ∨ a = 92 ∨ a = 93 ∨ a = 94) → j ≠ cnt → mI Y a j = mI E a j) ∧ (mI Y 89 cnt = nI 1 ∧ mI Y 90 cnt = nI k ∧ mI Y 92 cnt = nI g ∧ mI Y 93 cnt = rt ∧ mI Y 94 cnt = hd) ∧ (∀ j, j < 30 * cnt → mI Y 91 j = mI E 91 j) ∧ (∀ i, i < k → mI Y 91 (30 * cnt + i) = mI E 118 i) ∧ (∀ a j, ((96 < a ∧ a < 101) ∨ (a = 104 ∧ ¬ P2 j)) → j < 120 * cnt → mI Y a j = mI E a j) ∧ (∀ i, i < g → mI Y 97 (120 * cnt + i) = mI E 119 i ∧ mI Y 98 (120 * cnt + i) = mI E 120 i ∧ mI Y 99 (120 * cnt + i) = mI E 121 i ∧ mI Y 100 (120 * cnt + i) = mI E 122 i ∧ mI Y 104 (120 * cnt + i) = -nI 1) ∧ Y.2 = E.2
theorem trc_B {M S : Mem} {B B2 : Nat → Nat} {t st gm : Nat} {fg : Nat → Nat} (h : TRC M S B t st gm fg) (e : B2 t = B t) : TRC M S B2 t st gm fg := by
  unfold TRC TRO at h ⊢
  rw [e]
  exact h
def upB (B : Nat → Nat) (cnt z : Nat) : Nat → Nat := fun t => if t = cnt then z else B t
theorem upB_o {B : Nat → Nat} {cnt z t : Nat} (h : t ≠ cnt) : upB B cnt z t = B t := if_neg h
theorem upB_n {B : Nat → Nat} {cnt z : Nat} : upB B cnt z cnt = z := if_pos rfl
theorem new_for {N E X Y : Mem} {B fgR : Nat → Nat} {cnt k g z hd : Nat} {rt : Int32} {P : Nat → Nat → Prop} {P2 : Nat → Prop} (hF : FOR N E B cnt) (hz : nx N = z) (hX : NTX N X z cnt k g rt P) (hY : NTY E Y cnt k g rt (nI hd) P2) (hc : cnt < 20) (hk1 : 1 ≤ k) (hk : k ≤ 30) (hg : g ≤ 120) (hhd : hd < 320) (h4811 : mI N 48 11 = nI hd) (hP : ∀ a j, P a j → a = 47 ∨ ∃ p, p < cnt ∧ a = B p + 10) (h10 : ∀ t st gm fg, t < cnt → TRC N E B t st gm fg → ∀ i, i < gm → mI X (B t + 10) i = mI Y 104 (120 * t + i)) (hGA : ∀ i, i < g → GA N E i) (hLN : LNS N E k fgR) (hf : fgR 0 = 0 ∧ fgR k = g ∧ ∀ i, i < k → fgR i ≤ fgR (i + 1)) (h120 : ∀ i q, i < k → fgR i ≤ q → q < fgR (i + 1) → mI E 120 q = nI i) (hrt : rt = nI cnt ∨ ∃ r, r < cnt ∧ rt = nI r ∧ mI E 93 r = nI r ∧ mI E 89 r = nI 1 ∧ mI E 94 r = nI hd) : FOR X Y (upB B cnt z) (cnt + 1) ∧ TRC X Y (upB B cnt z) cnt k g fgR := by
  obtain ⟨a1, a2, a3, a4, ⟨a5, aY, aZ⟩, a6, a7⟩ := id hF
  obtain ⟨x1, x2, x3, x4, x5, ⟨x6, -, -⟩, ⟨x7, x8⟩, ⟨x9, x10, x11, x12, x13, x14, x15, x16⟩, x17⟩ := id hX
  obtain ⟨y1, y2, ⟨y3, y4⟩, y5, ⟨y6, y7, y8, y9, y10⟩, y11, y12, y13, y14, y15⟩ := id hY
  have z129 : 129 ≤ z := by rw [← hz]; exact aY.1.2
  have hb : ∀ t, t < cnt → 129 ≤ B t ∧ B t + 11 ≤ z := fun t ht => by
    obtain ⟨⟨st, gm, fg, hT⟩, -⟩ := a7 t ht
    exact ⟨hT.1.2.2.1, by have := (a6 t ht).1; omega⟩
  have hPn : ∀ t a j, t < cnt → B t ≤ a → a < B t + 10 → ¬ P a j := fun t a j ht h1 h2 h3 => by
    obtain ⟨b1, b2⟩ := hb t ht
    rcases hP a j h3 with q | ⟨p, p1, p2⟩
    · omega
    · by_cases e : t = p
      · subst e; omega
      · have := B_ne hF ht p1 e
        omega
  have hP67 : ∀ a j, a < 129 → a ≠ 47 → ¬ P a j := fun a j h1 h2 h3 => by
    rcases hP a j h3 with q | ⟨p, p1, p2⟩
    · exact h2 q
    · have := (hb p p1).1; omega
  have hnew : TRC X Y (upB B cnt z) cnt k g fgR := by
    have kz : ∀ q, q < 10 → mK X (z + 1 + q) = 21 := fun q hq => by unfold mK; rw [(x17 q hq).2.1]
    have nz : ∀ q, q < 10 → mN X (z + 1 + q) = lenT k g q := fun q hq => by unfold mN; rw [(x17 q hq).2.1]
    refine ⟨?_, ?_, ?_, ?_, fun i hi => ?_, fun i hi => ?_, hf.1, hf.2.1, hf.2.2, fun i hi => ?_, fun i q h1 h2 h3 => ?_⟩
    · unfold TRO
      rw [upB_n]
      exact ⟨x4, x9, z129, fun i hi => ⟨(x17 i hi).1, kz i hi⟩, nz 0 (by omega), nz 1 (by omega), fun i h1 h2 => by rw [nz i h2]; unfold lenT; rw [if_neg (by omega), if_neg (by omega)]⟩
    · rw [upB_n]; exact ⟨x10, y7, hk1, hk⟩
    · rw [upB_n]; exact ⟨x11, y8, hg⟩
    · rw [upB_n]
      exact ⟨x12.trans y9.symm, x13.trans (h4811.trans y10.symm), x14.trans y6.symm, x15.trans (((y1 95 cnt (by omega) (by omega)).trans (aZ.1 cnt (Nat.le_refl _)).1)).symm, x16.trans (((y1 96 cnt (by omega) (by omega)).trans (aZ.1 cnt (Nat.le_refl _)).2)).symm⟩
    · rw [upB_n, show z + 1 = z + 1 + 0 by omega, (x17 0 (by omega)).2.2, y12 i hi]
      unfold valT
      rw [if_pos (by omega), if_neg (by omega), if_pos (show i < lenT k g 0 from hi)]
      exact (hLN i hi).1
    · rw [upB_n]
      obtain ⟨g1, g2, g3, g4, g5⟩ := hGA i hi
      obtain ⟨w1, w2, w3, w4, w5⟩ := y14 i hi
      obtain ⟨u1, u2, u3⟩ := aZ.2 (120 * cnt + i) (by omega)
      have v : ∀ q, 2 ≤ q → q < 6 → mI X (z + 1 + q) i = mI N (49 + q) i := fun q q1 q2 => by
        rw [(x17 q (by omega)).2.2]
        have hl : lenT k g q = g := by unfold lenT; rw [if_neg (by omega), if_neg (by omega)]
        unfold valT
        rw [if_pos q2, if_neg (by omega), hl, if_pos hi]
      have v0 : ∀ q, 6 ≤ q → q < 9 → mI X (z + 1 + q) i = nI 0 := fun q q1 q2 => by
        rw [(x17 q (by omega)).2.2]
        unfold valT
        rw [if_neg (by omega), if_neg (by omega)]
        exact l_0
      have v9 : mI X (z + 10) i = -nI 1 := by
        rw [show z + 10 = z + 1 + 9 by omega, (x17 9 (by omega)).2.2]
        unfold valT
        rw [if_neg (by omega), if_pos ⟨rfl, hi⟩]
      rw [w1, w2, w3, w4, w5]
      refine ⟨?_, ?_, ?_, ?_, ?_, ?_, ?_, v9, g5⟩
      · exact (show mI X (z + 3) i = mI N 51 i from v 2 (by omega) (by omega)).trans g1
      · exact (show mI X (z + 4) i = mI N 52 i from v 3 (by omega) (by omega)).trans g2
      · rw [show mI X (z + 5) i = mI N 53 i from v 4 (by omega) (by omega)]; exact g3
      · exact (show mI X (z + 6) i = mI N 54 i from v 5 (by omega) (by omega)).trans g4
      · exact (show mI X (z + 7) i = nI 0 from v0 6 (by omega) (by omega)).trans ((y1 101 _ (by omega) (by omega)).trans u1).symm
      · exact (show mI X (z + 8) i = nI 0 from v0 7 (by omega) (by omega)).trans ((y1 102 _ (by omega) (by omega)).trans u2).symm
      · exact (show mI X (z + 9) i = nI 0 from v0 8 (by omega) (by omega)).trans ((y1 103 _ (by omega) (by omega)).trans u3).symm
    · rw [upB_n, show z + 2 = z + 1 + 1 by omega, (x17 1 (by omega)).2.2]
      unfold valT
      by_cases e : i = k
      · subst e
        rw [if_pos (by omega), if_pos ⟨rfl, rfl⟩, hf.2.1]
      · rw [if_pos (by omega), if_neg (fun y => e y.2), if_pos (show i < lenT k g 1 by unfold lenT; rw [if_neg (by omega), if_pos rfl]; omega)]
        exact (hLN i (by omega)).2
    · have hq : q < g := by
        have := fg_mono hf.2.2 (show i + 1 ≤ k by omega) (Nat.le_refl _)
        omega
      rw [(y14 q hq).2.1]
      exact h120 i q h1 h2 h3
  refine ⟨⟨x7, y4, by omega, ?_, ⟨?_, ?_, ?_⟩, fun t ht => ?_, fun t ht => ?_⟩, hnew⟩
  · rw [x1 67 4 (by omega) (by omega) (by omega) (hP67 _ _ (by omega) (by omega)), y2 25 (by omega) (by omega)]; exact a4
  · rw [x1 67 5 (by omega) (by omega) (by omega) (hP67 _ _ (by omega) (by omega)), y2 35 (by omega) (by omega)]; exact a5
  · obtain ⟨⟨l1, l0⟩, l2, l3, l4, l5⟩ := aY
    have k : ∀ a, a < z → mK X a = mK N a := fun a ha => by unfold mK; rw [x5 a ha]
    have n : ∀ a, a < z → mN X a = mN N a := fun a ha => by unfold mN; rw [x5 a ha]
    exact ⟨⟨(k _ (by omega)).trans l1, by omega⟩, fun i hi => ⟨(x3 48 i (by omega) (by omega)).trans (l2 i hi).1, (k _ (by omega)).trans (l2 i hi).2⟩, (n _ (by omega)).trans l3, (n _ (by omega)).trans l4, fun i h1 h2 => (n _ (by omega)).trans (l5 i h1 h2)⟩
  · exact ⟨fun t ht => ⟨(y1 95 t (by omega) (by omega)).trans (aZ.1 t (by omega)).1, (y1 96 t (by omega) (by omega)).trans (aZ.1 t (by omega)).2⟩, fun j hj => ⟨(y1 101 j (by omega) (by omega)).trans (aZ.2 j (by omega)).1, (y1 102 j (by omega) (by omega)).trans (aZ.2 j (by omega)).2.1, (y1 103 j (by omega) (by omega)).trans (aZ.2 j (by omega)).2.2⟩⟩
  · by_cases e : t = cnt
    · subst e
      rw [upB_n]
      exact ⟨by omega, fun t2 h2 => by rw [upB_o (by omega)]; exact (hb t2 h2).2⟩
    · rw [upB_o e]
      exact ⟨by have := (hb t (by omega)).2; omega, fun t2 h2 => by rw [upB_o (by omega)]; exact (a6 t (by omega)).2 t2 h2⟩
  · by_cases e : t = cnt
    · subst e
      refine ⟨⟨k, g, fgR, hnew⟩, by rw [y6]; exact .inr rfl, ?_, ⟨hd, hhd, y10⟩⟩
      rcases hrt with h | ⟨r, r1, r2, r3, r4, r5⟩
      · exact ⟨t, Nat.le_refl _, y9.trans h, y9.trans h, rfl, rfl⟩
      · exact ⟨r, by omega, y9.trans r2, (y5 93 r (by omega) (by omega)).trans r3, (y5 89 r (by omega) (by omega)).trans (r4.trans y6.symm), (y5 94 r (by omega) (by omega)).trans (r5.trans y10.symm)⟩
    · obtain ⟨⟨st, gm, fg, hT⟩, b2, ⟨r, r1, r2, r3, r4, r5⟩, b4⟩ := a7 t (by omega)
      obtain ⟨c1, c2⟩ := hb t (by omega)
      have hgm := hT.2.2.1.2.2
      have hst := hT.2.1.2.2.2
      refine ⟨⟨st, gm, fg, trc_B (B := B) ?_ (upB_o e)⟩, by rw [y5 89 t (by omega) e]; exact b2, ⟨r, r1, (y5 93 t (by omega) e).trans r2, (y5 93 r (by omega) (by omega)).trans r3, by rw [y5 89 r (by omega) (by omega), y5 89 t (by omega) e]; exact r4, by rw [y5 94 r (by omega) (by omega), y5 94 t (by omega) e]; exact r5⟩, by rw [y5 94 t (by omega) e]; exact b4⟩
      obtain ⟨⟨o1, o2, o3, o4, o5, o6, o7⟩, ⟨p1, p2, p3⟩, ⟨q1, q2, q3⟩, ⟨s1, s2, s3, s4, s5⟩, u, v, w1, w2, w3, w4, w5⟩ := id hT
      have hc9 : ∀ a j, B t ≤ a → a < B t + 10 → mI X a j = mI N a j := fun a j h1 h2 => x1 a j (by omega) (by omega) (by omega) (hPn t a j (by omega) h1 h2)
      have kk : ∀ i, i < 11 → mK X (B t + i) = mK N (B t + i) := fun i hi => by unfold mK; rw [x5 _ (by omega)]
      have nn9 : ∀ i, i < 11 → mN X (B t + i) = mN N (B t + i) := fun i hi => by unfold mN; rw [x5 _ (by omega)]
      refine ⟨⟨(x3 68 t (by omega) (by omega)).trans o1, (kk 0 (by omega)).trans o2, o3, fun i hi => ⟨(x3 _ _ (by omega) (by omega)).trans (o4 i hi).1, ?_⟩, (nn9 1 (by omega)).trans o5, (nn9 2 (by omega)).trans o6, fun i h1 h2 => ?_⟩, ⟨(hc9 _ _ (by omega) (by omega)).trans p1, (y5 90 t (by omega) e).trans p2, p3⟩, ⟨(hc9 _ _ (by omega) (by omega)).trans q1, (y5 92 t (by omega) e).trans q2, q3⟩, ⟨?_, ?_, ?_, ?_, ?_⟩, fun i hi => ?_, fun i hi => ?_, w1, w2, w3, fun i hi => (hc9 _ _ (by omega) (by omega)).trans (w4 i hi), fun i q h1 h2 h3 => ?_⟩
      · have := kk (1 + i) (by omega)
        rw [← Nat.add_assoc] at this
        exact this.trans (o4 i hi).2
      · have := nn9 (1 + i) (by omega)
        rw [← Nat.add_assoc] at this
        exact this.trans (o7 i h1 h2)
      · rw [hc9 _ _ (by omega) (by omega), y5 93 t (by omega) e]; exact s1
      · rw [hc9 _ _ (by omega) (by omega), y5 94 t (by omega) e]; exact s2
      · rw [hc9 _ _ (by omega) (by omega), y5 89 t (by omega) e]; exact s3
      · rw [hc9 _ _ (by omega) (by omega), y1 95 t (by omega) (by omega)]; exact s4
      · rw [hc9 _ _ (by omega) (by omega), y1 96 t (by omega) (by omega)]; exact s5
      · rw [hc9 _ _ (by omega) (by omega), y11 _ (by omega)]; exact u i hi
      · obtain ⟨g1, g2, g3, g4, g5, g6, g7, g8, g9⟩ := v i hi
        rw [hc9 (B t + 3) _ (by omega) (by omega), hc9 (B t + 4) _ (by omega) (by omega), hc9 (B t + 5) _ (by omega) (by omega), hc9 (B t + 6) _ (by omega) (by omega), hc9 (B t + 7) _ (by omega) (by omega), hc9 (B t + 8) _ (by omega) (by omega), hc9 (B t + 9) _ (by omega) (by omega), y13 97 _ (by omega) (by omega), y13 98 _ (by omega) (by omega), y13 99 _ (by omega) (by omega), y13 100 _ (by omega) (by omega), y1 101 _ (by omega) (by omega), y1 102 _ (by omega) (by omega), y1 103 _ (by omega) (by omega)]
        exact ⟨g1, g2, g3, g4, g5, g6, g7, h10 t st gm fg (by omega) hT i hi, g9⟩
      · have hq : q < gm := by
          have := fg_mono w3 (show i + 1 ≤ st by omega) (Nat.le_refl _)
          omega
        rw [y13 98 _ (by omega) (by omega)]
        exact w5 i q h1 h2 h3
end MX4
