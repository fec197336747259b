/-! ===== a step of a trace: all letters ===== -/
section MK3
/-- the tables of R lie in those of S -/
def TX (R S : Mem) (ns nc nf : Nat) : Prop := (∀ c, c < nc → mI S 78 c = mI R 78 c) ∧ (∀ f, f < nf → mI S 70 f = mI R 70 f) ∧ ∀ s, s < ns → mI S 79 s = mI R 79 s ∧ mI S 80 s = mI R 80 s ∧ (∀ k, k < 6 → mI S 81 (6 * s + k) = mI R 81 (6 * s + k)) ∧ ∀ n, n < 6 → ¬ mI R 82 (6 * s + n) = -nI 1 → mI S 82 (6 * s + n) = mI R 82 (6 * s + n)
theorem TX.refl (R : Mem) (ns nc nf : Nat) : TX R R ns nc nf := ⟨fun _ _ => rfl, fun _ _ => rfl, fun _ _ => ⟨rfl, rfl, fun _ _ => rfl, fun _ _ _ => rfl⟩⟩
theorem TX.mono {R S : Mem} {ns nc nf ns2 nc2 nf2 : Nat} (h : TX R S ns nc nf) (h1 : ns2 ≤ ns) (h2 : nc2 ≤ nc) (h3 : nf2 ≤ nf) : TX R S ns2 nc2 nf2 := ⟨fun c hc => h.1 c (by omega), fun f hf => h.2.1 f (by omega), fun s hs => h.2.2 s (by omega)⟩
theorem TX.trans {A B C : Mem} {ns nc nf ns2 nc2 nf2 : Nat} (h : TX A B ns nc nf) (k : TX B C ns2 nc2 nf2) (h1 : ns ≤ ns2) (h2 : nc ≤ nc2) (h3 : nf ≤ nf2) : TX A C ns nc nf := by
  refine ⟨fun c hc => (k.1 c (by omega)).trans (h.1 c hc), fun f hf => (k.2.1 f (by omega)).trans (h.2.1 f hf), fun s hs => ?_⟩
  obtain ⟨a1, a2, a3, a4⟩ := h.2.2 s hs
  obtain ⟨b1, b2, b3, b4⟩ := k.2.2 s (by omega)
  exact ⟨b1.trans a1, b2.trans a2, fun j hj => (b3 j hj).trans (a3 j hj), fun n hn hz => by have e := a4 n hn hz; exact (b4 n hn (by rw [e]; exact hz)).trans e⟩
theorem TX.hasF {R S : Mem} {ns nc nf s n d ob nc2 nf2 : Nat} (h : TX R S ns nc nf) (hW : WW R d ob ns nc2 nf2) (hs : s < ns) : hasF S s n ↔ hasF R s n := by
  obtain ⟨a1, a2, a3, a4⟩ := h.2.2 s hs
  have hz := (hW.2.2.2.2.2.1.2.2.2.2 s hs).1
  have hc := cN_le R s
  exact hasF_e a2 a3 (by rw [hz, qcl (by omega)]; exact hc)
theorem tr_step {M S R G F : Mem} {bS bR n ob1 ns1 nc1 nf1 ob2 ns2 nc2 nf2 f i e1 m1 h1 e2 m2 h2 v g0 k gg c nsF ncF nfF : Nat} {a : Int32} {eS eR : Nat → Nat} {val rval : Nat → Vl} (A1 : ATI S (bS + n) ob1 ns1 nc1 nf1 f i e1 m1 h1 a c) (A2 : ATI R (bR + n) ob2 ns2 nc2 nf2 f i e2 m2 h2 a c) (hc9 : c < 256) (hf1 : f < nf1) (hf2 : f < nf2) (hnf : nf2 ≤ nf1) (hRC : RC M S 18 (bS + n) ns1) (gc : mI M 18 7 = nI c) (r1 : mI S 69 71 = nI 0) (r2 : mI R 69 71 = nI 1) (hs : Sat S R bS bR n eS eR ob1 ob2 v val rval) (hv5 : v < 500) (g8 : mI R 69 78 = nI g0) (hg : g0 + 4 ≤ 120) (hgd : d_X12_guards (nI c) R = some ((), G)) (hgf : GDF R G g0 k gg) (hF : d_X12_executes (lnR G k f i) = some ((), F))
    (hX : TX R S ns2 nc2 nf2) (hXF : TX F S nsF ncF nfF) (hns : ns2 ≤ nsF) (hk : c = 107 → ∀ b, b < 8 → a = nI b → mI S 75 b = mI R 75 b) (hm : c = 109 → ∀ b cl, b < 6 → a = nI b → cl < nc2 → mOf S b 7 (nI cl) = mOf R b 7 (nI cl)) (hr : c = 114 → 1 ≤ n) : TRS M S G F bS bR g0 v eS eR := by
  obtain ⟨hW, x1, x2, x3, x4, x5, x6, x7, x8, x9, x10, x11, x12, x13, x14⟩ := id A2
  have hWP := hW.2.2.2.2.2.2.1
  have hnc := hWP.2.2.2.1.1
  have hLO := (hWP.2.2.2.2.1 f hf2).2.2.2 i (by rw [x6, qcl (by omega)]; exact x7)
  rw [x11, x12] at hLO
  have ci : ∀ x, x < 256 → nI c = nI x → c = x := fun x hx h => qinj (by omega) (by omega) h
  rcases hLO with hc | ⟨hc, b, hb, rfl⟩ | ⟨hc, b, hb, rfl⟩ | ⟨hc, b, hb, rfl⟩ | ⟨hc, b, hb, rfl⟩ | ⟨hc, b, hb, rfl⟩ | ⟨hc, rfl⟩
  · obtain ⟨b, rfl⟩ := some_nI a
    obtain rfl := ci 105 (by omega) hc
    exact tr_105 A1 A2 hf1 hf2 hRC gc r1 r2 hs hv5 g8 hg hgd hgf hF
  · obtain rfl := ci 107 (by omega) hc
    exact tr_107 A1 A2 hf1 hf2 hRC gc r1 r2 hs hv5 g8 hg hgd hgf hF hb (hk rfl b hb rfl)
  · rcases hc with hc | hc | hc | hc | hc
    · obtain rfl := ci 108 (by omega) hc
      exact tr_108 A1 A2 hf1 hf2 hRC gc r1 r2 hs hv5 g8 hg hgd hgf hF hb
    · obtain rfl := ci 115 (by omega) hc
      exact tr_115 A1 A2 hf1 hf2 hRC gc r1 r2 hs hv5 g8 hg hgd hgf hF hb
    · obtain rfl := ci 103 (by omega) hc
      exact tr_103 A1 A2 hf1 hf2 hRC gc r1 r2 hs hv5 g8 hg hgd hgf hF hb
    · obtain rfl := ci 112 (by omega) hc
      exact tr_112 A1 A2 hf1 hf2 hRC gc r1 r2 hs hv5 g8 hg hgd hgf hF hb (fun s hs9 => hX.hasF hW hs9) (fun s s2 y1 y2 y3 => ((hXF.2.2 s (by omega)).2.2.2 b hb (by rw [y3]; exact of_eq_false (qneg_ne (by omega)))).trans y3)
    · obtain rfl := ci 109 (by omega) hc
      exact tr_109 A1 A2 hf1 hf2 hRC gc r1 r2 hs hv5 g8 hg hgd hgf hF hb (fun s hs9 => (hX.2.2 s hs9).1) (fun cl hcl => hm rfl b cl hb rfl hcl)
  · rcases hc with hc | hc
    · obtain rfl := ci 106 (by omega) hc
      exact tr_106 A1 A2 hf1 hf2 hRC gc r1 r2 hs hv5 g8 hg hgd hgf hF hb
    · obtain rfl := ci 122 (by omega) hc
      exact tr_122 A1 A2 hf1 hf2 hRC gc r1 r2 hs hv5 g8 hg hgd hgf hF hb
  · obtain rfl := ci 110 (by omega) hc
    exact tr_110 A1 A2 hf1 hf2 hRC gc r1 r2 hs hv5 g8 hg hgd hgf hF (by omega) (hX.1 b hb)
  · obtain rfl := ci 99 (by omega) hc
    exact tr_99 A1 A2 hf1 hf2 hRC gc r1 r2 hs hv5 g8 hg hgd hgf hF (by omega) hb (hX.2.1 b hb)
  · rcases hc with hc | hc | hc | hc | hc | hc | hc | hc | hc | hc | hc | hc
    · obtain rfl := ci 117 (by omega) hc
      exact tr_117 A1 A2 hf1 hf2 hRC gc r1 r2 hs hv5 g8 hg hgd hgf hF 
    · obtain rfl := ci 100 (by omega) hc
      exact tr_100 A1 A2 hf1 hf2 hRC gc r1 r2 hs hv5 g8 hg hgd hgf hF 
    · obtain rfl := ci 119 (by omega) hc
      exact tr_119 A1 A2 hf1 hf2 hRC gc r1 r2 hs hv5 g8 hg hgd hgf hF 
    · obtain rfl := ci 114 (by omega) hc
      exact tr_114 A1 A2 hf1 hf2 hRC gc r1 r2 hs hv5 g8 hg hgd hgf hF (hr rfl)
    · obtain rfl := ci 116 (by omega) hc
      exact tr_116 A1 A2 hf1 hf2 hRC gc r1 r2 hs hv5 g8 hg hgd hgf hF 
    · obtain rfl := ci 43 (by omega) hc
      exact tr_43 A1 A2 hf1 hf2 hRC gc r1 r2 hs hv5 g8 hg hgd hgf hF 
    · obtain rfl := ci 45 (by omega) hc
      exact tr_45 A1 A2 hf1 hf2 hRC gc r1 r2 hs hv5 g8 hg hgd hgf hF 
    · obtain rfl := ci 42 (by omega) hc
      exact tr_42 A1 A2 hf1 hf2 hRC gc r1 r2 hs hv5 g8 hg hgd hgf hF 
    · obtain rfl := ci 47 (by omega) hc
      exact tr_47 A1 A2 hf1 hf2 hRC gc r1 r2 hs hv5 g8 hg hgd hgf hF 
    · obtain rfl := ci 37 (by omega) hc
      exact tr_37 A1 A2 hf1 hf2 hRC gc r1 r2 hs hv5 g8 hg hgd hgf hF 
    · obtain rfl := ci 60 (by omega) hc
      exact tr_60 A1 A2 hf1 hf2 hRC gc r1 r2 hs hv5 g8 hg hgd hgf hF 
    · obtain rfl := ci 61 (by omega) hc
      exact tr_61 A1 A2 hf1 hf2 hRC gc r1 r2 hs hv5 g8 hg hgd hgf hF 
end MK3
