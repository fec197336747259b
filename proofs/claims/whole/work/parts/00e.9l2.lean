/-! ===== the history of a trace stays ===== -/
section MR2H
theorem tx_sw {R S S2 : Mem} {ns nc nf : Nat} (h : TX R S ns nc nf) (hB : SW S S2) : TX R S2 ns nc nf := by
  have b : ∀ a j, a = 70 ∨ (77 < a ∧ a < 83) → mI S2 a j = mI S a j := fun a j h => hB.1 a j (by omega) (by omega) (by omega) (by omega)
  refine ⟨fun c hc => (b 78 c (by omega)).trans (h.1 c hc), fun f hf => (b 70 f (by omega)).trans (h.2.1 f hf), fun s hs => ?_⟩
  obtain ⟨a1, a2, a3, a4⟩ := h.2.2 s hs
  exact ⟨(b 79 s (by omega)).trans a1, (b 80 s (by omega)).trans a2, fun k hk => (b 81 _ (by omega)).trans (a3 k hk), fun n hn hz => (b 82 _ (by omega)).trans (a4 n hn hz)⟩
theorem hst_sw {S S2 R G F : Mem} {t b k : Nat} {fg : Nat → Nat} (h : HST S t b k fg R G F) (hB : SW S S2) (hA : ∀ a j, a = 91 ∨ (96 < a ∧ a < 101) → mI S2 a j = mI S a j) : HST S2 t b k fg R G F := by
  obtain ⟨n, ob, ns, nc, nf, f, i, e, m, h, c, v, obF, nsF, dF, mS, nfS, a, ⟨c9, p1⟩, h2, h3, h4, h5, ⟨hX, hXF⟩, ⟨hk, hm⟩, ⟨q72, q73, q71, q1, q2, q3, q4, q5⟩, hg⟩ := h
  have b : ∀ a j, 69 < a → a < 83 → mI S2 a j = mI S a j := fun a j h1 h2 => hB.1 a j (by omega) (by omega) (by omega) (by omega)
  refine ⟨n, ob, ns, nc, nf, f, i, e, m, h, c, v, obF, nsF, dF, mS, nfS, a, ⟨c9, (hA 91 _ (by omega)).trans p1⟩, h2, h3, h4, h5, ⟨tx_sw hX hB, tx_sw hXF hB⟩, ⟨fun z b2 z1 z2 => (b 75 b2 (by omega) (by omega)).trans (hk z b2 z1 z2), fun z b2 cl z1 z2 z3 => ?_⟩, ⟨(b 72 _ (by omega) (by omega)).trans q72, (b 73 _ (by omega) (by omega)).trans q73, (b 71 _ (by omega) (by omega)).trans q71, q1, q2, (hB.1 69 1 (by omega) (by omega) (by omega) (by omega)).trans q3, q4, q5⟩, fun g x y => ?_⟩
  · exact (mOf_e (fun p => b 76 p (by omega) (by omega)) (fun p => b 77 p (by omega) (by omega)) b2 7 (nI cl)).trans (hm z b2 cl z1 z2 z3)
  · obtain ⟨g1, g2, g3, g4⟩ := hg g x y
    exact ⟨(hA 97 _ (by omega)).trans g1, (hA 98 _ (by omega)).trans g2, (hA 99 _ (by omega)).trans g3, (hA 100 _ (by omega)).trans g4⟩
end MR2H
