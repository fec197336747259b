/-! ===== a step of a trace ===== -/
section MK1
theorem vS_fr {S E : Mem} (h : SB S E) (p : Nat) : vS E p = vS S p := by
  unfold vS
  rw [h.1 105 p (by omega) (by omega), h.1 106 p (by omega) (by omega), h.2.1 107 p (by omega)]
/-- no failing, and no failing either where only the recording's cells differ -/
theorem why_fr {S E : Mem} {d ns ob nc nf f i n h : Nat} (hW : WW S d ob ns nc nf) (hB : SB S E) (hf : mI S 109 d = nI f) (hf0 : f < nf) (hi : mI S 110 d = nI i) (hl : mI S 71 f = nI n) (hn : i < n) (hn1 : n ≤ 40) (hh : mI S 111 d = nI h) (hh1 : h ≤ 8) (hy : d_X12_why S = some (nI 0, S)) : d_X12_why E = some (nI 0, E) := by
  have hWP := hW.2.2.2.2.2.2.1
  have hf1 : f < 8 := by have := hWP.2.1; omega
  have hi1 : i < 40 := by omega
  have hLO := (hWP.2.2.2.2.1 f hf0).2.2.2 i (by rw [hl, qcl (by omega)]; exact hn)
  rcases hLO with hc | ⟨hc, a, ha1, ha⟩ | ⟨hc, a, ha1, ha⟩ | ⟨hc, a, ha1, ha⟩ | ⟨hc, a, ha1, ha⟩ | ⟨hc, a, ha1, ha⟩ | ⟨hc, ha⟩
  · obtain ⟨a, ha⟩ := some_nI (mI S 73 (40 * f + i))
    exact we_i hW hB hf hf1 hi hi1 hl hn hn1 hh hh1 ha hc hy
  · exact we_k hW hB hf hf1 hi hi1 hl hn hn1 hh hh1 ha hc hy
  · rcases hc with hc | hc | hc | hc | hc
    · exact we_l hW hB hf hf1 hi hi1 hl hn hn1 hh hh1 ha hc hy
    · exact we_s hW hB hf hf1 hi hi1 hl hn hn1 hh hh1 ha hc hy
    · exact we_g hW hB hf hf1 hi hi1 hl hn hn1 hh hh1 ha hc ha1 hy
    · exact we_p hW hB hf hf1 hi hi1 hl hn hn1 hh hh1 ha hc ha1 hy
    · exact we_m hW hB hf hf1 hi hi1 hl hn hn1 hh hh1 ha hc ha1 hy
  · rcases hc with hc | hc
    · exact we_j hW hB hf hf1 hi hi1 hl hn hn1 hh hh1 ha hc hy
    · exact we_z hW hB hf hf1 hi hi1 hl hn hn1 hh hh1 ha hc hy
  · exact we_n hW hB hf hf1 hi hi1 hl hn hn1 hh hh1 ha hc hy
  · exact we_c hW hB hf hf1 hi hi1 hl hn hn1 hh hh1 ha hc ha1 hy
  · rcases hc with hc | hc | hc | hc | hc | hc | hc | hc | hc | hc | hc | hc
    · exact we_u hW hB hf hf1 hi hi1 hl hn hn1 hh hh1 ha hc hy
    · exact we_d hW hB hf hf1 hi hi1 hl hn hn1 hh hh1 ha hc hy
    · exact we_w hW hB hf hf1 hi hi1 hl hn hn1 hh hh1 ha hc hy
    · exact we_r hW hB hf hf1 hi hi1 hl hn hn1 hh hh1 ha hc hy
    · exact we_t hW hB hf hf1 hi hi1 hl hn hn1 hh hh1 ha hc hy
    · exact we_add hW hB hf hf1 hi hi1 hl hn hn1 hh hh1 ha hc hy
    · exact we_sub hW hB hf hf1 hi hi1 hl hn hn1 hh hh1 ha hc hy
    · exact we_mul hW hB hf hf1 hi hi1 hl hn hn1 hh hh1 ha hc hy
    · exact we_div hW hB hf hf1 hi hi1 hl hn hn1 hh hh1 ha hc hy
    · exact we_rem hW hB hf hf1 hi hi1 hl hn hn1 hh hh1 ha hc hy
    · exact we_lt hW hB hf hf1 hi hi1 hl hn hn1 hh hh1 ha hc hy
    · exact we_eq hW hB hf hf1 hi hi1 hl hn hn1 hh hh1 ha hc hy
theorem ati_fr {S E : Mem} {d ob ns nc nf f i e n h c : Nat} {a : Int32} (hA : ATI S d ob ns nc nf f i e n h a c) (hB : SB S E) (hf0 : f < nf) : ATI E d ob ns nc nf f i e n h a c := by
  obtain ⟨hW, h1, h2, h3, h4, h5, h6, h7, h8, h9, h10, h11, h12, h13, h14⟩ := hA
  have b := hB.1
  exact ⟨ww_fr hW hB, (b 109 d (by omega) (by omega)).trans h1, h2, (b 110 d (by omega) (by omega)).trans h3, h4, (b 69 57 (by omega) (by omega)).trans h5, (b 71 f (by omega) (by omega)).trans h6, h7, h8, (b 111 d (by omega) (by omega)).trans h9, h10, (b 73 _ (by omega) (by omega)).trans h11, (b 72 _ (by omega) (by omega)).trans h12, wr_fr h13 hB, why_fr hW hB h1 hf0 h3 h6 h7 h8 h9 h10 h14⟩
theorem sat_fr {S S2 R : Mem} {bS bR n oS oR v : Nat} {eS eR : Nat → Nat} {val rval : Nat → Vl} (hs : Sat S R bS bR n eS eR oS oR v val rval) (hB : SB S S2) : Sat S2 R bS bR n eS eR oS oR v val rval := by
  obtain ⟨⟨f1, f2, f3, f4⟩, s1, s2, s3⟩ := hs
  have b := hB.1
  have eN : ∀ f, hN S2 f = hN S f := fun f => by unfold hN; rw [b 111 f (by omega) (by omega)]
  refine ⟨⟨(b 69 48 (by omega) (by omega)).trans f1, f2, f3, fun j hj => ?_⟩, s1, fun j k l hj hc => ?_, fun w hw => ?_⟩
  · rw [b 109 _ (by omega) (by omega), b 110 _ (by omega) (by omega), eN]; exact f4 j hj
  · unfold Cv at hc
    rw [eN] at hc
    obtain ⟨u, u1, u2, u3, u4⟩ := s2 j k l hj hc
    exact ⟨u, u1, u2, (vS_fr hB _).trans u3, u4⟩
  · exact Kn_e (s3 w hw) rfl rfl rfl rfl (Nat.le_refl _) (Nat.le_refl _) (fun p _ => b 112 p (by omega) (by omega)) (fun _ _ => rfl)
theorem sat_ln {S R : Mem} {bS bR n oS oR v k f i : Nat} {eS eR : Nat → Nat} {val rval : Nat → Vl} (hs : Sat S R bS bR n eS eR oS oR v val rval) : Sat S (lnR R k f i) bS bR n eS eR oS oR v val rval := by
  obtain ⟨⟨f1, f2, f3, f4⟩, s1, s2, s3⟩ := hs
  have b : ∀ a j, a ≠ 118 → (a ≠ 69 ∨ j ≠ 76) → mI (lnR R k f i) a j = mI R a j := fun a j h1 h2 => by unfold lnR; rw [mI_ne (by omega), mI_ne (by omega)]
  have eN : ∀ f', hN (lnR R k f i) f' = hN R f' := fun f' => by unfold hN; rw [b 111 f' (by omega) (by omega)]
  refine ⟨⟨f1, (b 69 48 (by omega) (by omega)).trans f2, f3, fun j hj => ?_⟩, (b 69 83 (by omega) (by omega)).trans s1, fun j k2 l hj hc => ?_, fun w hw => ?_⟩
  · rw [b 109 _ (by omega) (by omega), b 110 _ (by omega) (by omega), eN]; exact f4 j hj
  · unfold Cv at hc
    rw [eN] at hc
    obtain ⟨u, u1, u2, u3, u4⟩ := s2 j k2 l hj hc
    refine ⟨u, u1, (b 108 _ (by omega) (by omega)).trans u2, u3, ?_⟩
    unfold vS at u4 ⊢
    rw [b 105 _ (by omega) (by omega), b 106 _ (by omega) (by omega)]
    exact u4
  · exact Kn_e (s3 w hw) (b 123 _ (by omega) (by omega)) (b 124 _ (by omega) (by omega)) (b 125 _ (by omega) (by omega)) (b 126 _ (by omega) (by omega)) (Nat.le_refl _) (Nat.le_refl _) (fun _ _ => rfl) (fun p _ => b 112 p (by omega) (by omega))
end MK1
