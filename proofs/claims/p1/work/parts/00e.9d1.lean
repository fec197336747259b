/-! ===== a recorded step of both ===== -/
section MI1
theorem RSC.b {M S : Mem} {c d b f i k g v fc ns ob nc nf : Nat} {a : Int32} {p q : Prop} (h : RSC M S c d b f i k g v fc ns ob nc nf a p) (e : p ↔ q) : RSC M S c d b f i k g v fc ns ob nc nf a q := by rw [← propext e]; exact h
theorem rec_step {M S : Mem} {d ns ob nc nf f i e n h v fc g k b : Nat} {φ : Nat → Nat} (hR : RC M S 18 d ns) (hW : WW S d ob ns nc nf) (hr : WR S d) (hr1 : mI S 69 71 = nI 1) (hf : mI S 109 d = nI f) (hf0 : f < nf) (hi : mI S 110 d = nI i) (he : mI S 69 57 = nI e) (he1 : e < 1000) (hl : mI S 71 f = nI n) (hn : i < n) (hn1 : n ≤ 40) (hh : mI S 111 d = nI h) (h8 : h ≤ 8) (gc : mI M 18 7 = mI S 72 (40 * f + i)) (ga : mI M 18 8 = mI S 73 (40 * f + i)) (hX : RECX M S v fc φ g k) (hL : RFP M S b d φ v) (hb : b ≤ d) (hk : k < 30) (hg : g ≤ 4 * k) (hv : v ≤ 168 + 6 * k) (hfc : fc ≤ 168 + 6 * k) (hbd : mI S 72 (40 * f + i) = nI 114 → b < d) (hy : d_X12_why S = some (nI 0, S)) : ∃ c, c < 256 ∧ mI S 72 (40 * f + i) = nI c ∧ RSC M S c d b f i k g v fc ns ob nc nf (mI S 73 (40 * f + i)) (bkP S d f i h) := by
  have hWP := hW.2.2.2.2.2.2.1
  have hf1 : f < 8 := by have := hWP.2.1; omega
  have hi1 : i < 40 := by omega
  have hnc := hWP.2.2.2.1.1
  have hLO := (hWP.2.2.2.2.1 f hf0).2.2.2 i (by rw [hl, qcl (by omega)]; exact hn)
  rcases hLO with hc | ⟨hc, a, ha1, ha⟩ | ⟨hc, a, ha1, ha⟩ | ⟨hc, a, ha1, ha⟩ | ⟨hc, a, ha1, ha⟩ | ⟨hc, a, ha1, ha⟩ | ⟨hc, ha⟩
  · obtain ⟨a, ha⟩ := some_nI (mI S 73 (40 * f + i))
    refine ⟨105, by omega, hc, ?_⟩
    rw [ha]
    exact (rs_i hR hW hr hr1 hf hf1 hi hi1 he he1 hl hn hn1 hh h8 ha hc (gc.trans hc) (ga.trans ha) hX hL hb hk hg hv hfc hy ).b (bk_no hc (by decide) (by decide))
  · refine ⟨107, by omega, hc, ?_⟩
    rw [ha]
    exact (rs_k hR hW hr hr1 hf hf1 hi hi1 he he1 hl hn hn1 hh h8 ha hc (gc.trans hc) (ga.trans ha) hX hL hb hk hg hv hfc hy ha1).b (bk_no hc (by decide) (by decide))
  · rcases hc with hc | hc | hc | hc | hc
    · refine ⟨108, by omega, hc, ?_⟩
      rw [ha]
      exact (rs_l hR hW hr hr1 hf hf1 hi hi1 he he1 hl hn hn1 hh h8 ha hc (gc.trans hc) (ga.trans ha) hX hL hb hk hg hv hfc hy ha1).b (bk_no hc (by decide) (by decide))
    · refine ⟨115, by omega, hc, ?_⟩
      rw [ha]
      exact (rs_s hR hW hr hr1 hf hf1 hi hi1 he he1 hl hn hn1 hh h8 ha hc (gc.trans hc) (ga.trans ha) hX hL hb hk hg hv hfc hy ha1).b (bk_no hc (by decide) (by decide))
    · refine ⟨103, by omega, hc, ?_⟩
      rw [ha]
      exact (rs_g hR hW hr hr1 hf hf1 hi hi1 he he1 hl hn hn1 hh h8 ha hc (gc.trans hc) (ga.trans ha) hX hL hb hk hg hv hfc hy ha1).b (bk_no hc (by decide) (by decide))
    · refine ⟨112, by omega, hc, ?_⟩
      rw [ha]
      exact (rs_p hR hW hr hr1 hf hf1 hi hi1 he he1 hl hn hn1 hh h8 ha hc (gc.trans hc) (ga.trans ha) hX hL hb hk hg hv hfc hy ha1).b (bk_no hc (by decide) (by decide))
    · refine ⟨109, by omega, hc, ?_⟩
      rw [ha]
      exact (rs_m hR hW hr hr1 hf hf1 hi hi1 he he1 hl hn hn1 hh h8 ha hc (gc.trans hc) (ga.trans ha) hX hL hb hk hg hv hfc hy ha1).b (bk_no hc (by decide) (by decide))
  · rcases hc with hc | hc
    · refine ⟨106, by omega, hc, ?_⟩
      rw [ha]
      exact (rs_j hR hW hr hr1 hf hf1 hi hi1 he he1 hl hn hn1 hh h8 ha hc (gc.trans hc) (ga.trans ha) hX hL hb hk hg hv hfc hy ha1).b (by unfold bkP; rw [hc, ha, qcl (by omega)]; exact ⟨fun y => ⟨.inl rfl, y⟩, fun y => y.2⟩)
    · refine ⟨122, by omega, hc, ?_⟩
      rw [ha]
      exact (rs_z hR hW hr hr1 hf hf1 hi hi1 he he1 hl hn hn1 hh h8 ha hc (gc.trans hc) (ga.trans ha) hX hL hb hk hg hv hfc hy ha1).b (by unfold bkP; rw [hc, ha, qcl (by omega)]; exact ⟨fun y => ⟨.inr ⟨rfl, y.1⟩, y.2⟩, fun y => ⟨(y.1.resolve_left (by decide)).2, y.2⟩⟩)
  · refine ⟨110, by omega, hc, ?_⟩
    rw [ha]
    exact (rs_n hR hW hr hr1 hf hf1 hi hi1 he he1 hl hn hn1 hh h8 ha hc (gc.trans hc) (ga.trans ha) hX hL hb hk hg hv hfc hy ha1).b (bk_no hc (by decide) (by decide))
  · refine ⟨99, by omega, hc, ?_⟩
    rw [ha]
    exact (rs_c hR hW hr hr1 hf hf1 hi hi1 he he1 hl hn hn1 hh h8 ha hc (gc.trans hc) (ga.trans ha) hX hL hb hk hg hv hfc hy ha1).b (bk_no hc (by decide) (by decide))
  · rcases hc with hc | hc | hc | hc | hc | hc | hc | hc | hc | hc | hc | hc
    · refine ⟨117, by omega, hc, ?_⟩
      rw [ha]
      exact (rs_u hR hW hr hr1 hf hf1 hi hi1 he he1 hl hn hn1 hh h8 ha hc (gc.trans hc) (ga.trans ha) hX hL hb hk hg hv hfc hy ).b (bk_no hc (by decide) (by decide))
    · refine ⟨100, by omega, hc, ?_⟩
      rw [ha]
      exact (rs_d hR hW hr hr1 hf hf1 hi hi1 he he1 hl hn hn1 hh h8 ha hc (gc.trans hc) (ga.trans ha) hX hL hb hk hg hv hfc hy ).b (bk_no hc (by decide) (by decide))
    · refine ⟨119, by omega, hc, ?_⟩
      rw [ha]
      exact (rs_w hR hW hr hr1 hf hf1 hi hi1 he he1 hl hn hn1 hh h8 ha hc (gc.trans hc) (ga.trans ha) hX hL hb hk hg hv hfc hy ).b (bk_no hc (by decide) (by decide))
    · refine ⟨114, by omega, hc, ?_⟩
      rw [ha]
      exact (rs_r hR hW hr hr1 hf hf1 hi hi1 he he1 hl hn hn1 hh h8 ha hc (gc.trans hc) (ga.trans ha) hX hL hb hk hg hv hfc hy (hbd hc)).b (bk_no hc (by decide) (by decide))
    · refine ⟨116, by omega, hc, ?_⟩
      rw [ha]
      exact (rs_t hR hW hr hr1 hf hf1 hi hi1 he he1 hl hn hn1 hh h8 ha hc (gc.trans hc) (ga.trans ha) hX hL hb hk hg hv hfc hy ).b (bk_no hc (by decide) (by decide))
    · refine ⟨43, by omega, hc, ?_⟩
      rw [ha]
      exact (rs_add hR hW hr hr1 hf hf1 hi hi1 he he1 hl hn hn1 hh h8 ha hc (gc.trans hc) (ga.trans ha) hX hL hb hk hg hv hfc hy ).b (bk_no hc (by decide) (by decide))
    · refine ⟨45, by omega, hc, ?_⟩
      rw [ha]
      exact (rs_sub hR hW hr hr1 hf hf1 hi hi1 he he1 hl hn hn1 hh h8 ha hc (gc.trans hc) (ga.trans ha) hX hL hb hk hg hv hfc hy ).b (bk_no hc (by decide) (by decide))
    · refine ⟨42, by omega, hc, ?_⟩
      rw [ha]
      exact (rs_mul hR hW hr hr1 hf hf1 hi hi1 he he1 hl hn hn1 hh h8 ha hc (gc.trans hc) (ga.trans ha) hX hL hb hk hg hv hfc hy ).b (bk_no hc (by decide) (by decide))
    · refine ⟨47, by omega, hc, ?_⟩
      rw [ha]
      exact (rs_div hR hW hr hr1 hf hf1 hi hi1 he he1 hl hn hn1 hh h8 ha hc (gc.trans hc) (ga.trans ha) hX hL hb hk hg hv hfc hy ).b (bk_no hc (by decide) (by decide))
    · refine ⟨37, by omega, hc, ?_⟩
      rw [ha]
      exact (rs_rem hR hW hr hr1 hf hf1 hi hi1 he he1 hl hn hn1 hh h8 ha hc (gc.trans hc) (ga.trans ha) hX hL hb hk hg hv hfc hy ).b (bk_no hc (by decide) (by decide))
    · refine ⟨60, by omega, hc, ?_⟩
      rw [ha]
      exact (rs_lt hR hW hr hr1 hf hf1 hi hi1 he he1 hl hn hn1 hh h8 ha hc (gc.trans hc) (ga.trans ha) hX hL hb hk hg hv hfc hy ).b (bk_no hc (by decide) (by decide))
    · refine ⟨61, by omega, hc, ?_⟩
      rw [ha]
      exact (rs_eq hR hW hr hr1 hf hf1 hi hi1 he he1 hl hn hn1 hh h8 ha hc (gc.trans hc) (ga.trans ha) hX hL hb hk hg hv hfc hy ).b (bk_no hc (by decide) (by decide))
end MI1
