/-! ===== one step of both ===== -/
section MS5
def bkP (S : Mem) (d f i h : Nat) : Prop := (mI S 72 (40 * f + i) = nI 106 ∨ (mI S 72 (40 * f + i) = nI 122 ∧ isNl (mI S 105 (14 * d + 6 + h - 1)) (mI S 106 (14 * d + 6 + h - 1)) (mD S 107 (14 * d + 6 + h - 1)))) ∧ (mI S 73 (40 * f + i)).toNatClampNeg ≤ i
theorem AHD.b {M S : Mem} {o d ns ob nc nf : Nat} {c a : Int32} {b b2 : Prop} (h : AHD M S o d ns ob nc nf c a b) (e : b ↔ b2) : AHD M S o d ns ob nc nf c a b2 := by rw [← propext e]; exact h
theorem bk_no {S : Mem} {d f i h : Nat} {c : Nat} (hc : mI S 72 (40 * f + i) = nI c) (c1 : nI c ≠ nI 106) (c2 : nI c ≠ nI 122) : False ↔ bkP S d f i h := by
  unfold bkP
  rw [hc]
  exact ⟨fun y => y.elim, fun y => y.1.elim c1 (fun z => c2 z.1)⟩
theorem ahead {M S : Mem} {o d ns ob nc nf f i e n h : Nat} (ho : isO o) (hR : RC M S o d ns) (hW : WW S d ob ns nc nf) (hr : WR S d) (hf : mI S 109 d = nI f) (hf0 : f < nf) (hi : mI S 110 d = nI i) (he : mI S 69 57 = nI e) (he1 : e < 1000) (hl : mI S 71 f = nI n) (hn : i < n) (hn1 : n ≤ 40) (hh : mI S 111 d = nI h) (hh1 : h ≤ 8) : AHD M S o d ns ob nc nf (mI S 72 (40 * f + i)) (mI S 73 (40 * f + i)) (bkP S d f i h) := by
  obtain ⟨hWA, hWV, hWC, hWO, hWF, hWS, hWP, hWE⟩ := id hW
  have hf1 : f < 8 := by have := hWP.2.1; omega
  have hi1 : i < 40 := by omega
  have hLO := (hWP.2.2.2.2.1 f hf0).2.2.2 i (by rw [hl, qcl (by omega)]; exact hn)
  rcases hLO with hc | ⟨hc, a, ha1, ha⟩ | ⟨hc, a, ha1, ha⟩ | ⟨hc, a, ha1, ha⟩ | ⟨hc, a, ha1, ha⟩ | ⟨hc, a, ha1, ha⟩ | ⟨hc, ha⟩
  · have hx := (aw_i ho hR hW hf hf1 hi hi1 he he1 hl hn hn1 hh hh1 rfl hc hr).b (bk_no (d := d) (h := h) hc (by decide) (by decide))
    rw [hc]
    exact hx
  · rw [ha]
    have hx := (aw_k ho hR hW hf hf1 hi hi1 he he1 hl hn hn1 hh hh1 ha hc hr ha1).b (bk_no (d := d) (h := h) hc (by decide) (by decide))
    rw [hc]
    exact hx
  · rw [ha]
    rcases hc with hc | hc | hc | hc | hc
    · have hx := (aw_l ho hR hW hf hf1 hi hi1 he he1 hl hn hn1 hh hh1 ha hc ha1).b (bk_no (d := d) (h := h) hc (by decide) (by decide))
      rw [hc]
      exact hx
    · have hx := (aw_s ho hR hW hf hf1 hi hi1 he he1 hl hn hn1 hh hh1 ha hc ha1).b (bk_no (d := d) (h := h) hc (by decide) (by decide))
      rw [hc]
      exact hx
    · have hx := (aw_g ho hR hW hf hf1 hi hi1 he he1 hl hn hn1 hh hh1 ha hc ha1 hr).b (bk_no (d := d) (h := h) hc (by decide) (by decide))
      rw [hc]
      exact hx
    · have hx := (aw_p ho hR hW hf hf1 hi hi1 he he1 hl hn hn1 hh hh1 ha hc ha1 hr).b (bk_no (d := d) (h := h) hc (by decide) (by decide))
      rw [hc]
      exact hx
    · have hx := (aw_m ho hR hW hf hf1 hi hi1 he he1 hl hn hn1 hh hh1 ha hc ha1 hr).b (bk_no (d := d) (h := h) hc (by decide) (by decide))
      rw [hc]
      exact hx
  · rw [ha]
    rcases hc with hc | hc
    · have hx := (aw_j ho hR hW hf hf1 hi hi1 he he1 hl hn hn1 hh hh1 ha hc ha1).b (b2 := bkP S d f i h) (by unfold bkP; rw [hc, ha, qcl (by omega)]; exact ⟨fun y => ⟨.inl rfl, y⟩, fun y => y.2⟩)
      rw [hc]
      exact hx
    · have hx := (aw_z ho hR hW hf hf1 hi hi1 he he1 hl hn hn1 hh hh1 ha hc ha1).b (b2 := bkP S d f i h) (by unfold bkP; rw [hc, ha, qcl (by omega)]; exact ⟨fun y => ⟨.inr ⟨rfl, y.1⟩, y.2⟩, fun y => ⟨(y.1.resolve_left (by decide)).2, y.2⟩⟩)
      rw [hc]
      exact hx
  · rw [ha]
    have hx := (aw_n ho hR hW hf hf1 hi hi1 he he1 hl hn hn1 hh hh1 ha hc ha1 hr).b (bk_no (d := d) (h := h) hc (by decide) (by decide))
    rw [hc]
    exact hx
  · rw [ha]
    have hx := (aw_c ho hR hW hf hf1 hi hi1 he he1 hl hn hn1 hh hh1 ha hc ha1 hr).b (bk_no (d := d) (h := h) hc (by decide) (by decide))
    rw [hc]
    exact hx
  · rw [ha]
    rcases hc with hc | hc | hc | hc | hc | hc | hc | hc | hc | hc | hc | hc
    · have hx := (aw_u ho hR hW hf hf1 hi hi1 he he1 hl hn hn1 hh hh1 ha hc).b (bk_no (d := d) (h := h) hc (by decide) (by decide))
      rw [hc]
      exact hx
    · have hx := (aw_d ho hR hW hf hf1 hi hi1 he he1 hl hn hn1 hh hh1 ha hc).b (bk_no (d := d) (h := h) hc (by decide) (by decide))
      rw [hc]
      exact hx
    · have hx := (aw_w ho hR hW hf hf1 hi hi1 he he1 hl hn hn1 hh hh1 ha hc hr).b (bk_no (d := d) (h := h) hc (by decide) (by decide))
      rw [hc]
      exact hx
    · have hx := (aw_r ho hR hW hf hf1 hi hi1 he he1 hl hn hn1 hh hh1 ha hc).b (bk_no (d := d) (h := h) hc (by decide) (by decide))
      rw [hc]
      exact hx
    · have hx := (aw_t ho hR hW hf hf1 hi hi1 he he1 hl hn hn1 hh hh1 ha hc).b (bk_no (d := d) (h := h) hc (by decide) (by decide))
      rw [hc]
      exact hx
    · have hx := (aw_add ho hR hW hf hf1 hi hi1 he he1 hl hn hn1 hh hh1 ha hc hr).b (bk_no (d := d) (h := h) hc (by decide) (by decide))
      rw [hc]
      exact hx
    · have hx := (aw_sub ho hR hW hf hf1 hi hi1 he he1 hl hn hn1 hh hh1 ha hc hr).b (bk_no (d := d) (h := h) hc (by decide) (by decide))
      rw [hc]
      exact hx
    · have hx := (aw_mul ho hR hW hf hf1 hi hi1 he he1 hl hn hn1 hh hh1 ha hc hr).b (bk_no (d := d) (h := h) hc (by decide) (by decide))
      rw [hc]
      exact hx
    · have hx := (aw_div ho hR hW hf hf1 hi hi1 he he1 hl hn hn1 hh hh1 ha hc hr).b (bk_no (d := d) (h := h) hc (by decide) (by decide))
      rw [hc]
      exact hx
    · have hx := (aw_rem ho hR hW hf hf1 hi hi1 he he1 hl hn hn1 hh hh1 ha hc hr).b (bk_no (d := d) (h := h) hc (by decide) (by decide))
      rw [hc]
      exact hx
    · have hx := (aw_lt ho hR hW hf hf1 hi hi1 he he1 hl hn hn1 hh hh1 ha hc hr).b (bk_no (d := d) (h := h) hc (by decide) (by decide))
      rw [hc]
      exact hx
    · have hx := (aw_eq ho hR hW hf hf1 hi hi1 he he1 hl hn hn1 hh hh1 ha hc hr).b (bk_no (d := d) (h := h) hc (by decide) (by decide))
      rw [hc]
      exact hx
theorem ahead_e {M S : Mem} {o d ns ob nc nf f i n : Nat} (ho : isO o) (hR : RC M S o d ns) (hW : WW S d ob ns nc nf) (hf : mI S 109 d = nI f) (hf0 : f < nf) (hi : mI S 110 d = nI i) (hi1 : i ≤ 40) (hl : mI S 71 f = nI n) (hn : n ≤ i) : d_X12_why S = some (nI 101, S) ∧ d_X3_failureAhead o M = some (nI 101, M) := by
  have hf1 : f < 8 := by have := hW.2.2.2.2.2.2.1.2.1; omega
  obtain ⟨g1, g2, g3⟩ := hR.2.2.2.2.1.2 d (Nat.le_refl _)
  exact ⟨wy_e hW.1.1 hW.1.2.1 hf hf1 hi hi1 hl hn, cw_e ho hR.2.2.2.2.1.1 hW.1.2.1 (g1.trans hf) hf1 (g2.trans hi) hi1 ((hR.2.2.2.2.2.2.1 f).2.1.trans hl) hn⟩
end MS5
