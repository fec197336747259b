/-! ===== setters: which code is allowed ===== -/
section MW4
def LTS : List Int32 := [105, 107, 108, 115, 117, 100, 43, 45, 42, 47, 37, 60, 119, 61, 106, 122, 110, 103, 112, 99, 109, 114, 116]
theorem xi_F (x : Int32) : ∀ (l : List Int32) (k : Nat), k + l.length < 2147483648 → ((0 : Int32) ≤ xIdxF x l k ↔ x ∈ l) := by
  intro l
  induction l with
  | nil => intro k _; exact ⟨fun h => absurd (show (0 : Int32) ≤ -1 from h) (by decide), fun h => by cases h⟩
  | cons b t ih =>
    intro k hk
    have hl : (b :: t).length = t.length + 1 := rfl
    unfold xIdxF
    by_cases q : b = x
    · rw [if_pos q, l_0]
      exact ⟨fun _ => by rw [q]; exact List.mem_cons_self, fun _ => of_eq_true (qleT (by omega) (by omega))⟩
    · rw [if_neg q, ih (k + 1) (by omega)]
      exact ⟨fun h => List.mem_cons_of_mem _ h, fun h => by
        rcases List.mem_cons.mp h with h | h
        · exact absurd h.symm q
        · exact h⟩
theorem xi_0 (x : Int32) : (0 : Int32) ≤ xIdx 0 x ↔ x ∈ LTS := xi_F x LTS 0 (by decide)
def bdF (nf nc : Nat) (c : Int32) : Nat := if c = (99 : Int32) then nf else if c = (103 : Int32) ∨ c = (109 : Int32) ∨ c = (112 : Int32) then 6 else if c = (106 : Int32) ∨ c = (122 : Int32) then 40 else if c = (107 : Int32) then 8 else if c = (108 : Int32) ∨ c = (115 : Int32) then 6 else if c = (110 : Int32) then nc else 1
theorem bdF_le {nf nc : Nat} (h1 : nf ≤ 8) (h2 : nc ≤ 5) (c : Int32) : bdF nf nc c ≤ 40 := by
  unfold bdF
  repeat' split
  all_goals omega
theorem c_bound {M : Mem} {nf nc : Nat} (h8 : mI M 2 8 = nI nf) (h9 : mI M 2 9 = nI nc) (x : Int32) : d_X5_operandBound x M = some (nI (bdF nf nc x), M) := by
  unfold d_X5_operandBound bdF
  repeat' split
  all_goals first | rfl | (rw [h8]; done) | (rw [h9]; done) | skip
theorem c_allows {M : Mem} {nf nc : Nat} (h8 : mI M 2 8 = nI nf) (h9 : mI M 2 9 = nI nc) (h1 : nf ≤ 8) (h2 : nc ≤ 5) (x1 x2 : Int32) : d_X5_allowsOperand x1 x2 M = some (pB (x1 = (105 : Int32) ∨ nn x2 (bdF nf nc x1)), M) := by
  have hb := bdF_le h1 h2 x1
  unfold d_X5_allowsOperand
  by_cases q : x1 = (105 : Int32)
  · rw [if_pos q, pBT (.inl q)]; rfl
  · rw [if_neg q]
    rcases idx_c x2 (bdF nf nc x1) (by omega) with ⟨k, hk, rfl⟩ | hx
    · rw [if_neg (nn0 k (by omega)), c_bound h8 h9]
      simp only [obind]
      rw [if_neg (of_eq_false (qleF hk (by omega))), pBT (.inr ⟨k, hk, rfl⟩)]
      rfl
    · rw [pBF (fun z => by
        rcases z with z | ⟨k, hk, rfl⟩
        · exact q z
        · rcases hx with c | ⟨k2, a1, a2, a3⟩
          · exact nn0 k (by omega) c
          · have := qinj (by omega) a1 a3; omega)]
      rcases hx with c | ⟨k, a1, a2, rfl⟩
      · rw [if_pos c]; rfl
      · rw [if_neg (nn0 k a1), c_bound h8 h9]
        simp only [obind]
        rw [if_pos (of_eq_true (qleT a2 a1))]
        rfl
theorem r_in {S : Mem} {n : Nat} (hn : n < 2147483648) (x : Int32) : d_X12_in x (0 : Int32) (nI n - (1 : Int32)) S = some (pB (nn x n), S) := by
  rcases idx_c x n hn with ⟨k, hk, rfl⟩ | hx
  · rw [in_T hk hn, pBT ⟨k, hk, rfl⟩]
  · rw [in_F hn hx, pBF (fun z => by
      obtain ⟨k, hk, rfl⟩ := z
      rcases hx with c | ⟨k2, a1, a2, a3⟩
      · exact nn0 k (by omega) c
      · have := qinj (by omega) a1 a3; omega)]
theorem pB_bo (p : Prop) : isBo (pB p) := by
  by_cases q : p
  · rw [pBT q]; exact .inr rfl
  · rw [pBF q]; exact .inl rfl
theorem pB_c {p q : Prop} (h : p ↔ q) : pB p = pB q := by rw [propext h]
def CDK (nf nc : Nat) (x1 x2 : Int32) : Prop := x1 ∈ LTS ∧ (x1 = (105 : Int32) ∨ nn x2 (bdF nf nc x1))
theorem nn_1 (x : Int32) : nn x 1 ↔ x = (0 : Int32) := by
  refine ⟨fun h => ?_, fun e => ⟨0, by omega, e⟩⟩
  obtain ⟨k, hk, e⟩ := h
  obtain rfl : k = 0 := by omega
  exact e
theorem r_157 (x2 : Int32) (S : Mem) : d_X12_isCode_152 x2 S = some (pB (nn x2 1), S) := by
  unfold d_X12_isCode_152 d_X12_isCode_157
  rw [if_neg (by decide)]
  by_cases q : x2 = (0 : Int32)
  · rw [if_pos q, pBT ((nn_1 x2).mpr q)]; rfl
  · rw [if_neg q, pBF (fun z => q ((nn_1 x2).mp z))]; rfl
theorem r_code {S : Mem} {nf nc : Nat} (hf : mI S 69 1 = nI nf) (hc : mI S 69 8 = nI nc) (h1 : nf ≤ 8) (h2 : nc ≤ 5) (x1 x2 : Int32) : d_X12_isCode x1 x2 S = some (pB (CDK nf nc x1 x2), S) := by
  unfold d_X12_isCode
  by_cases q105 : x1 = (105 : Int32)
  · rw [if_pos q105]
    subst q105
    rw [pBT ⟨by decide, .inl rfl⟩]
    rfl
  rw [if_neg q105]
  by_cases q107 : x1 = (107 : Int32)
  · rw [if_pos q107]
    subst q107
    have hk : CDK nf nc (107 : Int32) x2 ↔ nn x2 8 := ⟨fun h => by
      rcases h.2 with h | h
      · exact absurd h (by decide)
      · exact h, fun h => ⟨by decide, .inr h⟩⟩
    rw [pB_c hk]
    rw [show (7 : Int32) = nI 8 - (1 : Int32) by decide, r_in (by omega)]
    simp only [obind]
    exact okk_pos (pB_bo _)
  rw [if_neg q107]
  by_cases q108 : x1 = (108 : Int32)
  · rw [if_pos q108]
    subst q108
    have hk : CDK nf nc (108 : Int32) x2 ↔ nn x2 6 := ⟨fun h => by
      rcases h.2 with h | h
      · exact absurd h (by decide)
      · exact h, fun h => ⟨by decide, .inr h⟩⟩
    rw [pB_c hk]
    unfold d_X12_isCode_52
    rw [e5m, r_in (by omega)]
    simp only [obind]
    exact okk_pos (pB_bo _)
  rw [if_neg q108]
  by_cases q115 : x1 = (115 : Int32)
  · rw [if_pos q115]
    subst q115
    have hk : CDK nf nc (115 : Int32) x2 ↔ nn x2 6 := ⟨fun h => by
      rcases h.2 with h | h
      · exact absurd h (by decide)
      · exact h, fun h => ⟨by decide, .inr h⟩⟩
    rw [pB_c hk]
    unfold d_X12_isCode_52
    rw [e5m, r_in (by omega)]
    simp only [obind]
    exact okk_pos (pB_bo _)
  rw [if_neg q115]
  by_cases q103 : x1 = (103 : Int32)
  · rw [if_pos q103]
    subst q103
    have hk : CDK nf nc (103 : Int32) x2 ↔ nn x2 6 := ⟨fun h => by
      rcases h.2 with h | h
      · exact absurd h (by decide)
      · exact h, fun h => ⟨by decide, .inr h⟩⟩
    rw [pB_c hk]
    unfold d_X12_isCode_52
    rw [e5m, r_in (by omega)]
    simp only [obind]
    exact okk_pos (pB_bo _)
  rw [if_neg q103]
  by_cases q112 : x1 = (112 : Int32)
  · rw [if_pos q112]
    subst q112
    have hk : CDK nf nc (112 : Int32) x2 ↔ nn x2 6 := ⟨fun h => by
      rcases h.2 with h | h
      · exact absurd h (by decide)
      · exact h, fun h => ⟨by decide, .inr h⟩⟩
    rw [pB_c hk]
    unfold d_X12_isCode_52
    rw [e5m, r_in (by omega)]
    simp only [obind]
    exact okk_pos (pB_bo _)
  rw [if_neg q112]
  by_cases q109 : x1 = (109 : Int32)
  · rw [if_pos q109]
    subst q109
    have hk : CDK nf nc (109 : Int32) x2 ↔ nn x2 6 := ⟨fun h => by
      rcases h.2 with h | h
      · exact absurd h (by decide)
      · exact h, fun h => ⟨by decide, .inr h⟩⟩
    rw [pB_c hk]
    unfold d_X12_isCode_52
    rw [e5m, r_in (by omega)]
    simp only [obind]
    exact okk_pos (pB_bo _)
  rw [if_neg q109]
  by_cases q106 : x1 = (106 : Int32)
  · rw [if_pos q106]
    subst q106
    have hk : CDK nf nc (106 : Int32) x2 ↔ nn x2 40 := ⟨fun h => by
      rcases h.2 with h | h
      · exact absurd h (by decide)
      · exact h, fun h => ⟨by decide, .inr h⟩⟩
    rw [pB_c hk]
    unfold d_X12_isCode_71
    rw [e39, r_in (by omega)]
    simp only [obind]
    exact okk_pos (pB_bo _)
  rw [if_neg q106]
  by_cases q122 : x1 = (122 : Int32)
  · rw [if_pos q122]
    subst q122
    have hk : CDK nf nc (122 : Int32) x2 ↔ nn x2 40 := ⟨fun h => by
      rcases h.2 with h | h
      · exact absurd h (by decide)
      · exact h, fun h => ⟨by decide, .inr h⟩⟩
    rw [pB_c hk]
    unfold d_X12_isCode_71
    rw [e39, r_in (by omega)]
    simp only [obind]
    exact okk_pos (pB_bo _)
  rw [if_neg q122]
  by_cases q110 : x1 = (110 : Int32)
  · rw [if_pos q110]
    subst q110
    have hk : CDK nf nc (110 : Int32) x2 ↔ nn x2 nc := ⟨fun h => by
      rcases h.2 with h | h
      · exact absurd h (by decide)
      · exact h, fun h => ⟨by decide, .inr h⟩⟩
    rw [pB_c hk]
    rw [hc, r_in (by omega)]
    simp only [obind]
    exact okk_pos (pB_bo _)
  rw [if_neg q110]
  by_cases q99 : x1 = (99 : Int32)
  · rw [if_pos q99]
    subst q99
    have hk : CDK nf nc (99 : Int32) x2 ↔ nn x2 nf := ⟨fun h => by
      rcases h.2 with h | h
      · exact absurd h (by decide)
      · exact h, fun h => ⟨by decide, .inr h⟩⟩
    rw [pB_c hk]
    rw [hf, r_in (by omega)]
    simp only [obind]
    exact okk_pos (pB_bo _)
  rw [if_neg q99]
  by_cases q117 : x1 = (117 : Int32)
  · rw [if_pos q117]
    subst q117
    have hk : CDK nf nc (117 : Int32) x2 ↔ nn x2 1 := ⟨fun h => by
      rcases h.2 with h | h
      · exact absurd h (by decide)
      · exact h, fun h => ⟨by decide, .inr h⟩⟩
    rw [pB_c hk]
    exact r_157 x2 S
  rw [if_neg q117]
  by_cases q100 : x1 = (100 : Int32)
  · rw [if_pos q100]
    subst q100
    have hk : CDK nf nc (100 : Int32) x2 ↔ nn x2 1 := ⟨fun h => by
      rcases h.2 with h | h
      · exact absurd h (by decide)
      · exact h, fun h => ⟨by decide, .inr h⟩⟩
    rw [pB_c hk]
    exact r_157 x2 S
  rw [if_neg q100]
  by_cases q119 : x1 = (119 : Int32)
  · rw [if_pos q119]
    subst q119
    have hk : CDK nf nc (119 : Int32) x2 ↔ nn x2 1 := ⟨fun h => by
      rcases h.2 with h | h
      · exact absurd h (by decide)
      · exact h, fun h => ⟨by decide, .inr h⟩⟩
    rw [pB_c hk]
    exact r_157 x2 S
  rw [if_neg q119]
  by_cases q114 : x1 = (114 : Int32)
  · rw [if_pos q114]
    subst q114
    have hk : CDK nf nc (114 : Int32) x2 ↔ nn x2 1 := ⟨fun h => by
      rcases h.2 with h | h
      · exact absurd h (by decide)
      · exact h, fun h => ⟨by decide, .inr h⟩⟩
    rw [pB_c hk]
    exact r_157 x2 S
  rw [if_neg q114]
  by_cases q116 : x1 = (116 : Int32)
  · rw [if_pos q116]
    subst q116
    have hk : CDK nf nc (116 : Int32) x2 ↔ nn x2 1 := ⟨fun h => by
      rcases h.2 with h | h
      · exact absurd h (by decide)
      · exact h, fun h => ⟨by decide, .inr h⟩⟩
    rw [pB_c hk]
    exact r_157 x2 S
  rw [if_neg q116]
  rw [m_isPair]
  simp only [obind]
  by_cases q : isPr x1
  · rw [pBT q, if_neg n1z, r_157]
    have hk : CDK nf nc x1 x2 ↔ nn x2 1 := by
      unfold isPr at q
      rcases q with rfl | rfl | rfl | rfl | rfl | rfl | rfl
      all_goals exact ⟨fun h => by
        rcases h.2 with h | h
        · exact absurd h (by decide)
        · exact h, fun h => ⟨by decide, .inr h⟩⟩
    rw [pB_c hk]
  · rw [pBF q, if_pos z00]
    have hn : ¬ CDK nf nc x1 x2 := fun h => by
      have h3 := h.1
      unfold LTS at h3
      simp only [List.mem_cons, List.not_mem_nil, or_false] at h3
      unfold isPr at q
      rcases h3 with rfl | rfl | rfl | rfl | rfl | rfl | rfl | rfl | rfl | rfl | rfl | rfl | rfl | rfl | rfl | rfl | rfl | rfl | rfl | rfl | rfl | rfl | rfl
      all_goals first | (exact absurd rfl (by assumption)) | (exact q (by decide))
    rw [pBF hn]
    rfl
theorem cdk_lo {nf nc : Nat} {x1 x2 : Int32} (h : CDK nf nc x1 x2) : LO nf nc x1 x2 := by
  obtain ⟨h1, h2⟩ := h
  unfold LTS at h1
  simp only [List.mem_cons, List.not_mem_nil, or_false] at h1
  unfold LO
  rcases h1 with rfl | rfl | rfl | rfl | rfl | rfl | rfl | rfl | rfl | rfl | rfl | rfl | rfl | rfl | rfl | rfl | rfl | rfl | rfl | rfl | rfl | rfl | rfl
  · exact .inl rfl
  · exact .inr (.inl ⟨rfl, h2.resolve_left (by decide)⟩)
  · exact .inr (.inr (.inl ⟨.inl rfl, h2.resolve_left (by decide)⟩))
  · exact .inr (.inr (.inl ⟨.inr (.inl rfl), h2.resolve_left (by decide)⟩))
  · exact .inr (.inr (.inr (.inr (.inr (.inr ⟨.inl rfl, (nn_1 x2).mp (h2.resolve_left (by decide))⟩)))))
  · exact .inr (.inr (.inr (.inr (.inr (.inr ⟨.inr (.inl rfl), (nn_1 x2).mp (h2.resolve_left (by decide))⟩)))))
  · exact .inr (.inr (.inr (.inr (.inr (.inr ⟨.inr (.inr (.inr (.inr (.inr (.inl rfl))))), (nn_1 x2).mp (h2.resolve_left (by decide))⟩)))))
  · exact .inr (.inr (.inr (.inr (.inr (.inr ⟨.inr (.inr (.inr (.inr (.inr (.inr (.inl rfl)))))), (nn_1 x2).mp (h2.resolve_left (by decide))⟩)))))
  · exact .inr (.inr (.inr (.inr (.inr (.inr ⟨.inr (.inr (.inr (.inr (.inr (.inr (.inr (.inl rfl))))))), (nn_1 x2).mp (h2.resolve_left (by decide))⟩)))))
  · exact .inr (.inr (.inr (.inr (.inr (.inr ⟨.inr (.inr (.inr (.inr (.inr (.inr (.inr (.inr (.inl rfl)))))))), (nn_1 x2).mp (h2.resolve_left (by decide))⟩)))))
  · exact .inr (.inr (.inr (.inr (.inr (.inr ⟨.inr (.inr (.inr (.inr (.inr (.inr (.inr (.inr (.inr (.inl rfl))))))))), (nn_1 x2).mp (h2.resolve_left (by decide))⟩)))))
  · exact .inr (.inr (.inr (.inr (.inr (.inr ⟨.inr (.inr (.inr (.inr (.inr (.inr (.inr (.inr (.inr (.inr (.inl rfl)))))))))), (nn_1 x2).mp (h2.resolve_left (by decide))⟩)))))
  · exact .inr (.inr (.inr (.inr (.inr (.inr ⟨.inr (.inr (.inl rfl)), (nn_1 x2).mp (h2.resolve_left (by decide))⟩)))))
  · exact .inr (.inr (.inr (.inr (.inr (.inr ⟨.inr (.inr (.inr (.inr (.inr (.inr (.inr (.inr (.inr (.inr (.inr (rfl))))))))))), (nn_1 x2).mp (h2.resolve_left (by decide))⟩)))))
  · exact .inr (.inr (.inr (.inl ⟨.inl rfl, h2.resolve_left (by decide)⟩)))
  · exact .inr (.inr (.inr (.inl ⟨.inr rfl, h2.resolve_left (by decide)⟩)))
  · exact .inr (.inr (.inr (.inr (.inl ⟨rfl, h2.resolve_left (by decide)⟩))))
  · exact .inr (.inr (.inl ⟨.inr (.inr (.inl rfl)), h2.resolve_left (by decide)⟩))
  · exact .inr (.inr (.inl ⟨.inr (.inr (.inr (.inl rfl))), h2.resolve_left (by decide)⟩))
  · exact .inr (.inr (.inr (.inr (.inr (.inl ⟨rfl, h2.resolve_left (by decide)⟩)))))
  · exact .inr (.inr (.inl ⟨.inr (.inr (.inr (.inr rfl))), h2.resolve_left (by decide)⟩))
  · exact .inr (.inr (.inr (.inr (.inr (.inr ⟨.inr (.inr (.inr (.inl rfl))), (nn_1 x2).mp (h2.resolve_left (by decide))⟩)))))
  · exact .inr (.inr (.inr (.inr (.inr (.inr ⟨.inr (.inr (.inr (.inr (.inl rfl)))), (nn_1 x2).mp (h2.resolve_left (by decide))⟩)))))
end MW4
