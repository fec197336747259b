/-! ===== the class against the reference: the machine ===== -/
section MR0
def Lr (k v : Int32) (r : UInt64) (k' : Int32) (l : Int64) : Prop := ∃ n x, Vr k v r k' n x ∧ l = tolV k' n x ∧ (k' = nI 105 ∨ k' = nI 111 ∨ k' = nI 102 ∨ n = nI 0) ∧ isCh k' = True
def RV (M S : Mem) (o : Nat) : Prop := ∀ p, p < 168 → Vr (mI M (o + 2) p) (mI M (o + 3) p) (mD M (o + 4) p) (mI S 105 p) (mI S 106 p) (mD S 107 p)
def RF (M S : Mem) (o : Nat) : Prop := ∀ p, p < 360 → Vr (mI M (o + 2) (168 + p)) (mI M (o + 3) (168 + p)) (mD M (o + 4) (168 + p)) (mI S 113 p) (mI S 114 p) (mD S 115 p)
def RT (M S : Mem) (o : Nat) : Prop := (∀ i, i < 20 → Lr (mI M (o + 2) (528 + i)) (mI M (o + 3) (528 + i)) (mD M (o + 4) (528 + i)) (mI S 116 i) (mL S 117 i)) ∧ Lr (mI M (o + 2) 548) (mI M (o + 3) 548) (mD M (o + 4) 548) (mI S 69 63) (mL S 69 64)
def RO (M S : Mem) (o : Nat) : Prop := mI M o 10 = mI S 69 52 ∧ mI M o 12 = mI S 69 57 ∧ mI M o 11 = mI S 69 59 ∧ ∀ k, k < 60 → mI M (o + 9) k = mI S 112 k
def RA (M S : Mem) (o d : Nat) : Prop := mI M o 9 = nI (d + 1) ∧ ∀ f, f ≤ d → mI M (o + 6) f = mI S 109 f ∧ mI M (o + 7) f = mI S 110 f ∧ mI M (o + 8) f = mI S 111 f
def RS (M S : Mem) (ns : Nat) : Prop := mI M 11 6 = nI ns ∧ (∀ c, c < 5 → mI M 17 c = mI S 78 c) ∧ ∀ s, s < ns → mI M 12 s = mI S 79 s ∧ mI M 13 s = mI S 80 s ∧ (∀ n, n < 6 → mI M 16 (6 * s + n) = mI S 82 (6 * s + n)) ∧ (∀ k, k < 6 → mI M 15 (6 * s + k) = mI S 81 (6 * s + k) ∨ (mI S 80 s).toNatClampNeg ≤ k) ∧ ∀ n, n < 6 → (hM M s n ↔ hasF S s n)
def PR (M S : Mem) : Prop := (∀ i, mI M 3 i = mI S 70 i ∧ mI M 4 i = mI S 71 i ∧ mI M 5 i = mI S 74 i ∧ mI M 6 i = mI S 72 i ∧ mI M 7 i = mI S 73 i ∧ mI M 8 i = mI S 75 i ∧ mI M 9 i = mI S 76 i ∧ mI M 10 i = mI S 77 i) ∧ mI M 2 8 = mI S 69 1 ∧ mI M 2 9 = mI S 69 8
/-- the reference's own order -/
def nn (x : Int32) (b : Nat) : Prop := ∃ n, n < b ∧ x = nI n
def kO (ob : Nat) (k n : Int32) : Prop := k = nI 105 ∨ k = nI 102 ∨ (k = nI 110 ∧ n = nI 0) ∨ (k = nI 111 ∧ nn n ob)
theorem kO_y {ob : Nat} {k n : Int32} (h : kO ob k n) : k = nI 105 ∨ k = nI 111 ∨ k = nI 102 ∨ n = nI 0 := by
  rcases h with h | h | ⟨-, h⟩ | ⟨h, -⟩
  · exact .inl h
  · exact .inr (.inr (.inl h))
  · exact .inr (.inr (.inr h))
  · exact .inr (.inl h)
def WA (S : Mem) (d nf : Nat) : Prop := mI S 69 48 = nI d ∧ d < 12 ∧ ∀ f, f ≤ d → nn (mI S 109 f) nf ∧ nn (mI S 110 f) 41 ∧ nn (mI S 111 f) 9
def WV (S : Mem) (d ob : Nat) : Prop := ∀ f, f ≤ d → ∀ j, j < 6 + (mI S 111 f).toNatClampNeg → kO ob (mI S 105 (14 * f + j)) (mI S 106 (14 * f + j))
def WC (S : Mem) : Prop := (∀ p, p < 168 → isCh (mI S 105 p) = True) ∧ ∀ p, p < 360 → isCh (mI S 113 p) = True
def WO (S : Mem) (ob ns : Nat) : Prop := mI S 69 52 = nI ob ∧ ob ≤ 60 ∧ ∀ k, k < ob → nn (mI S 112 k) ns
def WF (S : Mem) (ob : Nat) : Prop := ∀ k n, k < ob → n < 6 → hasF S (mI S 112 k).toNatClampNeg n → kO ob (mI S 113 (6 * k + n)) (mI S 114 (6 * k + n))
/-- how many names a shape has -/
noncomputable def bI (p : Prop) : Nat := @ite _ p (Classical.propDecidable p) 1 0
noncomputable def cN (S : Mem) (s : Nat) : Nat := bI (hasF S s 0) + bI (hasF S s 1) + bI (hasF S s 2) + bI (hasF S s 3) + bI (hasF S s 4) + bI (hasF S s 5)
def WS (S : Mem) (ns nc : Nat) : Prop := mI S 69 12 = nI ns ∧ ns ≤ 60 ∧ (∀ p, 6 * ns ≤ p → p < 360 → mI S 82 p = -nI 1) ∧ (∀ c, c < nc → ∃ s, s < ns ∧ mI S 78 c = nI s ∧ mI S 80 s = nI 0) ∧ ∀ s, s < ns → mI S 80 s = nI (cN S s) ∧ nn (mI S 79 s) nc ∧ (∀ k, k < cN S s → nn (mI S 81 (6 * s + k)) 6) ∧ ∀ n, n < 6 → mI S 82 (6 * s + n) = -nI 1 ∨ ∃ v, s < v ∧ v < ns ∧ mI S 82 (6 * s + n) = nI v ∧ ∀ m, m < 6 → (hasF S v m ↔ (m = n ∨ hasF S s m))
def LO (nf nc : Nat) (c a : Int32) : Prop := c = nI 105 ∨ (c = nI 107 ∧ nn a 8) ∨ ((c = nI 108 ∨ c = nI 115 ∨ c = nI 103 ∨ c = nI 112 ∨ c = nI 109) ∧ nn a 6) ∨ ((c = nI 106 ∨ c = nI 122) ∧ nn a 40) ∨ (c = nI 110 ∧ nn a nc) ∨ (c = nI 99 ∧ nn a nf) ∨ ((c = nI 117 ∨ c = nI 100 ∨ c = nI 119 ∨ c = nI 114 ∨ c = nI 116 ∨ c = nI 43 ∨ c = nI 45 ∨ c = nI 42 ∨ c = nI 47 ∨ c = nI 37 ∨ c = nI 60 ∨ c = nI 61) ∧ a = nI 0)
def WP (S : Mem) (nf nc : Nat) : Prop := mI S 69 1 = nI nf ∧ nf ≤ 8 ∧ mI S 69 8 = nI nc ∧ WfP S nc ∧ (∀ f, f < nf → nn (mI S 70 f) 4 ∧ nn (mI S 71 f) 41 ∧ (mI S 74 f = -nI 1 ∨ nn (mI S 74 f) 40) ∧ ∀ i, i < (mI S 71 f).toNatClampNeg → LO nf nc (mI S 72 (40 * f + i)) (mI S 73 (40 * f + i))) ∧ ∀ c n, c < nc → n < 6 → mI S 77 (6 * c + n) = -nI 1 ∨ ∃ g, g < nf ∧ mI S 77 (6 * c + n) = nI g ∧ mI S 70 g = nI 1
def WE (S : Mem) : Prop := nn (mI S 69 57) 1001 ∧ nn (mI S 69 59) 21
theorem bI_le (p : Prop) : bI p ≤ 1 := by unfold bI; split <;> omega
theorem bIT {p : Prop} (h : p) : bI p = 1 := if_pos h
theorem bIF {p : Prop} (h : ¬ p) : bI p = 0 := if_neg h
theorem bIc {p q : Prop} (h : p ↔ q) : bI p = bI q := by rw [propext h]
theorem cN_le (S : Mem) (s : Nat) : cN S s ≤ 6 := by
  unfold cN
  have := bI_le (hasF S s 0); have := bI_le (hasF S s 1); have := bI_le (hasF S s 2); have := bI_le (hasF S s 3); have := bI_le (hasF S s 4); have := bI_le (hasF S s 5)
  omega
theorem cN_lt {S : Mem} {s n : Nat} (hn : n < 6) (h : ¬ hasF S s n) : cN S s < 6 := by
  unfold cN
  have := bI_le (hasF S s 0); have := bI_le (hasF S s 1); have := bI_le (hasF S s 2); have := bI_le (hasF S s 3); have := bI_le (hasF S s 4); have := bI_le (hasF S s 5)
  have : n = 0 ∨ n = 1 ∨ n = 2 ∨ n = 3 ∨ n = 4 ∨ n = 5 := by omega
  rcases this with rfl | rfl | rfl | rfl | rfl | rfl <;> (have := bIF h; omega)
theorem nn_cl {x : Int32} {b : Nat} (h : nn x b) (hb : b ≤ 100000) : x = nI x.toNatClampNeg ∧ x.toNatClampNeg < b := by
  obtain ⟨n, h1, rfl⟩ := h
  rw [qcl (by omega)]
  exact ⟨rfl, h1⟩
def RC (M S : Mem) (o d ns : Nat) : Prop := RV M S o ∧ RF M S o ∧ RT M S o ∧ RO M S o ∧ RA M S o d ∧ RS M S ns ∧ PR M S
def WW (S : Mem) (d ob ns nc nf : Nat) : Prop := WA S d nf ∧ WV S d ob ∧ WC S ∧ WO S ob ns ∧ WF S ob ∧ WS S ns nc ∧ WP S nf nc ∧ WE S
/-- a value at q alone, or none, and another height of the frame on top -/
theorem WV_step {S E : Mem} {d nf ob q h h1 : Nat} (hW : WV S d ob) (hA : WA S d nf) (hh : mI S 111 d = nI h) (hE : mI E 111 d = nI h1) (h8 : h ≤ 8) (h18 : h1 ≤ 8) (hoth : ∀ f, f < d → mI E 111 f = mI S 111 f) (hk : ∀ p, p ≠ q → mI E 105 p = mI S 105 p ∧ mI E 106 p = mI S 106 p) (hold : ∀ j, j < 6 + h1 → 14 * d + j ≠ q → j < 6 + h) (hq : kO ob (mI E 105 q) (mI E 106 q)) : WV E d ob := by
  intro f hf j hj
  by_cases e : 14 * f + j = q
  · rw [e]; exact hq
  · obtain ⟨e1, e2⟩ := hk _ e
    rw [e1, e2]
    by_cases hfd : f = d
    · subst hfd
      rw [hE, qcl (by omega)] at hj
      exact hW f hf j (by rw [hh, qcl (by omega)]; exact hold j hj e)
    · rw [hoth f (by omega)] at hj
      exact hW f hf j hj
theorem WA_step {S E : Mem} {d nf i h : Nat} (hA : WA S d nf) (h48 : mI E 69 48 = mI S 69 48) (h109 : ∀ f, mI E 109 f = mI S 109 f) (hi : mI E 110 d = nI i) (hi1 : i < 41) (hh : mI E 111 d = nI h) (hh1 : h < 9) (o110 : ∀ f, f < d → mI E 110 f = mI S 110 f) (o111 : ∀ f, f < d → mI E 111 f = mI S 111 f) : WA E d nf := by
  obtain ⟨a1, a2, a3⟩ := hA
  refine ⟨h48.trans a1, a2, fun f hf => ?_⟩
  obtain ⟨b1, b2, b3⟩ := a3 f hf
  refine ⟨by rw [h109]; exact b1, ?_, ?_⟩
  · by_cases e : f = d
    · subst e; exact ⟨i, hi1, hi⟩
    · rw [o110 f (by omega)]; exact b2
  · by_cases e : f = d
    · subst e; exact ⟨h, hh1, hh⟩
    · rw [o111 f (by omega)]; exact b3
theorem hasF_e {S E : Mem} {s n : Nat} (h80 : mI E 80 s = mI S 80 s) (h81 : ∀ k, k < 6 → mI E 81 (6 * s + k) = mI S 81 (6 * s + k)) (hz : (mI S 80 s).toNatClampNeg ≤ 6) : hasF E s n ↔ hasF S s n := by
  unfold hasF
  rw [h80]
  exact ⟨fun ⟨k, k1, k2⟩ => ⟨k, k1, by rw [← h81 k (by omega)]; exact k2⟩, fun ⟨k, k1, k2⟩ => ⟨k, k1, by rw [h81 k (by omega)]; exact k2⟩⟩
theorem hM_e {M N : Mem} {s n : Nat} (h : mI N 14 s = mI M 14 s) : hM N s n ↔ hM M s n := by unfold hM; rw [h]
theorem hasF_s {S E : Mem} (h80 : ∀ s, mI E 80 s = mI S 80 s) (h81 : ∀ p, mI E 81 p = mI S 81 p) (s n : Nat) : hasF E s n = hasF S s n := by unfold hasF; simp only [h80, h81]
theorem WS_e {S E : Mem} {ns nc : Nat} (h : WS S ns nc) (h12 : mI E 69 12 = mI S 69 12) (h78 : ∀ p, mI E 78 p = mI S 78 p) (h79 : ∀ p, mI E 79 p = mI S 79 p) (h80 : ∀ p, mI E 80 p = mI S 80 p) (h81 : ∀ p, mI E 81 p = mI S 81 p) (h82 : ∀ p, mI E 82 p = mI S 82 p) : WS E ns nc := by
  have e : ∀ s, cN E s = cN S s := fun s => by unfold cN; simp only [hasF_s h80 h81]
  unfold WS at h ⊢
  simp only [h12, h78, h79, h80, h81, h82, e, hasF_s h80 h81]
  exact h
theorem WF_e {S E : Mem} {ob : Nat} (h : WF S ob) (h80 : ∀ p, mI E 80 p = mI S 80 p) (h81 : ∀ p, mI E 81 p = mI S 81 p) (h112 : ∀ p, mI E 112 p = mI S 112 p) (h113 : ∀ p, mI E 113 p = mI S 113 p) (h114 : ∀ p, mI E 114 p = mI S 114 p) : WF E ob := by
  unfold WF at h ⊢
  simp only [h112, h113, h114, hasF_s h80 h81]
  exact h
theorem WP_e {S E : Mem} {nf nc : Nat} (h : WP S nf nc) (h1 : mI E 69 1 = mI S 69 1) (h8 : mI E 69 8 = mI S 69 8) (hp : ∀ a p, 70 ≤ a → a ≤ 77 → mI E a p = mI S a p) : WP E nf nc := by
  unfold WP WfP at h ⊢
  simp only [h1, h8, hp 70 _ (by decide) (by decide), hp 71 _ (by decide) (by decide), hp 72 _ (by decide) (by decide), hp 73 _ (by decide) (by decide), hp 74 _ (by decide) (by decide), hp 76 _ (by decide) (by decide), hp 77 _ (by decide) (by decide)]
  exact h
theorem RS_e {M N S E : Mem} {ns : Nat} (h : RS M S ns) (hM1 : ∀ a p, 11 ≤ a → a ≤ 17 → mI N a p = mI M a p) (h78 : ∀ p, mI E 78 p = mI S 78 p) (h79 : ∀ p, mI E 79 p = mI S 79 p) (h80 : ∀ p, mI E 80 p = mI S 80 p) (h81 : ∀ p, mI E 81 p = mI S 81 p) (h82 : ∀ p, mI E 82 p = mI S 82 p) : RS N E ns := by
  unfold RS hM at h ⊢
  simp only [hM1 11 _ (by decide) (by decide), hM1 12 _ (by decide) (by decide), hM1 13 _ (by decide) (by decide), hM1 14 _ (by decide) (by decide), hM1 15 _ (by decide) (by decide), hM1 16 _ (by decide) (by decide), hM1 17 _ (by decide) (by decide), h78, h79, h80, h81, h82, hasF_s h80 h81]
  exact h
theorem PR_e {M N S E : Mem} (h : PR M S) (hM2 : ∀ a p, 2 ≤ a → a ≤ 10 → mI N a p = mI M a p) (h1 : mI E 69 1 = mI S 69 1) (h8 : mI E 69 8 = mI S 69 8) (hp : ∀ a p, 70 ≤ a → a ≤ 77 → mI E a p = mI S a p) : PR N E := by
  unfold PR at h ⊢
  simp only [h1, h8, hp 70 _ (by decide) (by decide), hp 71 _ (by decide) (by decide), hp 72 _ (by decide) (by decide), hp 73 _ (by decide) (by decide), hp 74 _ (by decide) (by decide), hp 75 _ (by decide) (by decide), hp 76 _ (by decide) (by decide), hp 77 _ (by decide) (by decide),
    hM2 2 _ (by decide) (by decide), hM2 3 _ (by decide) (by decide), hM2 4 _ (by decide) (by decide), hM2 5 _ (by decide) (by decide), hM2 6 _ (by decide) (by decide), hM2 7 _ (by decide) (by decide), hM2 8 _ (by decide) (by decide), hM2 9 _ (by decide) (by decide), hM2 10 _ (by decide) (by decide)]
  exact h
theorem WE_e {S E : Mem} {e : Nat} (h : WE S) (he : mI E 69 57 = nI e) (he1 : e < 1001) (h59 : mI E 69 59 = mI S 69 59) : WE E := ⟨⟨e, he1, he⟩, by rw [h59]; exact h.2⟩
end MR0
