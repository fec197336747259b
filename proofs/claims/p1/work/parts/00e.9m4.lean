/-! ===== histories of all traces, and of what is being recorded ===== -/
section MT4
/-- the same but for caches -/
def CW (A B : Mem) : Prop := (∀ a j, (a < 83 ∨ 86 < a) → mI B a j = mI A a j) ∧ (∀ a j, mD B a j = mD A a j) ∧ ∀ a j, mL B a j = mL A a j
theorem CW.refl (A : Mem) : CW A A := ⟨fun _ _ _ => rfl, fun _ _ => rfl, fun _ _ => rfl⟩
theorem CW.trans {A B C : Mem} (h : CW A B) (k : CW B C) : CW A C := ⟨fun a j x => (k.1 a j x).trans (h.1 a j x), fun a j => (k.2.1 a j).trans (h.2.1 a j), fun a j => (k.2.2 a j).trans (h.2.2 a j)⟩
theorem hN_cw {A B : Mem} (h : CW A B) (f : Nat) : hN B f = hN A f := by unfold hN; rw [h.1 111 f (by omega)]
theorem vS_cw {A B : Mem} (h : CW A B) (p : Nat) : vS B p = vS A p := by unfold vS; rw [h.1 105 p (by omega), h.1 106 p (by omega), h.2.1 107 p]
theorem sat_cw {S F R : Mem} {bS bR n oS oR v : Nat} {eS eR : Nat → Nat} {val rval : Nat → Vl} (hs : Sat S F bS bR n eS eR oS oR v val rval) (h : CW F R) : Sat S R bS bR n eS eR oS oR v val rval := by
  obtain ⟨⟨f1, f2, f3, f4⟩, s1, s2, s3⟩ := hs
  have b := h.1
  refine ⟨⟨f1, (b 69 48 (by omega)).trans f2, f3, fun j hj => ?_⟩, (b 69 83 (by omega)).trans s1, fun j k l hj hc => ?_, fun u hu => ?_⟩
  · rw [b 109 _ (by omega), b 110 _ (by omega), hN_cw h]; exact f4 j hj
  · unfold Cv at hc
    rw [hN_cw h] at hc
    obtain ⟨u, u1, u2, u3, u4⟩ := s2 j k l hj hc
    exact ⟨u, u1, (b 108 _ (by omega)).trans u2, u3, (vS_cw h _).trans u4⟩
  · exact Kn_e (s3 u hu) (b 123 u (by omega)) (b 124 u (by omega)) (b 125 u (by omega)) (b 126 u (by omega)) (Nat.le_refl _) (Nat.le_refl _) (fun _ _ => rfl) (fun q _ => b 112 q (by omega))
theorem dn_e {A B : Mem} (h : ∀ f, hN B f = hN A f) {b f k p : Nat} : dn B b f k p ↔ dn A b f k p := by
  unfold dn
  simp only [h]
theorem invr_self {R T : Mem} {b f k v : Nat} {φ : Nat → Nat} (h : INVR R T b f k v φ) : INVR T T b f k v φ := by
  obtain ⟨i1, i2, i3, i4, i5, i6, i7⟩ := h
  have e : ∀ f, hN T f = hN R f := fun f => by unfold hN; rw [i1 111 f (by omega) (by omega) (by omega)]
  exact ⟨fun _ _ _ _ _ => rfl, fun _ _ => ⟨rfl, rfl⟩, rfl, i4, i5, fun u hu => ⟨(dn_e e).mpr (i6 u hu).1, (i6 u hu).2⟩, fun q hq => i7 q ((dn_e e).mp hq)⟩
theorem invr_cw {T T2 : Mem} {b f k v : Nat} {φ : Nat → Nat} (h : INVR T T b f k v φ) (hc : CW T T2) : INVR T2 T2 b f k v φ := by
  obtain ⟨i1, i2, i3, i4, i5, i6, i7⟩ := h
  have c := hc.1
  have e : ∀ f, hN T2 f = hN T f := hN_cw hc
  refine ⟨fun _ _ _ _ _ => rfl, fun _ _ => ⟨rfl, rfl⟩, rfl, (c 69 83 (by omega)).trans i4, i5, fun u hu => ?_, fun q hq => i7 q ((dn_e e).mp hq)⟩
  obtain ⟨j1, j2, j3, j4, j5, j6⟩ := i6 u hu
  exact ⟨(dn_e e).mpr j1, (c 108 _ (by omega)).trans j2, (c 123 _ (by omega)).trans j3, (c 124 _ (by omega)).trans j4, (c 125 _ (by omega)).trans j5, (c 126 _ (by omega)).trans j6⟩
/-- where a recording begins -/
def BEG (T : Mem) (b n : Nat) : Prop := (∃ v φ, INVR T T b (b + n + 1) 0 v φ ∧ v ≤ 168) ∧ mI T 69 48 = nI (b + n) ∧ b + n < 12
/-- the history of trace t -/
def HIT (S : Mem) (t : Nat) (H G F : Nat → Mem) (b : Nat) (fg : Nat → Nat) : Prop := ∃ st gm n, (mI S 90 t = nI st ∧ 1 ≤ st ∧ st ≤ 30) ∧ (mI S 92 t = nI gm ∧ gm ≤ 120) ∧ (fg 0 = 0 ∧ fg st = gm ∧ ∀ k, k < st → fg k ≤ fg (k + 1)) ∧ (∀ k, k < st → HST S t b k fg (H k) (G k) (F k) ∧ CW (F k) (H (k + 1))) ∧ BEG (H 0) b n ∧ mI (H st) 69 48 = nI b
/-- the histories of all traces that are there -/
def HIS (S : Mem) (cnt : Nat) (H G F : Nat → Nat → Mem) (b : Nat → Nat) (fg : Nat → Nat → Nat) : Prop := (∀ t, t < cnt → mI S 89 t = nI 1 → HIT S t (H t) (G t) (F t) (b t) (fg t)) ∧ (∀ r, r < cnt → mI S 89 r = nI 1 → mI S 93 r = nI r → mI (H r 0) 69 48 = nI (b r) ∧ ∃ f i, f < 8 ∧ i < 40 ∧ mI (H r 0) 109 (b r) = nI f ∧ mI (H r 0) 110 (b r) = nI i ∧ mI S 94 r = nI (40 * f + i)) ∧ (∀ t r st, t < cnt → mI S 89 t = nI 1 → r ≤ t → mI S 93 t = nI r → mI S 90 t = nI st → st ≤ 30 → FRS (H t st) (H r 0) (b t) (b r) 0) ∧ ∀ t k g st, t < cnt → mI S 89 t = nI 1 → mI S 90 t = nI st → st ≤ 30 → k < st → fg t k ≤ g → g < fg t (k + 1) → mI S 104 (120 * t + g) = -nI 1 ∨ ∃ s n, t < s ∧ s < cnt ∧ mI S 104 (120 * t + g) = nI s ∧ mI S 93 s = mI S 93 t ∧ mI (H t k) 69 48 = nI (b t + n) ∧ n < 12 ∧ FRS (H t k) (H s 0) (b t) (b s) n ∧ mI (H s 0) 69 48 = nI (b s + n)
theorem HIT.mono {S S2 : Mem} {t b : Nat} {H G F : Nat → Mem} {fg : Nat → Nat} (h : HIT S t H G F b fg) (h90 : mI S2 90 t = mI S 90 t) (h92 : mI S2 92 t = mI S 92 t) (hst : ∀ k R G F, HST S t b k fg R G F → HST S2 t b k fg R G F) : HIT S2 t H G F b fg := by
  obtain ⟨st, gm, n, ⟨a1, a2⟩, ⟨b1, b2⟩, h3, h4, h5⟩ := h
  exact ⟨st, gm, n, ⟨h90.trans a1, a2⟩, ⟨h92.trans b1, b2⟩, h3, fun k hk => ⟨hst k _ _ _ (h4 k hk).1, (h4 k hk).2⟩, h5⟩
theorem HIS.mono {S S2 : Mem} {cnt : Nat} {H G F : Nat → Nat → Mem} {b : Nat → Nat} {fg : Nat → Nat → Nat} (h : HIS S cnt H G F b fg) (hA : ∀ a j, a = 90 ∨ a = 92 ∨ a = 93 ∨ a = 94 ∨ a = 104 → mI S2 a j = mI S a j) (h89 : ∀ t, t < cnt → mI S2 89 t = nI 1 → mI S 89 t = nI 1) (hst : ∀ t k R G F, t < cnt → mI S2 89 t = nI 1 → HST S t (b t) k (fg t) R G F → HST S2 t (b t) k (fg t) R G F) : HIS S2 cnt H G F b fg := by
  obtain ⟨h1, h2, h3, h4⟩ := h
  refine ⟨fun t ht h8 => (h1 t ht (h89 t ht h8)).mono (hA 90 t (by omega)) (hA 92 t (by omega)) (fun k R G F x => hst t k R G F ht h8 x), fun r hr h8 h9 => ?_, fun t r st ht h8 hr h9 h0 h00 => ?_, fun t k g st ht h8 h0 h00 hk g1 g2 => ?_⟩
  · rw [hA 94 r (by omega)]
    exact h2 r hr (h89 r hr h8) ((hA 93 r (by omega)).symm.trans h9)
  · exact h3 t r st ht (h89 t ht h8) hr ((hA 93 t (by omega)).symm.trans h9) ((hA 90 t (by omega)).symm.trans h0) h00
  · rw [hA 104 _ (by omega), hA 93 t (by omega)]
    rcases h4 t k g st ht (h89 t ht h8) ((hA 90 t (by omega)).symm.trans h0) h00 hk g1 g2 with x | ⟨s, n, y1, y2, y3, y4, y5⟩
    · exact .inl x
    · exact .inr ⟨s, n, y1, y2, y3, by rw [hA 93 s (by omega)]; exact y4, y5⟩
/-- a step of a run keeps them -/
theorem hst_grw {S S2 : Mem} {t b k : Nat} {fg : Nat → Nat} {R G F : Mem} {ns nc nf ns2 : Nat} (h : HST S t b k fg R G F) (hA : ∀ a j, a = 91 ∨ (96 < a ∧ a < 101) → mI S2 a j = mI S a j) (hS : WS S ns nc) (hP : WP S nf nc) (hT : GRW S S2 ns ns2) : HST S2 t b k fg R G F := hs_grw (d := 0) (ob := 0) h (hA 91 _ (by omega)) (fun g _ _ => ⟨hA 97 _ (by omega), hA 98 _ (by omega), hA 99 _ (by omega), hA 100 _ (by omega)⟩) hS hP hT
theorem his_grw {S S2 : Mem} {cnt : Nat} {H G F : Nat → Nat → Mem} {b : Nat → Nat} {fg : Nat → Nat → Nat} {ns nc nf ns2 : Nat} (h : HIS S cnt H G F b fg) (hA : ∀ a j, a = 90 ∨ a = 91 ∨ a = 92 ∨ a = 93 ∨ a = 94 ∨ (96 < a ∧ a < 101) ∨ a = 104 → mI S2 a j = mI S a j) (h89 : ∀ t, t < cnt → mI S2 89 t = nI 1 → mI S 89 t = nI 1) (hS : WS S ns nc) (hP : WP S nf nc) (hT : GRW S S2 ns ns2) : HIS S2 cnt H G F b fg := h.mono (fun a j x => hA a j (by omega)) h89 (fun t k R G F _ _ x => hst_grw x (fun a j y => hA a j (by omega)) hS hP hT)
/-- what has been recorded so far -/
def RHI (S : Mem) (b k : Nat) (fg : Nat → Nat) (H G F : Nat → Mem) : Prop := (∀ i, i < k → HSR S b i fg (H i) (G i) (F i) ∧ CW (F i) (H (i + 1))) ∧ (fg 0 = 0 ∧ ∀ i, i < k → fg i ≤ fg (i + 1)) ∧ (∃ n, BEG (H 0) b n) ∧ H k = S
theorem rhi_begin {T : Mem} {b n : Nat} (h : BEG T b n) : RHI T b 0 (fun _ => 0) (fun _ => T) (fun _ => T) (fun _ => T) := ⟨fun i hi => absurd hi (by omega), ⟨rfl, fun i hi => absurd hi (by omega)⟩, ⟨n, h⟩, rfl⟩
theorem beg_cw {T T2 : Mem} {b n : Nat} (h : BEG T b n) (hc : CW T T2) : BEG T2 b n := by
  obtain ⟨⟨v, φ, h1, h2⟩, h3, h4⟩ := h
  exact ⟨⟨v, φ, invr_cw h1 hc, h2⟩, (hc.1 69 48 (by omega)).trans h3, h4⟩
theorem hsr_fg {S : Mem} {b k : Nat} {fg fg2 : Nat → Nat} {R G F : Mem} (h : HSR S b k fg R G F) (h1 : fg2 k = fg k) (h2 : fg2 (k + 1) = fg (k + 1)) : HSR S b k fg2 R G F := by
  unfold HSR HS0 at h ⊢
  rw [h1, h2]
  exact h
theorem hsr_grw {S S2 : Mem} {b k : Nat} {fg : Nat → Nat} {R G F : Mem} {ns nc nf ns2 : Nat} (h : HSR S b k fg R G F) (h118 : mI S2 118 k = mI S 118 k) (hA : ∀ a j, 118 < a → a < 123 → j < fg (k + 1) → mI S2 a j = mI S a j) (hS : WS S ns nc) (hP : WP S nf nc) (hT : GRW S S2 ns ns2) : HSR S2 b k fg R G F := hs_grw (d := 0) (ob := 0) h h118 (fun g _ h2 => ⟨hA 119 _ (by omega) (by omega) h2, hA 120 _ (by omega) (by omega) h2, hA 121 _ (by omega) (by omega) h2, hA 122 _ (by omega) (by omega) h2⟩) hS hP hT
theorem grw_sb {S E : Mem} {ns : Nat} (h : ns ≤ 60) (k : ∀ a j, 68 < a → a < 83 → (a ≠ 69 ∨ j = 1 ∨ j = 8 ∨ j = 12) → mI E a j = mI S a j) : GRW S E ns ns := ⟨fun a j x y => k a j (by omega) (by omega) (by omega), k 69 1 (by omega) (by omega) (by omega), k 69 8 (by omega) (by omega) (by omega), Nat.le_refl _, h, fun x => (k 69 12 (by omega) (by omega) (by omega)).trans x, fun s _ => ⟨k 79 s (by omega) (by omega) (by omega), k 80 s (by omega) (by omega) (by omega), fun i _ => k 81 _ (by omega) (by omega) (by omega)⟩, fun s n _ _ => .inl (k 82 _ (by omega) (by omega) (by omega))⟩
end MT4
