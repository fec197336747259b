/-! ===== what a recording knows holds in a run: steps of one place ===== -/
section MB81
abbrev Vl := Int32 × Int32 × UInt64
def vS (S : Mem) (p : Nat) : Vl := (mI S 105 p, mI S 106 p, mD S 107 p)
def hN (S : Mem) (f : Nat) : Nat := (mI S 111 f).toNatClampNeg
/-- place p of the recording and place q of the run hold the value of one number -/
def At (S R : Mem) (v : Nat) (val rval : Nat → Vl) (p q : Nat) : Prop := ∃ u, u < v ∧ mI R 108 p = nI u ∧ vS S q = val u ∧ vS R p = rval u
def nlV (x : Vl) : Prop := isNl x.1 x.2.1 x.2.2
/-- an object of a shape -/
def oV (S : Mem) (o : Nat) (x : Vl) (s : Int32) : Prop := x.1 = nI 111 ∧ ∃ y, y < o ∧ x.2.1 = nI y ∧ mI S 112 y = s
def Kn (S R : Mem) (oS oR u : Nat) (x y : Vl) : Prop := (¬ mI R 124 u = nI 0 → x = y) ∧ (¬ mI R 123 u = nI 0 → x.1 = mI R 123 u ∧ y.1 = mI R 123 u) ∧ (¬ mI R 125 u = -nI 1 → oV S oS x (mI R 125 u) ∧ oV R oR y (mI R 125 u)) ∧ (mI R 126 u = nI 1 → nlV x ∧ nlV y) ∧ (¬ mI R 126 u = nI 0 → ¬ mI R 126 u = nI 1 → ¬ nlV x ∧ ¬ nlV y)
def Cv (S R : Mem) (bS bR : Nat) (eS eR : Nat → Nat) (j k l : Nat) : Prop := (k < 6 ∧ l = k) ∨ (6 ≤ k ∧ 6 ≤ l ∧ k < 6 + hN R (bR + j) ∧ l < 6 + hN S (bS + j) ∧ l + eR j = k + eS j)
def Fr (S R : Mem) (bS bR n : Nat) (eS eR : Nat → Nat) : Prop := mI S 69 48 = nI (bS + n) ∧ mI R 69 48 = nI (bR + n) ∧ (∀ j, 1 ≤ j → eS j = eR j) ∧ ∀ j, j ≤ n → mI S 109 (bS + j) = mI R 109 (bR + j) ∧ mI S 110 (bS + j) = mI R 110 (bR + j) ∧ hN S (bS + j) + eR j = hN R (bR + j) + eS j ∧ hN S (bS + j) ≤ 8 ∧ hN R (bR + j) ≤ 8
def Sat (S R : Mem) (bS bR n : Nat) (eS eR : Nat → Nat) (oS oR v : Nat) (val rval : Nat → Vl) : Prop := Fr S R bS bR n eS eR ∧ mI R 69 83 = nI v ∧ (∀ j k l, j ≤ n → Cv S R bS bR eS eR j k l → At S R v val rval (14 * (bR + j) + k) (14 * (bS + j) + l)) ∧ ∀ u, u < v → Kn S R oS oR u (val u) (rval u)
theorem hN_e {S E : Mem} {f h : Nat} (h1 : mI E 111 f = nI h) (h8 : h ≤ 8) : hN E f = h := by unfold hN; rw [h1, qcl (by omega)]
theorem Kn_e {S E R F : Mem} {oS oR u oS2 oR2 : Nat} {x y : Vl} (h : Kn S R oS oR u x y) (h1 : mI F 123 u = mI R 123 u) (h2 : mI F 124 u = mI R 124 u) (h3 : mI F 125 u = mI R 125 u) (h4 : mI F 126 u = mI R 126 u) (oS1 : oS ≤ oS2) (oR1 : oR ≤ oR2) (eS : ∀ p, p < oS → mI E 112 p = mI S 112 p) (eR : ∀ p, p < oR → mI F 112 p = mI R 112 p) : Kn E F oS2 oR2 u x y := by
  unfold Kn oV at h ⊢
  rw [h1, h2, h3, h4]
  refine ⟨h.1, h.2.1, fun z => ?_, h.2.2.2⟩
  obtain ⟨⟨a1, y1, a2, a3, a4⟩, b1, y2, b2, b3, b4⟩ := h.2.2.1 z
  exact ⟨⟨a1, y1, by omega, a3, (eS y1 a2).trans a4⟩, b1, y2, by omega, b3, (eR y2 b2).trans b4⟩
/-- one place changes, and the frame on top -/
theorem sat_one {S E R F : Mem} {bS bR n qS qR i hS hR oS oR v oS2 oR2 v2 : Nat} {eS eR : Nat → Nat} {val rval val2 rval2 : Nat → Vl} (hs : Sat S R bS bR n eS eR oS oR v val rval) (h1 : PEf S E (bS + n) qS i hS) (h2 : PEf R F (bR + n) qR i hR) (hh : hS + eR n = hR + eS n) (h8S : hS ≤ 8) (h8R : hR ≤ 8) (hqS : 14 * (bS + n) ≤ qS) (hqR : 14 * (bR + n) ≤ qR)
    (hc : ∀ k l, ((k < 6 ∧ l = k) ∨ (6 ≤ k ∧ 6 ≤ l ∧ k < 6 + hR ∧ l < 6 + hS ∧ l + eR n = k + eS n)) → (14 * (bR + n) + k = qR ∧ 14 * (bS + n) + l = qS ∧ At E F v2 val2 rval2 qR qS) ∨ (14 * (bR + n) + k ≠ qR ∧ 14 * (bS + n) + l ≠ qS ∧ Cv S R bS bR eS eR n k l))
    (hv : v ≤ v2) (hv2 : mI F 69 83 = nI v2) (hval : ∀ u, u < v → val2 u = val u ∧ rval2 u = rval u) (hK : ∀ u, u < v2 → Kn E F oS2 oR2 u (val2 u) (rval2 u)) : Sat E F bS bR n eS eR oS2 oR2 v2 val2 rval2 := by
  obtain ⟨⟨f1, f2, f3, f4⟩, s1, s2, s3⟩ := hs
  obtain ⟨a1, a2, a3, a4, a5, a6⟩ := h1
  obtain ⟨b1, b2, b3, b4, b5, b6⟩ := h2
  have hES := hN_e (S := S) a5 h8S
  have hER := hN_e (S := R) b5 h8R
  have oS' : ∀ j, j < n → hN E (bS + j) = hN S (bS + j) := fun j hj => by unfold hN; rw [(a3 (bS + j) (by omega)).2]
  have oR' : ∀ j, j < n → hN F (bR + j) = hN R (bR + j) := fun j hj => by unfold hN; rw [(b3 (bR + j) (by omega)).2]
  have old : ∀ p q, p ≠ qR → q ≠ qS → At S R v val rval p q → At E F v2 val2 rval2 p q := by
    intro p q hp hq ⟨u, u1, u2, u3, u4⟩
    obtain ⟨c1, c2, c3, c4⟩ := b6 p hp
    obtain ⟨d1, d2, d3, d4⟩ := a6 q hq
    obtain ⟨e1, e2⟩ := hval u u1
    refine ⟨u, by omega, c4.trans u2, ?_, ?_⟩
    · unfold vS at u3 ⊢; rw [d1, d2, d3, e1]; exact u3
    · unfold vS at u4 ⊢; rw [c1, c2, c3, e2]; exact u4
  refine ⟨⟨a1.trans f1, b1.trans f2, f3, fun j hj => ?_⟩, hv2, fun j k l hj hcv => ?_, hK⟩
  · obtain ⟨g1, g2, g3, g4, g5⟩ := f4 j hj
    refine ⟨by rw [a2, b2]; exact g1, ?_⟩
    by_cases e : j = n
    · subst e
      rw [hES, hER]
      exact ⟨a4.trans b4.symm, hh, h8S, h8R⟩
    · rw [oS' j (by omega), oR' j (by omega), (a3 (bS + j) (by omega)).1, (b3 (bR + j) (by omega)).1]
      exact ⟨g2, g3, g4, g5⟩
  · by_cases e : j = n
    · subst e
      unfold Cv at hcv
      rw [hES, hER] at hcv
      rcases hc k l hcv with ⟨z1, z2, z3⟩ | ⟨z1, z2, z3⟩
      · rw [z1, z2]; exact z3
      · exact old _ _ z1 z2 (s2 j k l hj z3)
    · have hcv2 : Cv S R bS bR eS eR j k l := by
        unfold Cv at hcv ⊢
        rw [oS' j (by omega), oR' j (by omega)] at hcv
        exact hcv
      obtain ⟨g1, g2, g3, g4, g5⟩ := f4 j hj
      unfold Cv at hcv2
      exact old _ _ (by omega) (by omega) (s2 j k l hj hcv2)
theorem sat_no {S E R F : Mem} {bS bR n i hS hR oS oR v tS tR : Nat} {eS eR : Nat → Nat} {val rval : Nat → Vl} (hs : Sat S R bS bR n eS eR oS oR v val rval) (h1 : NO S E (bS + n) i hS) (h2 : NO R F (bR + n) i hR) (tS1 : mI S 111 (bS + n) = nI tS) (tR1 : mI R 111 (bR + n) = nI tR) (tS8 : tS ≤ 8) (tR8 : tR ≤ 8) (hS1 : hS ≤ tS) (hR1 : hR ≤ tR) (hd : hS + tR = hR + tS) (hb : bS + n < 12) (hb2 : bR + n < 12) : Sat E F bS bR n eS eR oS oR v val rval := by
  obtain ⟨p1, k1, o1⟩ := h1
  obtain ⟨p2, k2, o2⟩ := h2
  have eh := (hs.1.2.2.2 n (Nat.le_refl _)).2.2.1
  rw [hN_e (S := S) tS1 tS8, hN_e (S := R) tR1 tR8] at eh
  refine sat_one hs p1 p2 (by omega) (by omega) (by omega) (by omega) (by omega) (fun k l hc => .inr ⟨by omega, by omega, ?_⟩) (Nat.le_refl _) (k2.1.trans hs.2.1) (fun u _ => ⟨rfl, rfl⟩) (fun u hu => ?_)
  · unfold Cv
    rw [hN_e (S := S) tS1 tS8, hN_e (S := R) tR1 tR8]
    omega
  · obtain ⟨a1, a2, a3, a4⟩ := k2.2 u
    exact Kn_e (hs.2.2.2 u hu) a1 a2 a3 a4 (Nat.le_refl _) (Nat.le_refl _) (fun p _ => o1.2 p) (fun p _ => o2.2 p)
/-- a copy: from pR, pS to qR, qS -/
theorem sat_cp {S E R F : Mem} {bS bR n i hS hR oS oR v tS tR kp lp kq lq : Nat} {eS eR : Nat → Nat} {val rval : Nat → Vl} (hs : Sat S R bS bR n eS eR oS oR v val rval) (h1 : CP S E (bS + n) (14 * (bS + n) + lp) (14 * (bS + n) + lq) i hS) (h2 : CP R F (bR + n) (14 * (bR + n) + kp) (14 * (bR + n) + kq) i hR) (tS1 : mI S 111 (bS + n) = nI tS) (tR1 : mI R 111 (bR + n) = nI tR) (tS8 : tS ≤ 8) (tR8 : tR ≤ 8) (hS8 : hS ≤ 8) (hR8 : hR ≤ 8) (hd : hS + tR = hR + tS)
    (hp : (kp < 6 ∧ lp = kp) ∨ (6 ≤ kp ∧ 6 ≤ lp ∧ kp < 6 + tR ∧ lp < 6 + tS ∧ lp + tR = kp + tS)) (hq : (kq < 6 ∧ lq = kq ∧ hR ≤ tR ∧ hS ≤ tS) ∨ (kq = 6 + tR ∧ lq = 6 + tS ∧ hR = tR + 1 ∧ hS = tS + 1)) : Sat E F bS bR n eS eR oS oR v val rval := by
  obtain ⟨p1, c1, k1, o1⟩ := h1
  obtain ⟨p2, c2, k2, o2⟩ := h2
  have eh := (hs.1.2.2.2 n (Nat.le_refl _)).2.2.1
  rw [hN_e (S := S) tS1 tS8, hN_e (S := R) tR1 tR8] at eh
  obtain ⟨u, u1, u2, u3, u4⟩ := hs.2.2.1 n kp lp (Nat.le_refl _) (by unfold Cv; rw [hN_e (S := S) tS1 tS8, hN_e (S := R) tR1 tR8]; omega)
  have hA : At E F v val rval (14 * (bR + n) + kq) (14 * (bS + n) + lq) := by
    refine ⟨u, u1, c2.2.2.2.trans u2, ?_, ?_⟩
    · unfold vS at u3 ⊢; rw [c1.1, c1.2.1, c1.2.2.1]; exact u3
    · unfold vS at u4 ⊢; rw [c2.1, c2.2.1, c2.2.2.1]; exact u4
  refine sat_one hs p1 p2 (by omega) hS8 hR8 (by omega) (by omega) (fun k l hc => ?_) (Nat.le_refl _) (k2.1.trans hs.2.1) (fun u _ => ⟨rfl, rfl⟩) (fun u hu => ?_)
  · by_cases e : k = kq
    · subst e
      exact .inl ⟨rfl, by omega, hA⟩
    · refine .inr ⟨by omega, by omega, ?_⟩
      unfold Cv
      rw [hN_e (S := S) tS1 tS8, hN_e (S := R) tR1 tR8]
      omega
  · obtain ⟨a1, a2, a3, a4⟩ := k2.2 u
    exact Kn_e (hs.2.2.2 u hu) a1 a2 a3 a4 (Nat.le_refl _) (Nat.le_refl _) (fun p _ => o1.2 p) (fun p _ => o2.2 p)
/-- a new value at the top -/
theorem sat_nw {S E R F : Mem} {bS bR n i hS hR oS oR oS2 oR2 v tS tR : Nat} {eS eR : Nat → Nat} {val rval : Nat → Vl} {x y : Vl} {kk kc ks kz a1 a2 a3 a4 : Int32} (hs : Sat S R bS bR n eS eR oS oR v val rval) (h1 : NW S E (bS + n) (14 * (bS + n) + 6 + hS) x.1 x.2.1 x.2.2 i (hS + 1) a1 a2 a3 a4) (h2 : NW R F (bR + n) (14 * (bR + n) + 6 + hR) y.1 y.2.1 y.2.2 i (hR + 1) kk kc ks kz) (hr : mI R 69 71 = nI 1) (hv500 : v < 500) (tS1 : mI S 111 (bS + n) = nI tS) (tR1 : mI R 111 (bR + n) = nI tR) (tS8 : tS ≤ 8) (tR8 : tR ≤ 8) (hS8 : hS < 8) (hR8 : hR < 8) (hd : hS + tR = hR + tS) (hS1 : hS ≤ tS) (hR1 : hR ≤ tR)
    (oS1 : oS ≤ oS2) (oR1 : oR ≤ oR2) (oSe : ∀ p, p < oS → mI E 112 p = mI S 112 p) (oRe : ∀ p, p < oR → mI F 112 p = mI R 112 p) (hK : mI F 123 v = kk → mI F 124 v = kc → mI F 125 v = ks → mI F 126 v = kz → Kn E F oS2 oR2 v x y) : Sat E F bS bR n eS eR oS2 oR2 (v + 1) (fun u => if u = v then x else val u) (fun u => if u = v then y else rval u) := by
  obtain ⟨p1, c1, -⟩ := h1
  obtain ⟨p2, c2, k2⟩ := h2
  have eh := (hs.1.2.2.2 n (Nat.le_refl _)).2.2.1
  rw [hN_e (S := S) tS1 tS8, hN_e (S := R) tR1 tR8] at eh
  obtain ⟨-, v', hv1, hv2, hid, k3, k4, k5, k6, k7, k8⟩ := k2.resolve_left (fun z => by rw [hr] at z; exact absurd z.1 (by decide))
  obtain rfl : v' = v := qinj (by omega) (by omega) (hv2.symm.trans hs.2.1)
  refine sat_one hs p1 p2 (by omega) (by omega) (by omega) (by omega) (by omega) (fun k l hc => ?_) (Nat.le_succ _) k3 (fun u hu => ⟨if_neg (by omega), if_neg (by omega)⟩) (fun u hu => ?_)
  · by_cases e : k = 6 + hR
    · subst e
      refine .inl ⟨by omega, by omega, v', by omega, hid, ?_, ?_⟩
      · show _ = ite _ _ _; rw [if_pos rfl]; unfold vS; rw [c1.1, c1.2.1, c1.2.2]
      · show _ = ite _ _ _; rw [if_pos rfl]; unfold vS; rw [c2.1, c2.2.1, c2.2.2]
    · refine .inr ⟨by omega, by omega, ?_⟩
      unfold Cv
      rw [hN_e (S := S) tS1 tS8, hN_e (S := R) tR1 tR8]
      omega
  · by_cases e : u = v'
    · subst e
      rw [if_pos rfl, if_pos rfl]
      exact hK k5 k6 k7 k8
    · rw [if_neg e, if_neg e]
      obtain ⟨a1, a2, a3, a4⟩ := k4 u e
      exact Kn_e (hs.2.2.2 u (by omega)) a1 a2 a3 a4 oS1 oR1 oSe oRe
end MB81
