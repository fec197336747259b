/-! ===== the first memory: steps ===== -/
section MA1
/-- references in the order of their writing -/
def WL : List (Nat × Nat × Nat) := [(2, 0, 3), (2, 1, 4), (2, 2, 5), (2, 3, 6), (2, 4, 7), (2, 5, 8), (2, 6, 9), (2, 7, 10), (1, 0, 2), (11, 0, 12), (11, 1, 13), (11, 2, 14), (11, 3, 15), (11, 4, 16), (11, 5, 17), (1, 1, 11), (18, 0, 2), (18, 1, 11), (19, 0, 20), (19, 1, 21), (19, 2, 22), (19, 3, 23), (18, 2, 19), (18, 3, 24), (18, 4, 25), (18, 5, 26), (18, 6, 27), (1, 2, 18), (28, 0, 2), (28, 1, 11), (29, 0, 30), (29, 1, 31), (29, 2, 32), (29, 3, 33), (28, 2, 29), (28, 3, 34), (28, 4, 35), (28, 5, 36), (28, 6, 37), (1, 3, 28), (38, 0, 18), (39, 0, 40), (39, 1, 41), (39, 2, 42), (39, 3, 43), (38, 1, 39), (44, 0, 45), (44, 1, 46), (44, 2, 47), (38, 2, 44), (48, 0, 49), (48, 1, 50), (48, 2, 51), (48, 3, 52), (48, 4, 53), (48, 5, 54), (48, 6, 55), (38, 3, 48), (56, 2, 57), (56, 3, 58), (56, 4, 59), (56, 5, 60), (56, 6, 61), (56, 7, 62), (56, 8, 63), (56, 9, 64), (56, 10, 65), (56, 11, 66), (38, 9, 56), (67, 0, 2), (67, 1, 44), (67, 2, 68), (38, 4, 67), (1, 4, 38), (69, 2, 70), (69, 3, 71), (69, 4, 72), (69, 5, 73), (69, 6, 74), (69, 7, 75), (69, 9, 76), (69, 10, 77), (69, 11, 78), (69, 13, 79), (69, 14, 80), (69, 15, 81), (69, 16, 82), (69, 17, 83), (69, 18, 84), (69, 19, 85), (69, 20, 86), (69, 21, 87), (69, 22, 88), (69, 27, 89), (69, 28, 90), (69, 29, 91), (69, 30, 92), (69, 31, 93), (69, 32, 94), (69, 33, 95), (69, 34, 96), (69, 36, 97), (69, 37, 98), (69, 38, 99), (69, 39, 100), (69, 40, 101), (69, 41, 102), (69, 42, 103), (69, 43, 104), (69, 44, 105), (69, 45, 106), (69, 46, 107), (69, 47, 108), (69, 49, 109), (69, 50, 110), (69, 51, 111), (69, 53, 112), (69, 54, 113), (69, 55, 114), (69, 56, 115), (69, 60, 116), (69, 61, 117), (69, 77, 118), (69, 79, 119), (69, 80, 120), (69, 81, 121), (69, 82, 122), (69, 84, 123), (69, 85, 124), (69, 86, 125), (69, 87, 126)]
def WLf (m : Nat) : Nat × Nat × Nat := WL.getD m (0, 0, 0)
def PI : List Nat := [8, 15, 27, 39, 73, 0, 1, 2, 3, 4, 5, 6, 7, 9, 10, 11, 12, 13, 14, 16, 17, 22, 23, 24, 25, 26, 18, 19, 20, 21, 28, 29, 34, 35, 36, 37, 38, 30, 31, 32, 33, 40, 45, 49, 57, 72, 41, 42, 43, 44, 46, 47, 48, 50, 51, 52, 53, 54, 55, 56, 69, 70, 71, 74, 75, 76, 77, 78, 79, 80, 81, 82, 83, 84, 85, 86, 87, 88, 89, 90, 91, 92, 93, 94, 95, 96, 97, 98, 99, 100, 101, 102, 103, 104, 105, 106, 107, 108, 109, 110, 111, 112, 113, 114, 115, 116, 117, 118, 119, 120, 121, 122, 123, 124, 125, 126, 127, 128, 129, 130]
theorem pi_ok : ∀ i, i < 120 → rTab[i]? = some (WLf (PI.getD i 0)) ∧ PI.getD i 0 < 131 := by decide +kernel
theorem wl_ne : ∀ m, m < 131 → ∀ m2, m2 < m → (WLf m2).1 ≠ (WLf m).1 ∨ (WLf m2).2.1 ≠ (WLf m).2.1 := by decide +kernel
/-- what stands in the ints: the latest first -/
def vzL : List (Nat × Nat × Nat × Int32) → Nat → Nat → Int32
  | [], _, _ => 0
  | (b, lo, hi, v) :: t, a, j => if a = b then (if lo ≤ j ∧ j < hi then v else vzL t a j) else vzL t a j
def TT (n a : Nat) : Nat × Nat := if a = 0 then (27, n) else nTab.getD (a - 1) (0, 0)
/-- c names, k references, the ints of L; the script s of n ints -/
def STA (n : Nat) (s : Nat → Int32) (c k : Nat) (L : List (Nat × Nat × Nat × Int32)) (M : Mem) : Prop := nx M = c ∧ Fsh M ∧ (uC M + 1 ≤ c ∧ uS M ≤ 3000 * c) ∧ (∀ a, a < c → mT M a = TT n a) ∧ (∀ m, m < k → mR M (WLf m).1 (WLf m).2.1 = some (WLf m).2.2 ∧ (WLf m).1 < c) ∧ (∀ a j, 0 < a → a < c → mI M a j = vzL L a j ∧ mL M a j = 0 ∧ mD M a j = 0) ∧ ∀ j, mI M 0 j = s j
def PG (Q : Mem → Prop) (x : Option (Unit × Mem)) : Prop := ∃ E, x = some ((), E) ∧ Q E
section
variable {n : Nat} {s : Nat → Int32} {c k : Nat} {L : List (Nat × Nat × Nat × Int32)} {M : Mem} {Q : Mem → Prop}
theorem STA.K {a t : Nat} (h : STA n s c k L M) (ha : a < c) (ht : (TT n a).1 = t) : mK M a = t := by
  unfold mK
  rw [h.2.2.2.1 a ha]; exact ht
theorem STA.N {a : Nat} (h : STA n s c k L M) (ha : a < c) : mN M a = (TT n a).2 := by
  unfold mN
  rw [h.2.2.2.1 a ha]
theorem STA.I {a j : Nat} (h : STA n s c k L M) (h0 : 0 < a) (ha : a < c) : mI M a j = vzL L a j := (h.2.2.2.2.2.1 a j h0 ha).1
theorem p_okk {p : Prop} {x : Option (Unit × Mem)} (hp : p) (h : PG Q x) : PG Q (okk p x) := by rw [okk_pos hp]; exact h
theorem p_nx {c : Nat} {f : Nat → Option (Unit × Mem)} (h : nx M = c) (g : PG Q (f c)) : PG Q (bnd (nx M) f) := by rw [bnd_eq, h]; exact g
theorem p_end (h : Q M) : PG Q (some ((), M)) := ⟨M, rfl, h⟩
theorem p_call {Q2 : Mem → Prop} {x : Option (Unit × Mem)} {f : Unit × Mem → Option (Unit × Mem)} (h : PG Q2 x) (g : ∀ E, Q2 E → PG Q (f ((), E))) : PG Q (x.bind f) := by
  obtain ⟨E, h1, h2⟩ := h
  rw [h1]; exact g E h2
theorem st_sN {t m : Nat} (h : STA n s c k L M) (hT : TT n c = (t, m)) (hL : ∀ j, vzL L c j = 0) (hs : m ≤ 3000) (hc : 0 < c) : STA n s (c + 1) k L (sN M c t m) := by
  obtain ⟨h1, h2, ⟨h3, h4⟩, h5, h6, h7, h8⟩ := h
  have eT : ∀ b, mT (sN M c t m) b = if b = c then (t, m) else mT M b := fun _ => rfl
  refine ⟨rfl, fun a ha => ?_, ⟨?_, ?_⟩, fun a ha => ?_, fun i hi => ?_, fun a j h0 ha => ?_, fun j => ?_⟩
  · have ha2 : c + 1 ≤ a := ha
    unfold mK
    rw [eT, if_neg (by omega)]
    exact h2 a (by omega)
  · show uC M + 1 + 1 ≤ c + 1; omega
  · show uS M + m ≤ 3000 * (c + 1); omega
  · rw [eT]
    by_cases e : a = c
    · rw [if_pos e, e]; exact hT.symm
    · rw [if_neg e]; exact h5 a (by omega)
  · obtain ⟨a1, a2⟩ := h6 i hi
    refine ⟨?_, by omega⟩
    show (if (WLf i).1 = c then none else mR M (WLf i).1 (WLf i).2.1) = _
    rw [if_neg (by omega)]; exact a1
  · by_cases e : a = c
    · subst e
      refine ⟨?_, ?_, ?_⟩
      · show (if a = a then (0 : Int32) else mI M a j) = _
        rw [if_pos rfl]; exact (hL j).symm
      · show (if a = a then (0 : Int64) else mL M a j) = _
        exact if_pos rfl
      · show (if a = a then (0 : UInt64) else mD M a j) = _
        exact if_pos rfl
    · obtain ⟨b1, b2, b3⟩ := h7 a j h0 (by omega)
      refine ⟨?_, ?_, ?_⟩
      · show (if a = c then (0 : Int32) else mI M a j) = _
        rw [if_neg e]; exact b1
      · show (if a = c then (0 : Int64) else mL M a j) = _
        rw [if_neg e]; exact b2
      · show (if a = c then (0 : UInt64) else mD M a j) = _
        rw [if_neg e]; exact b3
  · show (if 0 = c then (0 : Int32) else mI M 0 j) = _
    rw [if_neg (by omega)]; exact h8 j
theorem p_sN {t m m2 : Nat} {f : Mem → Option (Unit × Mem)} (h : STA n s c k L M) (hm : m2 = m) (hT : TT n c = (t, m)) (hL : ∀ j, vzL L c j = 0) (hs : m ≤ 3000) (hc : 0 < c) (g : ∀ M1, STA n s (c + 1) k L M1 → PG Q (f M1)) : PG Q (bnd (sN M c t m2) f) := by
  subst hm
  exact g _ (st_sN h hT hL hs hc)
theorem p_sR {a i b : Nat} {f : Mem → Option (Unit × Mem)} (h : STA n s c k L M) (hW : WLf k = (a, i, b)) (hk : k < 131) (ha : a < c) (g : ∀ M1, STA n s c (k + 1) L M1 → PG Q (f M1)) : PG Q (bnd (sR M a i (some b)) f) := by
  obtain ⟨h1, h2, h3, h5, h6, h7, h8⟩ := h
  refine g _ ⟨h1, h2, h3, h5, fun m hm => ?_, h7, h8⟩
  by_cases e : m = k
  · subst e
    rw [hW]
    exact ⟨mR_eq _ _ _ _, ha⟩
  · have := wl_ne k hk m (by omega)
    rw [hW] at this
    obtain ⟨a1, a2⟩ := h6 m (by omega)
    exact ⟨(mR_ne this).trans a1, a2⟩
theorem STA.sIs {a i : Nat} {v : Int32} (h : STA n s c k L M) (h0 : 0 < a) : STA n s c k ((a, i, i + 1, v) :: L) (sI M a i v) := by
  obtain ⟨h1, h2, h3, h5, h6, h7, h8⟩ := h
  refine ⟨h1, h2, h3, h5, h6, fun b j x y => ?_, fun j => (mI_ne (by omega)).trans (h8 j)⟩
  obtain ⟨b1, b2, b3⟩ := h7 b j x y
  refine ⟨?_, b2, b3⟩
  show _ = (if b = a then (if i ≤ j ∧ j < i + 1 then v else vzL L b j) else vzL L b j)
  by_cases e : b = a
  · rw [if_pos e]
    by_cases e2 : i ≤ j ∧ j < i + 1
    · rw [if_pos e2, show j = i by omega, e, mI_eq]
    · rw [if_neg e2, mI_ne (by omega)]; exact b1
  · rw [if_neg e, mI_ne (by omega)]; exact b1
theorem p_sI {a i i2 : Nat} {v v2 : Int32} {f : Mem → Option (Unit × Mem)} (h : STA n s c k L M) (hi : i2 = i) (hv : v2 = v) (h0 : 0 < a) (g : ∀ M1, STA n s c k ((a, i, i + 1, v) :: L) M1 → PG Q (f M1)) : PG Q (bnd (sI M a i2 v2) f) := by
  subst hi hv
  exact g _ (h.sIs h0)
theorem p_mR {a i b m : Nat} {f : Nat → Option (Unit × Mem)} (h : STA n s c k L M) (hm : m < k) (hW : WLf m = (a, i, b)) (g : PG Q (f b)) : PG Q ((mR M a i).bind f) := by
  have := (h.2.2.2.2.1 m hm).1
  rw [hW] at this
  have e : mR M a i = some b := this
  rw [e]; exact g
/-- ints written one after another: those before j are written -/
theorem STA.fl {a m j : Nat} {v : Int32} (h : STA n s c k ((a, 0, j, v) :: L) M) (h0 : 0 < a) : STA n s c k ((a, 0, j + 1, v) :: L) (sI M a j v) := by
  obtain ⟨h1, h2, h3, h5, h6, h7, h8⟩ := h.sIs (i := j) (v := v) h0
  refine ⟨h1, h2, h3, h5, h6, fun b i x y => ?_, h8⟩
  obtain ⟨b1, b2, b3⟩ := h7 b i x y
  refine ⟨b1.trans ?_, b2, b3⟩
  show (if b = a then (if j ≤ i ∧ i < j + 1 then v else (if b = a then (if 0 ≤ i ∧ i < j then v else vzL L b i) else vzL L b i)) else (if b = a then (if 0 ≤ i ∧ i < j then v else vzL L b i) else vzL L b i)) = (if b = a then (if 0 ≤ i ∧ i < j + 1 then v else vzL L b i) else vzL L b i)
  by_cases e : b = a
  · rw [if_pos e, if_pos e, if_pos e]
    by_cases e1 : j ≤ i ∧ i < j + 1
    · rw [if_pos e1, if_pos (by omega)]
    · rw [if_neg e1]
      by_cases e2 : 0 ≤ i ∧ i < j
      · rw [if_pos e2, if_pos (by omega)]
      · rw [if_neg e2, if_neg (by omega)]
  · rw [if_neg e, if_neg e, if_neg e]
theorem STA.f0 {a : Nat} {v : Int32} (h : STA n s c k L M) : STA n s c k ((a, 0, 0, v) :: L) M := by
  obtain ⟨h1, h2, h3, h5, h6, h7, h8⟩ := h
  refine ⟨h1, h2, h3, h5, h6, fun b i x y => ?_, h8⟩
  obtain ⟨b1, b2, b3⟩ := h7 b i x y
  refine ⟨b1.trans ?_, b2, b3⟩
  show _ = (if b = a then (if 0 ≤ i ∧ i < 0 then v else vzL L b i) else vzL L b i)
  rw [if_neg (show ¬ (0 ≤ i ∧ i < 0) by omega)]
  by_cases e : b = a
  · rw [if_pos e]
  · rw [if_neg e]
theorem fill_a {a m : Nat} (hT : TT n a = (21, m)) (hm : m ≤ 3000) (ha : 0 < a ∧ a < c) : ∀ (j i N : Nat) (M : Mem), m = i + j → j < N → STA n s c k ((a, 0, i, (-1 : Int32)) :: L) M → PG (STA n s c k ((a, 0, m, (-1 : Int32)) :: L)) (d_J7_fill_53178_5 a (-1 : Int32) (nI m) N (nI i) M) := by
  intro j
  induction j with
  | zero =>
    intro i N M hi hN h
    obtain ⟨q, rfl, -⟩ := ex_pred hN
    obtain rfl : m = i := by omega
    rw [show d_J7_fill_53178_5 a (-1 : Int32) (nI m) (q + 1) (nI m) M = d_J7_fill_53178_5b (d_J7_fill_53178_5 a (-1 : Int32) (nI m) q) a (-1 : Int32) (nI m) (nI m) M from id rfl]
    unfold d_J7_fill_53178_5b
    rw [if_pos (of_eq_true (qleT (Nat.le_refl _) (by omega)))]
    exact p_end h
  | succ j ih =>
    intro i N M hi hN h
    obtain ⟨q, rfl, hq⟩ := ex_pred hN
    rw [show d_J7_fill_53178_5 a (-1 : Int32) (nI m) (q + 1) (nI i) M = d_J7_fill_53178_5b (d_J7_fill_53178_5 a (-1 : Int32) (nI m) q) a (-1 : Int32) (nI i) (nI m) M from id rfl]
    unfold d_J7_fill_53178_5b
    rw [if_neg (of_eq_false (qleF (by omega) (by omega)))]
    refine p_okk (h.K ha.2 (by rw [hT])) (p_okk ?_ ?_)
    · rw [h.N ha.2, hT]; exact of_eq_true (qinT (by omega) (by omega))
    · rw [bnd_eq, bnd_eq, qcl (by omega), l_1, qadd]
      exact ih (i + 1) q _ (by omega) (by omega) (h.fl (m := m) ha.1)
theorem p_fill {a m : Nat} {f : Unit × Mem → Option (Unit × Mem)} (h : STA n s c k L M) (hT : TT n a = (21, m)) (hm : m ≤ 3000) (ha : 0 < a ∧ a < c) (g : ∀ M1, STA n s c k ((a, 0, m, (-1 : Int32)) :: L) M1 → PG Q (f ((), M1))) : PG Q ((d_J7_fill_53178 a (-1 : Int32) M).bind f) := by
  refine p_call (Q2 := STA n s c k ((a, 0, m, (-1 : Int32)) :: L)) ?_ g
  unfold d_J7_fill_53178
  refine p_okk (h.K ha.2 (by rw [hT])) ?_
  have := fuel_big
  rw [bnd_eq, h.N ha.2, hT]
  exact fill_a hT hm ha m 0 fuel M (by omega) (by omega) h.f0
theorem p_fill0 {a : Nat} {f : Unit × Mem → Option (Unit × Mem)} (h : STA n s c k L M) (hT : TT n a = (21, 0)) (_ : (0 : Nat) ≤ 3000) (ha : 0 < a ∧ a < c) (g : ∀ M1, STA n s c k L M1 → PG Q (f ((), M1))) : PG Q ((d_J7_fill_53178 a (-1 : Int32) M).bind f) := by
  refine p_call (Q2 := STA n s c k L) ?_ g
  unfold d_J7_fill_53178
  refine p_okk (h.K ha.2 (by rw [hT])) ?_
  have := fuel_big
  obtain ⟨q, e⟩ : ∃ q, fuel = q + 1 := ⟨fuel - 1, by omega⟩
  rw [bnd_eq, h.N ha.2, hT, e, show d_J7_fill_53178_5 a (-1 : Int32) (nI 0) (q + 1) (0 : Int32) M = d_J7_fill_53178_5b (d_J7_fill_53178_5 a (-1 : Int32) (nI 0) q) a (-1 : Int32) (0 : Int32) (nI 0) M from id rfl]
  unfold d_J7_fill_53178_5b
  rw [if_pos (show nI 0 ≤ (0 : Int32) by decide)]
  exact p_end h
theorem p_copy {a m ln : Nat} {x : Int32} {f : Nat × Mem → Option (Unit × Mem)} (h : STA n s c k L M) (hx : x = nI m) (hT : TT n a = (21, ln)) (hm : m ≤ ln) (hl : ln ≤ 3000) (hc : TT n c = (21, m)) (hL : ∀ j, vzL L c j = 0) (ha : 0 < a ∧ a < c) (hz : (c < 1000) ∧ ∀ j, j < m → vzL L a j = 0) (g : ∀ M1, STA n s (c + 1) k L M1 → PG Q (f (c, M1))) : PG Q ((d_J7_copyOf_59c91 a x M).bind f) := by
  have e : d_J7_copyOf_59c91 a x M = some (c, sC M a c m) := by
    unfold d_J7_copyOf_59c91
    rw [okk_pos (h.K ha.2 (by rw [hT])), hx, okk_pos (⟨of_eq_true (qleT (a := 0) (by omega) (by omega)), of_eq_true (qleT (b := 100000) (by omega) (by omega))⟩ : 0 ≤ nI m ∧ nI m ≤ 100000), qcl (by omega), okk_pos (show m ≤ mN M a by rw [h.N ha.2, hT]; exact hm), okk_pos (show nx M < 2147483648 by rw [h.1]; omega), h.1]
  rw [e]
  refine g _ ?_
  obtain ⟨h1, h2, h3, h5, h6, h7, h8⟩ := st_sN h hc hL (by omega) (by omega)
  refine ⟨h1, h2, h3, h5, h6, fun b j x0 y0 => ?_, fun j => ?_⟩
  · obtain ⟨b1, b2, b3⟩ := h7 b j x0 y0
    refine ⟨?_, b2, b3⟩
    show (if b = c then (if j < m then mI M a j else 0) else mI M b j) = _
    by_cases q : b = c
    · rw [if_pos q, q, hL]
      by_cases r : j < m
      · rw [if_pos r, h.I ha.1 ha.2]; exact hz.2 j r
      · rw [if_neg r]
    · rw [if_neg q]
      exact (show (if b = c then (0 : Int32) else mI M b j) = _ from b1) ▸ (if_neg q).symm
  · show (if 0 = c then (if j < m then mI M a j else 0) else mI M 0 j) = _
    rw [if_neg (by omega)]
    exact h.2.2.2.2.2.2 j
end
end MA1
