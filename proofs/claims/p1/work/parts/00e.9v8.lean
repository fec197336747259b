/-! ===== the law: a turn of its loop ===== -/
section MV8
/-- the loop answers 1, within the room -/
def LGO (B C : Nat) (x : Option (Int32 × Mem)) : Prop := ∃ E, x = some (nI 1, E) ∧ uC E ≤ B ∧ uS E ≤ C
section
variable {B C : Nat}
theorem lgo_okk {p : Prop} {x : Option (Int32 × Mem)} (hp : p) (h : LGO B C x) : LGO B C (okk p x) := by rw [okk_pos hp]; exact h
theorem lgo_bind {α : Type} {x : Option α} {y : α} {f : α → Option (Int32 × Mem)} (hx : x = some y) (h : LGO B C (f y)) : LGO B C (x.bind f) := by rw [hx]; exact h
theorem lgo_bnd {α : Type} {x : α} {f : α → Option (Int32 × Mem)} (h : LGO B C (f x)) : LGO B C (bnd x f) := h
theorem lgo_if {c : Prop} {i : Decidable c} {a b : Option (Int32 × Mem)} (hc : c) (h : LGO B C a) : LGO B C (if c then a else b) := by rw [if_pos hc]; exact h
theorem lgo_nf {c : Prop} {i : Decidable c} {a b : Option (Int32 × Mem)} (hc : ¬ c) (h : LGO B C b) : LGO B C (if c then a else b) := by rw [if_neg hc]; exact h
theorem lgo_ite {c : Prop} {i : Decidable c} {a b : Option (Int32 × Mem)} (h1 : c → LGO B C a) (h2 : ¬ c → LGO B C b) : LGO B C (if c then a else b) := by
  by_cases hc : c
  · exact lgo_if hc (h1 hc)
  · exact lgo_nf hc (h2 hc)
theorem lg_self (x : Int64) : lg_cmp x x = (0 : Int32) := lg0.mpr rfl
theorem tail_I {K : Mem → Option (Int32 × Mem)} {k v : Int32} {E : Mem} (h0 : mI E 69 0 = k) (hR : k = nI 0 → mL E 127 0 = v.toInt64) (hK : LGO B C (K E)) : LGO B C ((d_X12_thrown E).bind fun y3 => if y3.1 = k then (if k = 0 then (if (lg_cmp (mL y3.2 127 0) (v.toInt64)) = 0 then (K y3.2) else (some ((0 : Int32), y3.2))) else (K y3.2)) else (some ((0 : Int32), y3.2))) := by
  unfold d_X12_thrown
  refine lgo_bind rfl (lgo_if h0 (lgo_ite (fun h => lgo_if ?_ hK) (fun _ => hK)))
  rw [hR h]
  exact lg_self _
theorem tail_L {K : Mem → Option (Int32 × Mem)} {k : Int32} {v : Int64} {E : Mem} (h0 : mI E 69 0 = k) (hR : k = nI 0 → mL E 127 0 = v) (hK : LGO B C (K E)) : LGO B C ((d_X12_thrown E).bind fun y3 => if y3.1 = k then (if k = 0 then (if (lg_cmp (mL y3.2 127 0) v) = 0 then (K y3.2) else (some ((0 : Int32), y3.2))) else (K y3.2)) else (some ((0 : Int32), y3.2))) := by
  unfold d_X12_thrown
  refine lgo_bind rfl (lgo_if h0 (lgo_ite (fun h => lgo_if ?_ hK) (fun _ => hK)))
  rw [hR h]
  exact lg_self _
theorem i64_0 {v : Int32} (h : v.toInt64 = (0 : Int64)) : v = 0 := by
  have := congrArg Int64.toInt h
  rw [Int32.toInt_toInt64] at this
  exact Int32.toInt_inj.mp (by rw [this]; decide)
theorem tail_B {K : Mem → Option (Int32 × Mem)} {D : Int64 → Int64 → Mem → Option (Int32 × Mem)} {k v : Int32} {E : Mem} (h0 : mI E 69 0 = k) (hR : k = nI 0 → mL E 127 0 = v.toInt64 ∧ (mL E 127 0 = 0 ∨ mL E 127 0 = 1)) (hD : ∀ a, LGO B C (D a a E)) (hK : LGO B C (K E)) : LGO B C ((d_X12_thrown E).bind fun y3 => if y3.1 = k then (if k = 0 then (if v = 0 then (D (mL y3.2 127 0) (0 : Int64) y3.2) else (D (mL y3.2 127 0) (1 : Int64) y3.2)) else (K y3.2)) else (some ((0 : Int32), y3.2))) := by
  unfold d_X12_thrown
  refine lgo_bind rfl (lgo_if h0 (lgo_ite (fun h => lgo_ite (fun h2 => ?_) (fun h2 => ?_)) (fun _ => hK)))
  · have e : mL E 127 0 = (0 : Int64) := by rw [(hR h).1, h2]; decide
    show LGO B C (D (mL E 127 0) (0 : Int64) E)
    rw [e]
    exact hD _
  · have e : mL E 127 0 = (1 : Int64) := by
      rcases (hR h).2 with q | q
      · exact absurd (i64_0 ((hR h).1.symm.trans q)) h2
      · exact q
    show LGO B C (D (mL E 127 0) (1 : Int64) E)
    rw [e]
    exact hD _
theorem tail_D {K : Mem → Option (Int32 × Mem)} {k : Int32} {v : UInt64} {E : Mem} (h0 : mI E 69 0 = k) (hR : k = nI 0 → mD E 128 0 = v) (hK : LGO B C (K E)) : LGO B C ((d_X12_thrown E).bind fun y3 => if y3.1 = k then (if k = 0 then (if (Op.cmpValue (FP.dcmp (mD y3.2 128 0) v) .l) = 0 then (K y3.2) else (if (Op.cmpValue (FP.dcmp (mD y3.2 128 0) (mD y3.2 128 0)) .l) = 0 then (some ((0 : Int32), y3.2)) else (if (Op.cmpValue (FP.dcmp v v) .l) = 0 then (some ((0 : Int32), y3.2)) else (K y3.2)))) else (K y3.2)) else (some ((0 : Int32), y3.2))) := by
  unfold d_X12_thrown
  refine lgo_bind rfl (lgo_if h0 (lgo_ite (fun h => ?_) (fun _ => hK)))
  have e : mD E 128 0 = v := hR h
  refine lgo_ite (fun _ => hK) (fun q => ?_)
  have q2 : ¬ (Op.cmpValue (FP.dcmp v v) .l) = 0 := fun z => q (show Op.cmpValue (FP.dcmp (mD E 128 0) v) .l = 0 by rw [e]; exact z)
  refine lgo_nf ?_ (lgo_nf q2 hK)
  show ¬ (Op.cmpValue (FP.dcmp (mD E 128 0) (mD E 128 0)) .l) = 0
  rw [e]
  exact q2
theorem dself {x : UInt64} (h : FP.Core.dIsNaN x = false) : Op.cmpValue (FP.dcmp x x) .l = (0 : Int32) := by
  have h2 : FP.Core.val64 x ≠ .nan := fun z => by rw [(FP.Core.dIsNaN_iff x).mpr z] at h; cases h
  have e : FP.dcmp x x = some .eq := FP.Core.dcmp_self h2
  rw [e]
  rfl
theorem tail_F {K : Mem → Option (Int32 × Mem)} {k : Int32} {v : UInt32} {E : Mem} (hx : vf_n64 (FP.f2d v) ∨ ¬ k = nI 0) (h0 : mI E 69 0 = k) (hR : k = nI 0 → mD E 128 0 = FP.f2d v ∧ FP.Core.fIsNaN v = false) (hK : LGO B C (K E)) : LGO B C ((d_X12_thrown E).bind fun y3 => if y3.1 = k then (if k = 0 then (okk (vf_n64 (FP.f2d v)) <| if (Op.cmpValue (FP.dcmp (mD y3.2 128 0) (FP.f2d v)) .l) = 0 then (K y3.2) else (if (Op.cmpValue (FP.dcmp (mD y3.2 128 0) (mD y3.2 128 0)) .l) = 0 then (some ((0 : Int32), y3.2)) else (if (Op.cmpValue (FP.fcmp v v) .l) = 0 then (some ((0 : Int32), y3.2)) else (K y3.2)))) else (K y3.2)) else (some ((0 : Int32), y3.2))) := by
  unfold d_X12_thrown
  refine lgo_bind rfl (lgo_if h0 (lgo_ite (fun h => ?_) (fun _ => hK)))
  obtain ⟨e, en⟩ := hR h
  refine lgo_okk (hx.resolve_right (fun z => z h)) (lgo_if ?_ hK)
  show Op.cmpValue (FP.dcmp (mD E 128 0) (FP.f2d v)) .l = (0 : Int32)
  rw [e]
  exact dself (f2d_n en)
end
theorem b_isThere {x : Int32} {M N : Mem} (h : d_L_isThere x M = some (nI 0, N)) : mL N 127 0 = 0 ∨ mL N 127 0 = 1 := by
  unfold d_L_isThere at h
  obtain ⟨y, -, h⟩ := bindE h
  rcases y with ⟨y1 | E1, N1⟩
  · dsimp only at h
    rcases iteE h with h | h
    · obtain ⟨M1, e1, h⟩ := bndE h
      have e := congrArg Prod.snd (Option.some.inj h)
      dsimp only at e
      rw [← e, e1]; exact .inl (mL_eq _ _ _ _)
    · obtain ⟨M1, e1, h⟩ := bndE h
      have e := congrArg Prod.snd (Option.some.inj h)
      dsimp only at e
      rw [← e, e1]; exact .inr (mL_eq _ _ _ _)
  · dsimp only at h
    rcases iteE h with h | h
    · exact absurd (congrArg Prod.fst (Option.some.inj h)) (show ¬ (1 : Int32) = nI 0 by decide)
    · cases h
theorem b_isBarred {x1 x2 : Int32} {M N : Mem} (h : d_L_isBarred x1 x2 M = some (nI 0, N)) : mL N 127 0 = 0 ∨ mL N 127 0 = 1 := by
  unfold d_L_isBarred at h
  obtain ⟨y, -, h⟩ := bindE h
  rcases y with ⟨y1 | E1, N1⟩
  · dsimp only at h
    rcases iteE h with h | h
    · obtain ⟨M1, e1, h⟩ := bndE h
      have e := congrArg Prod.snd (Option.some.inj h)
      dsimp only at e
      rw [← e, e1]; exact .inl (mL_eq _ _ _ _)
    · obtain ⟨M1, e1, h⟩ := bndE h
      have e := congrArg Prod.snd (Option.some.inj h)
      dsimp only at e
      rw [← e, e1]; exact .inr (mL_eq _ _ _ _)
  · dsimp only at h
    rcases iteE h with h | h
    · exact absurd (congrArg Prod.fst (Option.some.inj h)) (show ¬ (1 : Int32) = nI 0 by decide)
    · rcases iteE h with h | h
      · exact absurd (congrArg Prod.fst (Option.some.inj h)) (show ¬ (2 : Int32) = nI 0 by decide)
      · cases h
theorem lt_n4 {n i : Nat} (hn : n ≤ 2048) (hi : i ≤ 4096) : (nI n - (4 : Int32) < nI i) ↔ n < i + 4 := by
  by_cases h : 4 ≤ n
  · rw [l_4, qsub h, qlt (by omega) (by omega)]
    omega
  · have e : n = 0 ∨ n = 1 ∨ n = 2 ∨ n = 3 := by omega
    refine ⟨fun _ => by omega, fun _ => ?_⟩
    rw [Int32.lt_iff_toInt_lt, nI_toInt (by omega)]
    have : (nI n - (4 : Int32)).toInt < 0 := by
      rcases e with rfl | rfl | rfl | rfl <;> decide
    omega
theorem vn_k {n i k : Nat} (hk : k < 4) (h : i + 4 ≤ n) (hn : n ≤ 2048) : vp_in (nI i + nI k) n := by
  rw [qadd]
  exact of_eq_true (qinT (by omega) (by omega))

set_option maxHeartbeats 4000000 in
set_option maxRecDepth 20000 in
theorem law_b {k28 : Int32 → Mem → Option (Int32 × Mem)} {B C : Nat} {M : Mem} {i n cnt ns nc nf : Nat} (hI : INV M M cnt ns nc nf) (hn : mN M 0 = n) (hn2 : n ≤ 2048) (hi : i + 4 ≤ n) (hK : ∀ E c2 ns2 nc2 nf2, INV E E c2 ns2 nc2 nf2 → LWM M E cnt c2 → LGO B C (k28 (nI i + (4 : Int32)) E)) : LGO B C (d_L_law_28b k28 (nI i) M) := by
  have v0 : vp_in (nI i) (mN M 0) := by rw [hn]; exact of_eq_true (qinT (by omega) (by omega))
  have v1 : vp_in (nI i + (1 : Int32)) (mN M 0) := by rw [hn]; exact vn_k (k := 1) (by omega) hi hn2
  have v2 : vp_in (nI i + (2 : Int32)) (mN M 0) := by rw [hn]; exact vn_k (k := 2) (by omega) hi hn2
  have v3 : vp_in (nI i + (3 : Int32)) (mN M 0) := by rw [hn]; exact vn_k (k := 3) (by omega) hi hn2
  have kk : ∀ E c2 ns2 nc2 nf2, INV E E c2 ns2 nc2 nf2 → LWM M E cnt c2 → LGO B C (d_L_law_2621 k28 (nI i) E) := fun E c2 ns2 nc2 nf2 h1 h2 => by
    unfold d_L_law_2621
    exact lgo_bnd (hK E c2 ns2 nc2 nf2 h1 h2)
  have hL0 : LWM M M cnt cnt := ⟨⟨fun _ => rfl, rfl⟩, Nat.le_refl _, by omega, by omega⟩
  unfold d_L_law_28b
  refine lgo_nf (fun h => ?_) (lgo_okk v0 (lgo_bnd ?_))
  · rw [hn, lt_n4 hn2 (by omega)] at h
    omega
  refine lgo_ite (fun _ => ?_) (fun _ => ?_)
  · obtain ⟨k, v, N, E, c2, ns2, nc2, nf2, hc, hr, h0, hR, hI2, ⟨hN, hNn⟩, hL⟩ := st1 (R := rI) hI (fun S hS => (s_addFunction (x1 := mI M 0 (nI i + (1 : Int32)).toNatClampNeg) hS).stx) (fun N z h => rf_X12_addFunction h)
    have hr2 : d_X12_addFunction (mI N 0 (nI i + (1 : Int32)).toNatClampNeg) N = some (v, E) := by
      rw [hN (nI i + (1 : Int32)).toNatClampNeg]; exact hr
    refine lgo_okk v1 (lgo_bind hc ?_)
    refine lgo_okk (show vp_in (nI i + (1 : Int32)) (mN N 0) by rw [hNn]; exact v1) (lgo_bind hr2 ?_)
    exact tail_I (K := fun E => d_L_law_293 k28 (nI i) E) h0 hR (kk E _ _ _ _ hI2 hL)
  refine lgo_ite (fun _ => ?_) (fun _ => ?_)
  · obtain ⟨k, v, N, E, c2, ns2, nc2, nf2, hc, hr, h0, hR, hI2, ⟨hN, hNn⟩, hL⟩ := st1 (R := rI) hI (fun S hS => (s_code (x1 := mI M 0 (nI i + (1 : Int32)).toNatClampNeg) (x2 := ((mI M 0 (nI i + (2 : Int32)).toNatClampNeg).toUInt32 % 65536).toInt32) (x3 := mI M 0 (nI i + (3 : Int32)).toNatClampNeg) hS).stx) (fun N z h => rf_X12_code h)
    have hr2 : d_X12_code (mI N 0 (nI i + (1 : Int32)).toNatClampNeg) (((mI N 0 (nI i + (2 : Int32)).toNatClampNeg).toUInt32 % 65536).toInt32) (mI N 0 (nI i + (3 : Int32)).toNatClampNeg) N = some (v, E) := by
      rw [hN (nI i + (1 : Int32)).toNatClampNeg, hN (nI i + (2 : Int32)).toNatClampNeg, hN (nI i + (3 : Int32)).toNatClampNeg]; exact hr
    refine lgo_okk v1 (lgo_okk v2 (lgo_okk v3 (lgo_bind hc ?_)))
    refine lgo_okk (show vp_in (nI i + (1 : Int32)) (mN N 0) by rw [hNn]; exact v1) (lgo_okk (show vp_in (nI i + (2 : Int32)) (mN N 0) by rw [hNn]; exact v2) (lgo_okk (show vp_in (nI i + (3 : Int32)) (mN N 0) by rw [hNn]; exact v3) (lgo_bind hr2 ?_)))
    exact tail_I (K := fun E => d_L_law_375 k28 (nI i) E) h0 hR (kk E _ _ _ _ hI2 hL)
  refine lgo_ite (fun _ => ?_) (fun _ => ?_)
  · obtain ⟨k, v, N, E, c2, ns2, nc2, nf2, hc, hr, h0, hR, hI2, ⟨hN, hNn⟩, hL⟩ := st1 (R := rI) hI (fun S hS => (s_setHandler (x1 := mI M 0 (nI i + (1 : Int32)).toNatClampNeg) (x2 := mI M 0 (nI i + (2 : Int32)).toNatClampNeg) hS).stx) (fun N z h => rf_X12_setHandler h)
    have hr2 : d_X12_setHandler (mI N 0 (nI i + (1 : Int32)).toNatClampNeg) (mI N 0 (nI i + (2 : Int32)).toNatClampNeg) N = some (v, E) := by
      rw [hN (nI i + (1 : Int32)).toNatClampNeg, hN (nI i + (2 : Int32)).toNatClampNeg]; exact hr
    refine lgo_okk v1 (lgo_okk v2 (lgo_bind hc ?_))
    refine lgo_okk (show vp_in (nI i + (1 : Int32)) (mN N 0) by rw [hNn]; exact v1) (lgo_okk (show vp_in (nI i + (2 : Int32)) (mN N 0) by rw [hNn]; exact v2) (lgo_bind hr2 ?_))
    exact tail_I (K := fun E => d_L_law_443 k28 (nI i) E) h0 hR (kk E _ _ _ _ hI2 hL)
  refine lgo_ite (fun _ => ?_) (fun _ => ?_)
  · obtain ⟨k, v, N, E, c2, ns2, nc2, nf2, hc, hr, h0, hR, hI2, ⟨hN, hNn⟩, hL⟩ := st1 (R := rI) hI (fun S hS => (s_addClass (x1 := mI M 0 (nI i + (1 : Int32)).toNatClampNeg) hS).stx) (fun N z h => rf_X12_addClass h)
    have hr2 : d_X12_addClass (mI N 0 (nI i + (1 : Int32)).toNatClampNeg) N = some (v, E) := by
      rw [hN (nI i + (1 : Int32)).toNatClampNeg]; exact hr
    refine lgo_okk v1 (lgo_bind hc ?_)
    refine lgo_okk (show vp_in (nI i + (1 : Int32)) (mN N 0) by rw [hNn]; exact v1) (lgo_bind hr2 ?_)
    exact tail_I (K := fun E => d_L_law_499 k28 (nI i) E) h0 hR (kk E _ _ _ _ hI2 hL)
  refine lgo_ite (fun _ => ?_) (fun _ => ?_)
  · obtain ⟨k, v, N, E, c2, ns2, nc2, nf2, hc, hr, h0, hR, hI2, ⟨hN, hNn⟩, hL⟩ := st1 (R := rI) hI (fun S hS => (s_setMethod (x1 := mI M 0 (nI i + (1 : Int32)).toNatClampNeg) (x2 := mI M 0 (nI i + (2 : Int32)).toNatClampNeg) (x3 := mI M 0 (nI i + (3 : Int32)).toNatClampNeg) hS).stx) (fun N z h => rf_X12_setMethod h)
    have hr2 : d_X12_setMethod (mI N 0 (nI i + (1 : Int32)).toNatClampNeg) (mI N 0 (nI i + (2 : Int32)).toNatClampNeg) (mI N 0 (nI i + (3 : Int32)).toNatClampNeg) N = some (v, E) := by
      rw [hN (nI i + (1 : Int32)).toNatClampNeg, hN (nI i + (2 : Int32)).toNatClampNeg, hN (nI i + (3 : Int32)).toNatClampNeg]; exact hr
    refine lgo_okk v1 (lgo_okk v2 (lgo_okk v3 (lgo_bind hc ?_)))
    refine lgo_okk (show vp_in (nI i + (1 : Int32)) (mN N 0) by rw [hNn]; exact v1) (lgo_okk (show vp_in (nI i + (2 : Int32)) (mN N 0) by rw [hNn]; exact v2) (lgo_okk (show vp_in (nI i + (3 : Int32)) (mN N 0) by rw [hNn]; exact v3) (lgo_bind hr2 ?_)))
    exact tail_I (K := fun E => d_L_law_579 k28 (nI i) E) h0 hR (kk E _ _ _ _ hI2 hL)
  refine lgo_ite (fun _ => ?_) (fun _ => ?_)
  · obtain ⟨k, v, N, E, c2, ns2, nc2, nf2, hc, hr, h0, hR, hI2, ⟨hN, hNn⟩, hL⟩ := st1 (R := rI) hI (fun S hS => (s_setCell (x1 := mI M 0 (nI i + (1 : Int32)).toNatClampNeg) (x2 := mI M 0 (nI i + (2 : Int32)).toNatClampNeg) hS).stx) (fun N z h => rf_X12_setCell h)
    have hr2 : d_X12_setCell (mI N 0 (nI i + (1 : Int32)).toNatClampNeg) (mI N 0 (nI i + (2 : Int32)).toNatClampNeg) N = some (v, E) := by
      rw [hN (nI i + (1 : Int32)).toNatClampNeg, hN (nI i + (2 : Int32)).toNatClampNeg]; exact hr
    refine lgo_okk v1 (lgo_okk v2 (lgo_bind hc ?_))
    refine lgo_okk (show vp_in (nI i + (1 : Int32)) (mN N 0) by rw [hNn]; exact v1) (lgo_okk (show vp_in (nI i + (2 : Int32)) (mN N 0) by rw [hNn]; exact v2) (lgo_bind hr2 ?_))
    exact tail_I (K := fun E => d_L_law_647 k28 (nI i) E) h0 hR (kk E _ _ _ _ hI2 hL)
  refine lgo_ite (fun _ => ?_) (fun _ => ?_)
  · obtain ⟨k, v, N, E, c2, ns2, nc2, nf2, hc, hr, h0, hR, hI2, ⟨hN, hNn⟩, hL⟩ := st1 (R := rI) hI (fun S hS => (s_setLimits (x1 := mI M 0 (nI i + (1 : Int32)).toNatClampNeg) (x2 := mI M 0 (nI i + (2 : Int32)).toNatClampNeg) (x3 := mI M 0 (nI i + (3 : Int32)).toNatClampNeg) hS).stx) (fun N z h => rf_X12_setLimits h)
    have hr2 : d_X12_setLimits (mI N 0 (nI i + (1 : Int32)).toNatClampNeg) (mI N 0 (nI i + (2 : Int32)).toNatClampNeg) (mI N 0 (nI i + (3 : Int32)).toNatClampNeg) N = some (v, E) := by
      rw [hN (nI i + (1 : Int32)).toNatClampNeg, hN (nI i + (2 : Int32)).toNatClampNeg, hN (nI i + (3 : Int32)).toNatClampNeg]; exact hr
    refine lgo_okk v1 (lgo_okk v2 (lgo_okk v3 (lgo_bind hc ?_)))
    refine lgo_okk (show vp_in (nI i + (1 : Int32)) (mN N 0) by rw [hNn]; exact v1) (lgo_okk (show vp_in (nI i + (2 : Int32)) (mN N 0) by rw [hNn]; exact v2) (lgo_okk (show vp_in (nI i + (3 : Int32)) (mN N 0) by rw [hNn]; exact v3) (lgo_bind hr2 ?_)))
    exact tail_I (K := fun E => d_L_law_727 k28 (nI i) E) h0 hR (kk E _ _ _ _ hI2 hL)
  refine lgo_ite (fun _ => ?_) (fun _ => ?_)
  · obtain ⟨k, v, N, E, c2, ns2, nc2, nf2, hc, hr, h0, hR, hI2, ⟨hN, hNn⟩, hL⟩ := st1 (R := rI) hI (fun S hS => s_run (x1 := mI M 0 (nI i + (1 : Int32)).toNatClampNeg) (x2 := mI M 0 (nI i + (2 : Int32)).toNatClampNeg) hS) (fun N z h => rf_X12_run h)
    have hr2 : d_X12_run (mI N 0 (nI i + (1 : Int32)).toNatClampNeg) (mI N 0 (nI i + (2 : Int32)).toNatClampNeg) N = some (v, E) := by
      rw [hN (nI i + (1 : Int32)).toNatClampNeg, hN (nI i + (2 : Int32)).toNatClampNeg]; exact hr
    refine lgo_okk v1 (lgo_okk v2 (lgo_bind hc ?_))
    refine lgo_okk (show vp_in (nI i + (1 : Int32)) (mN N 0) by rw [hNn]; exact v1) (lgo_okk (show vp_in (nI i + (2 : Int32)) (mN N 0) by rw [hNn]; exact v2) (lgo_bind hr2 ?_))
    exact tail_I (K := fun E => d_L_law_795 k28 (nI i) E) h0 hR (kk E _ _ _ _ hI2 hL)
  refine lgo_ite (fun _ => ?_) (fun _ => ?_)
  · obtain ⟨v, E, hc, hr, hI2, hL⟩ := st0 hI (a_outcome hI) (fun N z h => rf_X12_outcome h)
    exact lgo_bind hc (lgo_bind hr (lgo_if rfl (kk E _ _ _ _ hI2 hL)))
  refine lgo_ite (fun _ => ?_) (fun _ => ?_)
  · obtain ⟨k, v, N, E, c2, ns2, nc2, nf2, hc, hr, h0, hR, hI2, ⟨hN, hNn⟩, hL⟩ := st1 (R := rI) hI (fun S hS => ASK.stx hS (a_resultKind hS)) (fun N z h => rf_X12_resultKind h)
    have hr2 : d_X12_resultKind N = some (v, E) := hr
    refine lgo_bind hc ?_
    refine lgo_bind hr2 ?_
    exact tail_I (K := fun E => d_L_law_852 k28 (nI i) E) h0 hR (kk E _ _ _ _ hI2 hL)
  refine lgo_ite (fun _ => ?_) (fun _ => ?_)
  · obtain ⟨k, v, N, E, c2, ns2, nc2, nf2, hc, hr, h0, hR, hI2, ⟨hN, hNn⟩, hL⟩ := st1 (R := rL) hI (fun S hS => ASL.stx hS (a_result hS)) (fun N z h => rf_X12_result h)
    have hr2 : d_X12_result N = some (v, E) := hr
    refine lgo_bind hc ?_
    refine lgo_bind hr2 ?_
    exact tail_L (K := fun E => d_L_law_895 k28 (nI i) E) h0 hR (kk E _ _ _ _ hI2 hL)
  refine lgo_ite (fun _ => ?_) (fun _ => ?_)
  · obtain ⟨k, v, N, E, c2, ns2, nc2, nf2, hc, hr, h0, hR, hI2, ⟨hN, hNn⟩, hL⟩ := st1 (R := rI) hI (fun S hS => ASK.stx hS (a_failure hS)) (fun N z h => rf_X12_failure h)
    have hr2 : d_X12_failure N = some (v, E) := hr
    refine lgo_bind hc ?_
    refine lgo_bind hr2 ?_
    exact tail_I (K := fun E => d_L_law_939 k28 (nI i) E) h0 hR (kk E _ _ _ _ hI2 hL)
  refine lgo_ite (fun _ => ?_) (fun _ => ?_)
  · obtain ⟨k, v, N, E, c2, ns2, nc2, nf2, hc, hr, h0, hR, hI2, ⟨hN, hNn⟩, hL⟩ := st1 (R := rI) hI (fun S hS => ASK.stx hS (a_line hS)) (fun N z h => rf_X12_line h)
    have hr2 : d_X12_line N = some (v, E) := hr
    refine lgo_bind hc ?_
    refine lgo_bind hr2 ?_
    exact tail_I (K := fun E => d_L_law_983 k28 (nI i) E) h0 hR (kk E _ _ _ _ hI2 hL)
  refine lgo_ite (fun _ => ?_) (fun _ => ?_)
  · obtain ⟨v, E, hc, hr, hI2, hL⟩ := st0 hI (a_told hI) (fun N z h => rf_X12_told_ h)
    exact lgo_bind hc (lgo_bind hr (lgo_if rfl (kk E _ _ _ _ hI2 hL)))
  refine lgo_ite (fun _ => ?_) (fun _ => ?_)
  · obtain ⟨k, v, N, E, c2, ns2, nc2, nf2, hc, hr, h0, hR, hI2, ⟨hN, hNn⟩, hL⟩ := st1 (R := rI) hI (fun S hS => ASK.stx hS (a_toldKind (x1 := mI M 0 (nI i + (1 : Int32)).toNatClampNeg) hS)) (fun N z h => rf_X12_toldKind h)
    have hr2 : d_X12_toldKind (mI N 0 (nI i + (1 : Int32)).toNatClampNeg) N = some (v, E) := by
      rw [hN (nI i + (1 : Int32)).toNatClampNeg]; exact hr
    refine lgo_okk v1 (lgo_bind hc ?_)
    refine lgo_okk (show vp_in (nI i + (1 : Int32)) (mN N 0) by rw [hNn]; exact v1) (lgo_bind hr2 ?_)
    exact tail_I (K := fun E => d_L_law_1052 k28 (nI i) E) h0 hR (kk E _ _ _ _ hI2 hL)
  refine lgo_ite (fun _ => ?_) (fun _ => ?_)
  · obtain ⟨k, v, N, E, c2, ns2, nc2, nf2, hc, hr, h0, hR, hI2, ⟨hN, hNn⟩, hL⟩ := st1 (R := rL) hI (fun S hS => ASL.stx hS (a_toldAt (x1 := mI M 0 (nI i + (1 : Int32)).toNatClampNeg) hS)) (fun N z h => rf_X12_toldAt h)
    have hr2 : d_X12_toldAt (mI N 0 (nI i + (1 : Int32)).toNatClampNeg) N = some (v, E) := by
      rw [hN (nI i + (1 : Int32)).toNatClampNeg]; exact hr
    refine lgo_okk v1 (lgo_bind hc ?_)
    refine lgo_okk (show vp_in (nI i + (1 : Int32)) (mN N 0) by rw [hNn]; exact v1) (lgo_bind hr2 ?_)
    exact tail_L (K := fun E => d_L_law_1107 k28 (nI i) E) h0 hR (kk E _ _ _ _ hI2 hL)
  refine lgo_ite (fun _ => ?_) (fun _ => ?_)
  · obtain ⟨v, E, hc, hr, hI2, hL⟩ := st0 hI (a_objects hI) (fun N z h => rf_X12_objects h)
    exact lgo_bind hc (lgo_bind hr (lgo_if rfl (kk E _ _ _ _ hI2 hL)))
  refine lgo_ite (fun _ => ?_) (fun _ => ?_)
  · obtain ⟨k, v, N, E, c2, ns2, nc2, nf2, hc, hr, h0, hR, hI2, ⟨hN, hNn⟩, hL⟩ := st1 (R := rI) hI (fun S hS => ASK.stx hS (a_shapeOf (x1 := mI M 0 (nI i + (1 : Int32)).toNatClampNeg) hS)) (fun N z h => rf_X12_shapeOf h)
    have hr2 : d_X12_shapeOf (mI N 0 (nI i + (1 : Int32)).toNatClampNeg) N = some (v, E) := by
      rw [hN (nI i + (1 : Int32)).toNatClampNeg]; exact hr
    refine lgo_okk v1 (lgo_bind hc ?_)
    refine lgo_okk (show vp_in (nI i + (1 : Int32)) (mN N 0) by rw [hNn]; exact v1) (lgo_bind hr2 ?_)
    exact tail_I (K := fun E => d_L_law_1176 k28 (nI i) E) h0 hR (kk E _ _ _ _ hI2 hL)
  refine lgo_ite (fun _ => ?_) (fun _ => ?_)
  · obtain ⟨k, v, N, E, c2, ns2, nc2, nf2, hc, hr, h0, hR, hI2, ⟨hN, hNn⟩, hL⟩ := st1 (R := rL) hI (fun S hS => ASL.stx hS (a_field (x1 := mI M 0 (nI i + (1 : Int32)).toNatClampNeg) (x2 := mI M 0 (nI i + (2 : Int32)).toNatClampNeg) hS)) (fun N z h => rf_X12_field h)
    have hr2 : d_X12_field (mI N 0 (nI i + (1 : Int32)).toNatClampNeg) (mI N 0 (nI i + (2 : Int32)).toNatClampNeg) N = some (v, E) := by
      rw [hN (nI i + (1 : Int32)).toNatClampNeg, hN (nI i + (2 : Int32)).toNatClampNeg]; exact hr
    refine lgo_okk v1 (lgo_okk v2 (lgo_bind hc ?_))
    refine lgo_okk (show vp_in (nI i + (1 : Int32)) (mN N 0) by rw [hNn]; exact v1) (lgo_okk (show vp_in (nI i + (2 : Int32)) (mN N 0) by rw [hNn]; exact v2) (lgo_bind hr2 ?_))
    exact tail_L (K := fun E => d_L_law_1243 k28 (nI i) E) h0 hR (kk E _ _ _ _ hI2 hL)
  refine lgo_ite (fun _ => ?_) (fun _ => ?_)
  · obtain ⟨v, E, hc, hr, hI2, hL⟩ := st0 hI (a_shapes hI) (fun N z h => rf_X12_shapes h)
    exact lgo_bind hc (lgo_bind hr (lgo_if rfl (kk E _ _ _ _ hI2 hL)))
  refine lgo_ite (fun _ => ?_) (fun _ => ?_)
  · obtain ⟨k, v, N, E, c2, ns2, nc2, nf2, hc, hr, h0, hR, hI2, ⟨hN, hNn⟩, hL⟩ := st1 (R := rI) hI (fun S hS => ASK.stx hS (a_fields (x1 := mI M 0 (nI i + (1 : Int32)).toNatClampNeg) hS)) (fun N z h => rf_X12_fields h)
    have hr2 : d_X12_fields (mI N 0 (nI i + (1 : Int32)).toNatClampNeg) N = some (v, E) := by
      rw [hN (nI i + (1 : Int32)).toNatClampNeg]; exact hr
    refine lgo_okk v1 (lgo_bind hc ?_)
    refine lgo_okk (show vp_in (nI i + (1 : Int32)) (mN N 0) by rw [hNn]; exact v1) (lgo_bind hr2 ?_)
    exact tail_I (K := fun E => d_L_law_1312 k28 (nI i) E) h0 hR (kk E _ _ _ _ hI2 hL)
  refine lgo_ite (fun _ => ?_) (fun _ => ?_)
  · obtain ⟨k, v, N, E, c2, ns2, nc2, nf2, hc, hr, h0, hR, hI2, ⟨hN, hNn⟩, hL⟩ := st1 (R := rI) hI (fun S hS => ASK.stx hS (a_fieldAt (x1 := mI M 0 (nI i + (1 : Int32)).toNatClampNeg) (x2 := mI M 0 (nI i + (2 : Int32)).toNatClampNeg) hS)) (fun N z h => rf_X12_fieldAt h)
    have hr2 : d_X12_fieldAt (mI N 0 (nI i + (1 : Int32)).toNatClampNeg) (mI N 0 (nI i + (2 : Int32)).toNatClampNeg) N = some (v, E) := by
      rw [hN (nI i + (1 : Int32)).toNatClampNeg, hN (nI i + (2 : Int32)).toNatClampNeg]; exact hr
    refine lgo_okk v1 (lgo_okk v2 (lgo_bind hc ?_))
    refine lgo_okk (show vp_in (nI i + (1 : Int32)) (mN N 0) by rw [hNn]; exact v1) (lgo_okk (show vp_in (nI i + (2 : Int32)) (mN N 0) by rw [hNn]; exact v2) (lgo_bind hr2 ?_))
    exact tail_I (K := fun E => d_L_law_1380 k28 (nI i) E) h0 hR (kk E _ _ _ _ hI2 hL)
  refine lgo_ite (fun _ => ?_) (fun _ => ?_)
  · obtain ⟨k, v, N, E, c2, ns2, nc2, nf2, hc, hr, h0, hR, hI2, ⟨hN, hNn⟩, hL⟩ := st1 (R := rI) hI (fun S hS => ASK.stx hS (a_nextShape (x1 := mI M 0 (nI i + (1 : Int32)).toNatClampNeg) (x2 := mI M 0 (nI i + (2 : Int32)).toNatClampNeg) hS)) (fun N z h => rf_X12_nextShape h)
    have hr2 : d_X12_nextShape (mI N 0 (nI i + (1 : Int32)).toNatClampNeg) (mI N 0 (nI i + (2 : Int32)).toNatClampNeg) N = some (v, E) := by
      rw [hN (nI i + (1 : Int32)).toNatClampNeg, hN (nI i + (2 : Int32)).toNatClampNeg]; exact hr
    refine lgo_okk v1 (lgo_okk v2 (lgo_bind hc ?_))
    refine lgo_okk (show vp_in (nI i + (1 : Int32)) (mN N 0) by rw [hNn]; exact v1) (lgo_okk (show vp_in (nI i + (2 : Int32)) (mN N 0) by rw [hNn]; exact v2) (lgo_bind hr2 ?_))
    exact tail_I (K := fun E => d_L_law_1448 k28 (nI i) E) h0 hR (kk E _ _ _ _ hI2 hL)
  refine lgo_ite (fun _ => ?_) (fun _ => ?_)
  · obtain ⟨k, v, N, E, c2, ns2, nc2, nf2, hc, hr, h0, hR, hI2, ⟨hN, hNn⟩, hL⟩ := st1 (R := rI) hI (fun S hS => ASK.stx hS (a_cacheState (x1 := mI M 0 (nI i + (1 : Int32)).toNatClampNeg) (x2 := mI M 0 (nI i + (2 : Int32)).toNatClampNeg) hS)) (fun N z h => rf_X12_cacheState h)
    have hr2 : d_X12_cacheState (mI N 0 (nI i + (1 : Int32)).toNatClampNeg) (mI N 0 (nI i + (2 : Int32)).toNatClampNeg) N = some (v, E) := by
      rw [hN (nI i + (1 : Int32)).toNatClampNeg, hN (nI i + (2 : Int32)).toNatClampNeg]; exact hr
    refine lgo_okk v1 (lgo_okk v2 (lgo_bind hc ?_))
    refine lgo_okk (show vp_in (nI i + (1 : Int32)) (mN N 0) by rw [hNn]; exact v1) (lgo_okk (show vp_in (nI i + (2 : Int32)) (mN N 0) by rw [hNn]; exact v2) (lgo_bind hr2 ?_))
    exact tail_I (K := fun E => d_L_law_1516 k28 (nI i) E) h0 hR (kk E _ _ _ _ hI2 hL)
  refine lgo_ite (fun _ => ?_) (fun _ => ?_)
  · obtain ⟨k, v, N, E, c2, ns2, nc2, nf2, hc, hr, h0, hR, hI2, ⟨hN, hNn⟩, hL⟩ := st1 (R := rI) hI (fun S hS => ASK.stx hS (a_hits (x1 := mI M 0 (nI i + (1 : Int32)).toNatClampNeg) (x2 := mI M 0 (nI i + (2 : Int32)).toNatClampNeg) hS)) (fun N z h => rf_X12_hits h)
    have hr2 : d_X12_hits (mI N 0 (nI i + (1 : Int32)).toNatClampNeg) (mI N 0 (nI i + (2 : Int32)).toNatClampNeg) N = some (v, E) := by
      rw [hN (nI i + (1 : Int32)).toNatClampNeg, hN (nI i + (2 : Int32)).toNatClampNeg]; exact hr
    refine lgo_okk v1 (lgo_okk v2 (lgo_bind hc ?_))
    refine lgo_okk (show vp_in (nI i + (1 : Int32)) (mN N 0) by rw [hNn]; exact v1) (lgo_okk (show vp_in (nI i + (2 : Int32)) (mN N 0) by rw [hNn]; exact v2) (lgo_bind hr2 ?_))
    exact tail_I (K := fun E => d_L_law_1584 k28 (nI i) E) h0 hR (kk E _ _ _ _ hI2 hL)
  refine lgo_ite (fun _ => ?_) (fun _ => ?_)
  · obtain ⟨k, v, N, E, c2, ns2, nc2, nf2, hc, hr, h0, hR, hI2, ⟨hN, hNn⟩, hL⟩ := st1 (R := rI) hI (fun S hS => ASK.stx hS (a_misses (x1 := mI M 0 (nI i + (1 : Int32)).toNatClampNeg) (x2 := mI M 0 (nI i + (2 : Int32)).toNatClampNeg) hS)) (fun N z h => rf_X12_misses h)
    have hr2 : d_X12_misses (mI N 0 (nI i + (1 : Int32)).toNatClampNeg) (mI N 0 (nI i + (2 : Int32)).toNatClampNeg) N = some (v, E) := by
      rw [hN (nI i + (1 : Int32)).toNatClampNeg, hN (nI i + (2 : Int32)).toNatClampNeg]; exact hr
    refine lgo_okk v1 (lgo_okk v2 (lgo_bind hc ?_))
    refine lgo_okk (show vp_in (nI i + (1 : Int32)) (mN N 0) by rw [hNn]; exact v1) (lgo_okk (show vp_in (nI i + (2 : Int32)) (mN N 0) by rw [hNn]; exact v2) (lgo_bind hr2 ?_))
    exact tail_I (K := fun E => d_L_law_1652 k28 (nI i) E) h0 hR (kk E _ _ _ _ hI2 hL)
  refine lgo_ite (fun _ => ?_) (fun _ => ?_)
  · obtain ⟨k, v, N, E, c2, ns2, nc2, nf2, hc, hr, h0, hR, hI2, ⟨hN, hNn⟩, hL⟩ := st1 (R := rI) hI (fun S hS => ASK.stx hS (a_counter (x1 := mI M 0 (nI i + (1 : Int32)).toNatClampNeg) (x2 := mI M 0 (nI i + (2 : Int32)).toNatClampNeg) hS)) (fun N z h => rf_X12_counter h)
    have hr2 : d_X12_counter (mI N 0 (nI i + (1 : Int32)).toNatClampNeg) (mI N 0 (nI i + (2 : Int32)).toNatClampNeg) N = some (v, E) := by
      rw [hN (nI i + (1 : Int32)).toNatClampNeg, hN (nI i + (2 : Int32)).toNatClampNeg]; exact hr
    refine lgo_okk v1 (lgo_okk v2 (lgo_bind hc ?_))
    refine lgo_okk (show vp_in (nI i + (1 : Int32)) (mN N 0) by rw [hNn]; exact v1) (lgo_okk (show vp_in (nI i + (2 : Int32)) (mN N 0) by rw [hNn]; exact v2) (lgo_bind hr2 ?_))
    exact tail_I (K := fun E => d_L_law_1720 k28 (nI i) E) h0 hR (kk E _ _ _ _ hI2 hL)
  refine lgo_ite (fun _ => ?_) (fun _ => ?_)
  · obtain ⟨k, v, N, E, c2, ns2, nc2, nf2, hc, hr, h0, hR, hI2, ⟨hN, hNn⟩, hL⟩ := st1 (R := rB) hI (fun S hS => ASK.stb hS (a_isBarred (x1 := mI M 0 (nI i + (1 : Int32)).toNatClampNeg) (x2 := mI M 0 (nI i + (2 : Int32)).toNatClampNeg) hS) (fun N h => b_isBarred h)) (fun N z h => rf_X12_isBarred h)
    have hr2 : d_X12_isBarred (mI N 0 (nI i + (1 : Int32)).toNatClampNeg) (mI N 0 (nI i + (2 : Int32)).toNatClampNeg) N = some (v, E) := by
      rw [hN (nI i + (1 : Int32)).toNatClampNeg, hN (nI i + (2 : Int32)).toNatClampNeg]; exact hr
    refine lgo_okk v1 (lgo_okk v2 (lgo_bind hc ?_))
    refine lgo_okk (show vp_in (nI i + (1 : Int32)) (mN N 0) by rw [hNn]; exact v1) (lgo_okk (show vp_in (nI i + (2 : Int32)) (mN N 0) by rw [hNn]; exact v2) (lgo_bind hr2 ?_))
    have hD : ∀ a, LGO B C (d_L_law_1789 k28 (nI i) a a E) := fun a => by
      unfold d_L_law_1789
      exact lgo_if (lg_self a) (kk E _ _ _ _ hI2 hL)
    exact tail_B (K := fun E => d_L_law_1795 k28 (nI i) E) (D := fun a b E => d_L_law_1789 k28 (nI i) a b E) h0 hR hD (kk E _ _ _ _ hI2 hL)
  refine lgo_ite (fun _ => ?_) (fun _ => ?_)
  · obtain ⟨v, E, hc, hr, hI2, hL⟩ := st0 hI (a_traces hI) (fun N z h => rf_X12_traces h)
    exact lgo_bind hc (lgo_bind hr (lgo_if rfl (kk E _ _ _ _ hI2 hL)))
  refine lgo_ite (fun _ => ?_) (fun _ => ?_)
  · obtain ⟨k, v, N, E, c2, ns2, nc2, nf2, hc, hr, h0, hR, hI2, ⟨hN, hNn⟩, hL⟩ := st1 (R := rB) hI (fun S hS => ASK.stb hS (a_isThere (x1 := mI M 0 (nI i + (1 : Int32)).toNatClampNeg) hS) (fun N h => b_isThere h)) (fun N z h => rf_X12_isThere h)
    have hr2 : d_X12_isThere (mI N 0 (nI i + (1 : Int32)).toNatClampNeg) N = some (v, E) := by
      rw [hN (nI i + (1 : Int32)).toNatClampNeg]; exact hr
    refine lgo_okk v1 (lgo_bind hc ?_)
    refine lgo_okk (show vp_in (nI i + (1 : Int32)) (mN N 0) by rw [hNn]; exact v1) (lgo_bind hr2 ?_)
    have hD : ∀ a, LGO B C (d_L_law_1865 k28 (nI i) a a E) := fun a => by
      unfold d_L_law_1865
      exact lgo_if (lg_self a) (kk E _ _ _ _ hI2 hL)
    exact tail_B (K := fun E => d_L_law_1871 k28 (nI i) E) (D := fun a b E => d_L_law_1865 k28 (nI i) a b E) h0 hR hD (kk E _ _ _ _ hI2 hL)
  refine lgo_ite (fun _ => ?_) (fun _ => ?_)
  · obtain ⟨k, v, N, E, c2, ns2, nc2, nf2, hc, hr, h0, hR, hI2, ⟨hN, hNn⟩, hL⟩ := st1 (R := rI) hI (fun S hS => ASK.stx hS (a_steps (x1 := mI M 0 (nI i + (1 : Int32)).toNatClampNeg) hS)) (fun N z h => rf_X12_steps h)
    have hr2 : d_X12_steps (mI N 0 (nI i + (1 : Int32)).toNatClampNeg) N = some (v, E) := by
      rw [hN (nI i + (1 : Int32)).toNatClampNeg]; exact hr
    refine lgo_okk v1 (lgo_bind hc ?_)
    refine lgo_okk (show vp_in (nI i + (1 : Int32)) (mN N 0) by rw [hNn]; exact v1) (lgo_bind hr2 ?_)
    exact tail_I (K := fun E => d_L_law_1927 k28 (nI i) E) h0 hR (kk E _ _ _ _ hI2 hL)
  refine lgo_ite (fun _ => ?_) (fun _ => ?_)
  · obtain ⟨k, v, N, E, c2, ns2, nc2, nf2, hc, hr, h0, hR, hI2, ⟨hN, hNn⟩, hL⟩ := st1 (R := rI) hI (fun S hS => ASK.stx hS (a_lineAt (x1 := mI M 0 (nI i + (1 : Int32)).toNatClampNeg) (x2 := mI M 0 (nI i + (2 : Int32)).toNatClampNeg) hS)) (fun N z h => rf_X12_lineAt h)
    have hr2 : d_X12_lineAt (mI N 0 (nI i + (1 : Int32)).toNatClampNeg) (mI N 0 (nI i + (2 : Int32)).toNatClampNeg) N = some (v, E) := by
      rw [hN (nI i + (1 : Int32)).toNatClampNeg, hN (nI i + (2 : Int32)).toNatClampNeg]; exact hr
    refine lgo_okk v1 (lgo_okk v2 (lgo_bind hc ?_))
    refine lgo_okk (show vp_in (nI i + (1 : Int32)) (mN N 0) by rw [hNn]; exact v1) (lgo_okk (show vp_in (nI i + (2 : Int32)) (mN N 0) by rw [hNn]; exact v2) (lgo_bind hr2 ?_))
    exact tail_I (K := fun E => d_L_law_1995 k28 (nI i) E) h0 hR (kk E _ _ _ _ hI2 hL)
  refine lgo_ite (fun _ => ?_) (fun _ => ?_)
  · obtain ⟨k, v, N, E, c2, ns2, nc2, nf2, hc, hr, h0, hR, hI2, ⟨hN, hNn⟩, hL⟩ := st1 (R := rI) hI (fun S hS => ASK.stx hS (a_guards (x1 := mI M 0 (nI i + (1 : Int32)).toNatClampNeg) hS)) (fun N z h => rf_X12_guards_ h)
    have hr2 : d_X12_guards_ (mI N 0 (nI i + (1 : Int32)).toNatClampNeg) N = some (v, E) := by
      rw [hN (nI i + (1 : Int32)).toNatClampNeg]; exact hr
    refine lgo_okk v1 (lgo_bind hc ?_)
    refine lgo_okk (show vp_in (nI i + (1 : Int32)) (mN N 0) by rw [hNn]; exact v1) (lgo_bind hr2 ?_)
    exact tail_I (K := fun E => d_L_law_2051 k28 (nI i) E) h0 hR (kk E _ _ _ _ hI2 hL)
  refine lgo_ite (fun _ => ?_) (fun _ => ?_)
  · obtain ⟨k, v, N, E, c2, ns2, nc2, nf2, hc, hr, h0, hR, hI2, ⟨hN, hNn⟩, hL⟩ := st1 (R := rI) hI (fun S hS => ASK.stx hS (a_guardAt (x1 := mI M 0 (nI i + (1 : Int32)).toNatClampNeg) (x2 := mI M 0 (nI i + (2 : Int32)).toNatClampNeg) hS)) (fun N z h => rf_X12_guardAt h)
    have hr2 : d_X12_guardAt (mI N 0 (nI i + (1 : Int32)).toNatClampNeg) (mI N 0 (nI i + (2 : Int32)).toNatClampNeg) N = some (v, E) := by
      rw [hN (nI i + (1 : Int32)).toNatClampNeg, hN (nI i + (2 : Int32)).toNatClampNeg]; exact hr
    refine lgo_okk v1 (lgo_okk v2 (lgo_bind hc ?_))
    refine lgo_okk (show vp_in (nI i + (1 : Int32)) (mN N 0) by rw [hNn]; exact v1) (lgo_okk (show vp_in (nI i + (2 : Int32)) (mN N 0) by rw [hNn]; exact v2) (lgo_bind hr2 ?_))
    exact tail_I (K := fun E => d_L_law_2119 k28 (nI i) E) h0 hR (kk E _ _ _ _ hI2 hL)
  refine lgo_ite (fun _ => ?_) (fun _ => ?_)
  · obtain ⟨k, v, N, E, c2, ns2, nc2, nf2, hc, hr, h0, hR, hI2, ⟨hN, hNn⟩, hL⟩ := st1 (R := rI) hI (fun S hS => ASK.stx hS (a_guardStep (x1 := mI M 0 (nI i + (1 : Int32)).toNatClampNeg) (x2 := mI M 0 (nI i + (2 : Int32)).toNatClampNeg) hS)) (fun N z h => rf_X12_guardStep h)
    have hr2 : d_X12_guardStep (mI N 0 (nI i + (1 : Int32)).toNatClampNeg) (mI N 0 (nI i + (2 : Int32)).toNatClampNeg) N = some (v, E) := by
      rw [hN (nI i + (1 : Int32)).toNatClampNeg, hN (nI i + (2 : Int32)).toNatClampNeg]; exact hr
    refine lgo_okk v1 (lgo_okk v2 (lgo_bind hc ?_))
    refine lgo_okk (show vp_in (nI i + (1 : Int32)) (mN N 0) by rw [hNn]; exact v1) (lgo_okk (show vp_in (nI i + (2 : Int32)) (mN N 0) by rw [hNn]; exact v2) (lgo_bind hr2 ?_))
    exact tail_I (K := fun E => d_L_law_2187 k28 (nI i) E) h0 hR (kk E _ _ _ _ hI2 hL)
  refine lgo_ite (fun _ => ?_) (fun _ => ?_)
  · obtain ⟨k, v, N, E, c2, ns2, nc2, nf2, hc, hr, h0, hR, hI2, ⟨hN, hNn⟩, hL⟩ := st1 (R := rI) hI (fun S hS => ASK.stx hS (a_exits (x1 := mI M 0 (nI i + (1 : Int32)).toNatClampNeg) (x2 := mI M 0 (nI i + (2 : Int32)).toNatClampNeg) hS)) (fun N z h => rf_X12_exits h)
    have hr2 : d_X12_exits (mI N 0 (nI i + (1 : Int32)).toNatClampNeg) (mI N 0 (nI i + (2 : Int32)).toNatClampNeg) N = some (v, E) := by
      rw [hN (nI i + (1 : Int32)).toNatClampNeg, hN (nI i + (2 : Int32)).toNatClampNeg]; exact hr
    refine lgo_okk v1 (lgo_okk v2 (lgo_bind hc ?_))
    refine lgo_okk (show vp_in (nI i + (1 : Int32)) (mN N 0) by rw [hNn]; exact v1) (lgo_okk (show vp_in (nI i + (2 : Int32)) (mN N 0) by rw [hNn]; exact v2) (lgo_bind hr2 ?_))
    exact tail_I (K := fun E => d_L_law_2255 k28 (nI i) E) h0 hR (kk E _ _ _ _ hI2 hL)
  refine lgo_ite (fun _ => ?_) (fun _ => ?_)
  · obtain ⟨k, v, N, E, c2, ns2, nc2, nf2, hc, hr, h0, hR, hI2, ⟨hN, hNn⟩, hL⟩ := st1 (R := rI) hI (fun S hS => ASK.stx hS (a_sideOf (x1 := mI M 0 (nI i + (1 : Int32)).toNatClampNeg) (x2 := mI M 0 (nI i + (2 : Int32)).toNatClampNeg) hS)) (fun N z h => rf_X12_sideOf h)
    have hr2 : d_X12_sideOf (mI N 0 (nI i + (1 : Int32)).toNatClampNeg) (mI N 0 (nI i + (2 : Int32)).toNatClampNeg) N = some (v, E) := by
      rw [hN (nI i + (1 : Int32)).toNatClampNeg, hN (nI i + (2 : Int32)).toNatClampNeg]; exact hr
    refine lgo_okk v1 (lgo_okk v2 (lgo_bind hc ?_))
    refine lgo_okk (show vp_in (nI i + (1 : Int32)) (mN N 0) by rw [hNn]; exact v1) (lgo_okk (show vp_in (nI i + (2 : Int32)) (mN N 0) by rw [hNn]; exact v2) (lgo_bind hr2 ?_))
    exact tail_I (K := fun E => d_L_law_2323 k28 (nI i) E) h0 hR (kk E _ _ _ _ hI2 hL)
  refine lgo_ite (fun _ => ?_) (fun _ => ?_)
  · obtain ⟨k, v, N, E, c2, ns2, nc2, nf2, hc, hr, h0, hR, hI2, ⟨hN, hNn⟩, hL⟩ := st1 (R := rI) hI (fun S hS => ASK.stx hS (a_rootOf (x1 := mI M 0 (nI i + (1 : Int32)).toNatClampNeg) hS)) (fun N z h => rf_X12_rootOf h)
    have hr2 : d_X12_rootOf (mI N 0 (nI i + (1 : Int32)).toNatClampNeg) N = some (v, E) := by
      rw [hN (nI i + (1 : Int32)).toNatClampNeg]; exact hr
    refine lgo_okk v1 (lgo_bind hc ?_)
    refine lgo_okk (show vp_in (nI i + (1 : Int32)) (mN N 0) by rw [hNn]; exact v1) (lgo_bind hr2 ?_)
    exact tail_I (K := fun E => d_L_law_2379 k28 (nI i) E) h0 hR (kk E _ _ _ _ hI2 hL)
  refine lgo_ite (fun _ => ?_) (fun _ => ?_)
  · obtain ⟨k, v, N, E, c2, ns2, nc2, nf2, hc, hr, h0, hR, hI2, ⟨hN, hNn⟩, hL⟩ := st1 (R := rI) hI (fun S hS => ASK.stx hS (a_begun (x1 := mI M 0 (nI i + (1 : Int32)).toNatClampNeg) hS)) (fun N z h => rf_X12_begun h)
    have hr2 : d_X12_begun (mI N 0 (nI i + (1 : Int32)).toNatClampNeg) N = some (v, E) := by
      rw [hN (nI i + (1 : Int32)).toNatClampNeg]; exact hr
    refine lgo_okk v1 (lgo_bind hc ?_)
    refine lgo_okk (show vp_in (nI i + (1 : Int32)) (mN N 0) by rw [hNn]; exact v1) (lgo_bind hr2 ?_)
    exact tail_I (K := fun E => d_L_law_2435 k28 (nI i) E) h0 hR (kk E _ _ _ _ hI2 hL)
  refine lgo_ite (fun _ => ?_) (fun _ => ?_)
  · obtain ⟨v, E, hc, hr, hI2, hL⟩ := st0 hI (a_inTraces hI) (fun N z h => rf_X12_inTraces h)
    exact lgo_bind hc (lgo_bind hr (lgo_if rfl (kk E _ _ _ _ hI2 hL)))
  refine lgo_ite (fun _ => ?_) (fun _ => ?_)
  · obtain ⟨v, E, hc, hr, hI2, hL⟩ := st0 hI (a_codeSize hI) (fun N z h => rf_X12_codeSize h)
    exact lgo_bind hc (lgo_bind hr (lgo_if rfl (kk E _ _ _ _ hI2 hL)))
  refine lgo_ite (fun _ => ?_) (fun _ => ?_)
  · obtain ⟨v, E, hc, hr, hI2, hL⟩ := st0 hI (a_agrees hI) (fun N z h => rf_X12_agrees h)
    exact lgo_bind hc (lgo_bind hr (lgo_if rfl (kk E _ _ _ _ hI2 hL)))
  refine lgo_ite (fun _ => ?_) (fun _ => ?_)
  · obtain ⟨k, v, N, E, c2, ns2, nc2, nf2, hc, hr, h0, hR, hI2, ⟨hN, hNn⟩, hL⟩ := st1 (R := rF) hI (fun S hS => ASF.stx hS (a_tracedShare hS)) (fun N z h => rf_X12_tracedShare h)
    have hr2 : d_X12_tracedShare N = some (v, E) := hr
    refine lgo_bind hc ?_
    refine lgo_bind hr2 ?_
    exact tail_F (K := fun E => d_L_law_2540 k28 (nI i) E) (Classical.byCases (fun h : k = nI 0 => .inl (vf64 (f2d_n (hR h).2))) (fun h => .inr h)) h0 hR (kk E _ _ _ _ hI2 hL)
  refine lgo_ite (fun _ => ?_) (fun _ => ?_)
  · obtain ⟨k, v, N, E, c2, ns2, nc2, nf2, hc, hr, h0, hR, hI2, ⟨hN, hNn⟩, hL⟩ := st1 (R := rD) hI (fun S hS => ASD.stx hS (a_meanGuards hS)) (fun N z h => rf_X12_meanGuards h)
    have hr2 : d_X12_meanGuards N = some (v, E) := hr
    refine lgo_bind hc ?_
    refine lgo_bind hr2 ?_
    exact tail_D (K := fun E => d_L_law_2605 k28 (nI i) E) h0 hR (kk E _ _ _ _ hI2 hL)
  refine lgo_ite (fun _ => ?_) (fun _ => ?_)
  · obtain ⟨v, E, hc, hr, hI2, hL⟩ := st0 hI (a_isSound hI) (fun N z h => rf_X12_isSound h)
    exact lgo_bind hc (lgo_bind hr (lgo_if rfl (kk E _ _ _ _ hI2 hL)))
  exact kk M _ _ _ _ hI hL0
theorem law_l {B C n : Nat} (hn2 : n ≤ 2048) : ∀ (j i N : Nat) (M : Mem) (cnt ns nc nf : Nat), n ≤ i + 4 * j → i ≤ 2052 → j < N → mN M 0 = n → INV M M cnt ns nc nf → uC M + 11 * (20 - cnt) + j ≤ B → uS M + 1100 * (20 - cnt) + 6 * j ≤ C → LGO B C (d_L_law_28 N (nI i) M) := by
  intro j
  induction j with
  | zero =>
    intro i N M cnt ns nc nf h1 hi hN hn hI hB hC
    obtain ⟨m, rfl, -⟩ := ex_pred hN
    rw [st_L_law_28]
    unfold d_L_law_28b
    refine lgo_if ?_ ⟨M, rfl, by omega, by omega⟩
    rw [hn, lt_n4 hn2 (by omega)]
    omega
  | succ j ih =>
    intro i N M cnt ns nc nf h1 hi hN hn hI hB hC
    obtain ⟨m, rfl, hm⟩ := ex_pred hN
    rw [st_L_law_28]
    by_cases q : n < i + 4
    · unfold d_L_law_28b
      refine lgo_if ?_ ⟨M, rfl, by omega, by omega⟩
      rw [hn, lt_n4 hn2 (by omega)]
      exact q
    · refine law_b hI hn hn2 (by omega) (fun E c2 ns2 nc2 nf2 hE hL => ?_)
      obtain ⟨⟨-, l1⟩, l2, l3, l4⟩ := hL
      have c20 := (inv_nx hE).2
      rw [l_4, qadd]
      exact ih (i + 4) m E c2 ns2 nc2 nf2 (by omega) (by omega) (by omega) (l1.trans hn) hE (by omega) (by omega)
/-- the law's loop answers 1 -/
theorem law_ok {M : Mem} {n ns nc nf : Nat} (hn2 : n ≤ 2048) (hn : mN M 0 = n) (hI : INV M M 0 ns nc nf) : ∃ E, d_L_law_28 fuel (0 : Int32) M = some (nI 1, E) ∧ uC E ≤ uC M + 740 ∧ uS E ≤ uS M + 25100 := by
  have := fuel_big
  exact law_l hn2 513 0 fuel M 0 ns nc nf (by omega) (by omega) (by omega) hn hI (by omega) (by omega)
end MV8
