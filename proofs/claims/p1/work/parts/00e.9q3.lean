/-! ===== a run begins: both ===== -/
section MY3
abbrev p9 (o : Nat) (a _j : Nat) : Prop := a < o ∨ o + 9 < a
theorem b9_X11_localPlace {x0 : Int32} {x1 : Int32} {M : Mem} {o : Nat} {z : Int32 × Mem} (h : d_X11_localPlace x0 x1 M = some z) : FrP (p9 o) M z.2 := by
  unfold d_X11_localPlace at h
  rw [← Option.some.inj h]
  exact (FrP.refl M)
theorem b9_X8_put {o : Nat} {x1 : Int32} {x2 : Int32} {x3 : Int32} {M : Mem} {z : Unit × Mem} (h : d_X8_put o x1 x2 x3 M = some z) : FrP (p9 o) M z.2 := by
  unfold d_X8_put at h
  obtain ⟨-, h⟩ := okE h
  obtain ⟨-, h⟩ := okE h
  obtain ⟨M1, e9, h⟩ := bndE h
  have f1 : FrP (p9 o) M M1 := by
    rw [e9]
    exact FrP.sI (FrP.refl M) (fun j y => by unfold p9 at y; omega)
  clear e9
  obtain ⟨-, h⟩ := okE h
  obtain ⟨M2, e9, h⟩ := bndE h
  have f2 : FrP (p9 o) M M2 := by
    rw [e9]
    exact FrP.sI f1 (fun j y => by unfold p9 at y; omega)
  clear e9
  obtain ⟨-, h⟩ := okE h
  obtain ⟨M3, e9, h⟩ := bndE h
  have f3 : FrP (p9 o) M M3 := by
    rw [e9]
    exact FrP.sD f2 (fun j y => by unfold p9 at y; omega)
  clear e9
  rw [← Option.some.inj h]
  exact f3
theorem b9_X3_addFrame_32b {k32 : (Int32) → Mem → Option (Unit × Mem)} {o : Nat} {x2 : Int32} {M : Mem} {z : Unit × Mem} (hk32 : ∀ a M z, k32 a M = some z → FrP (p9 o) M z.2) (h : d_X3_addFrame_32b k32 o x2 M = some z) : FrP (p9 o) M z.2 := by
  unfold d_X3_addFrame_32b at h
  rcases iteE h with h | h
  · skip
    obtain ⟨M1, e9, h⟩ := bndE h
    have f1 : FrP (p9 o) M M1 := by
      rw [e9]
      exact FrP.sI (FrP.refl M) (fun j y => by unfold p9 at y; omega)
    clear e9
    rw [← Option.some.inj h]
    exact f1
  · skip
    obtain ⟨y1, e9, h⟩ := bindE h
    have f2 : FrP (p9 o) _ _ := FrP.trans (FrP.refl M) (b9_X11_localPlace  e9)
    clear e9
    obtain ⟨y2, e9, h⟩ := bindE h
    have f3 : FrP (p9 o) _ _ := FrP.trans f2 (b9_X8_put  e9)
    clear e9
    obtain ⟨b1, -, h⟩ := bndE h
    exact FrP.trans f3 (hk32 _ _ _ h)
theorem b9_X3_addFrame_32 {o : Nat} : ∀ n a M z, d_X3_addFrame_32 o n a M = some z → FrP (p9 o) M z.2 := lp_ind (G := fun _ M z => FrP (p9 o) M z.2) (fun k hk a M z h => b9_X3_addFrame_32b hk h)
theorem b9_X3_addFrame {o : Nat} {x1 : Int32} {M : Mem} {z : Unit × Mem} (h : d_X3_addFrame o x1 M = some z) : FrP (p9 o) M z.2 := by
  unfold d_X3_addFrame at h
  obtain ⟨-, h⟩ := okE h
  obtain ⟨M1, e9, h⟩ := bndE h
  have f1 : FrP (p9 o) M M1 := by
    rw [e9]
    exact FrP.sI (FrP.refl M) (fun j y => by unfold p9 at y; omega)
  clear e9
  obtain ⟨-, h⟩ := okE h
  obtain ⟨M2, e9, h⟩ := bndE h
  have f2 : FrP (p9 o) M M2 := by
    rw [e9]
    exact FrP.sI f1 (fun j y => by unfold p9 at y; omega)
  clear e9
  obtain ⟨-, h⟩ := okE h
  obtain ⟨M3, e9, h⟩ := bndE h
  have f3 : FrP (p9 o) M M3 := by
    rw [e9]
    exact FrP.sI f2 (fun j y => by unfold p9 at y; omega)
  clear e9
  exact FrP.trans f3 (b9_X3_addFrame_32 _ _ _ _ h)
theorem b9_X3_begin {o : Nat} {x1 : Int32} {x2 : Int32} {M : Mem} {z : Unit × Mem} (h : d_X3_begin o x1 x2 M = some z) : FrP (p9 o) M z.2 := by
  unfold d_X3_begin at h
  obtain ⟨M1, e9, h⟩ := bndE h
  have f1 : FrP (p9 o) M M1 := by
    rw [e9]
    exact FrP.sI (FrP.refl M) (fun j y => by unfold p9 at y; omega)
  clear e9
  obtain ⟨M2, e9, h⟩ := bndE h
  have f2 : FrP (p9 o) M M2 := by
    rw [e9]
    exact FrP.sI f1 (fun j y => by unfold p9 at y; omega)
  clear e9
  obtain ⟨M3, e9, h⟩ := bndE h
  have f3 : FrP (p9 o) M M3 := by
    rw [e9]
    exact FrP.sI f2 (fun j y => by unfold p9 at y; omega)
  clear e9
  obtain ⟨M4, e9, h⟩ := bndE h
  have f4 : FrP (p9 o) M M4 := by
    rw [e9]
    exact FrP.sI f3 (fun j y => by unfold p9 at y; omega)
  clear e9
  obtain ⟨M5, e9, h⟩ := bndE h
  have f5 : FrP (p9 o) M M5 := by
    rw [e9]
    exact FrP.sI f4 (fun j y => by unfold p9 at y; omega)
  clear e9
  obtain ⟨M6, e9, h⟩ := bndE h
  have f6 : FrP (p9 o) M M6 := by
    rw [e9]
    exact FrP.sI f5 (fun j y => by unfold p9 at y; omega)
  clear e9
  obtain ⟨M7, e9, h⟩ := bndE h
  have f7 : FrP (p9 o) M M7 := by
    rw [e9]
    exact FrP.sI f6 (fun j y => by unfold p9 at y; omega)
  clear e9
  obtain ⟨y1, e9, h⟩ := bindE h
  have f8 : FrP (p9 o) _ _ := FrP.trans f7 (b9_X3_addFrame  e9)
  clear e9
  obtain ⟨y2, e9, h⟩ := bindE h
  have f9 : FrP (p9 o) _ _ := FrP.trans f8 (b9_X11_localPlace  e9)
  clear e9
  obtain ⟨y3, e9, h⟩ := bindE h
  have f10 : FrP (p9 o) _ _ := FrP.trans f9 (b9_X8_put  e9)
  clear e9
  rw [← Option.some.inj h]
  exact f10
theorem bg_fr {M : Mem} {o f : Nat} {x : Int32} (ho : isO o) : FrP (p9 o) M (bgN M o f x) := b9_X3_begin (c_begin ho)
/-- the plain run's tables taken back -/
theorem take_ok {Q S E : Mem} {ns ns2 nc : Nat} (hQ : RS Q E ns2) (hG : GRW S E ns ns2) (hS : WS S ns nc) : ∃ T, d_X7_takeBack (nI ns) Q = some ((), T) ∧ RS T S ns ∧ (∀ a q, a ≠ 16 → a ≠ 11 → mI T a q = mI Q a q) ∧ T.2 = Q.2 := by
  obtain ⟨hS12, hns, -, hSc, hSs⟩ := hS
  obtain ⟨g1, g2, g3, g4, g5, g6, g7, g8⟩ := hG
  obtain ⟨q1, q2, q3⟩ := hQ
  obtain ⟨T, t1, t2, t3, t4, t5, t6⟩ := tb_l (Q := Q) (ns := ns) hns (6 * ns) 0 fuel Q (by omega) (by have := fuel_big; omega) (fun q hq => absurd hq (by omega)) (fun q _ => rfl) (fun _ _ _ => rfl) rfl
  refine ⟨T, t1, ⟨t5, fun c hc => ?_, fun s hs => ?_⟩, fun a q x y => t4 a q x (.inl y), t6⟩
  · rw [t4 17 c (by omega) (by omega), q2 c hc, g1 78 c (by omega) (by omega)]
  · obtain ⟨r1, r2, r3, r4, r5⟩ := q3 s (by omega)
    obtain ⟨e79, e80, e81⟩ := g7 s hs
    obtain ⟨z1, z2, z3, z4⟩ := hSs s hs
    refine ⟨?_, ?_, fun n hn => ?_, fun k hk => ?_, fun n hn => ?_⟩
    · rw [t4 12 s (by omega) (by omega), r1, e79]
    · rw [t4 13 s (by omega) (by omega), r2, e80]
    · rw [t2 _ (by omega), r3 n hn]
      rcases g8 s n hs hn with e | ⟨e, v, hv1, hv2, e2⟩
      · rw [e]
        rcases z4 n hn with u | ⟨v, -, hv, u, -⟩
        · rw [u, if_pos (of_eq_true (qneg_lt (by omega)))]
        · rw [u, if_pos (of_eq_true (qltT hv (by omega)))]
      · rw [e2, e, if_neg (of_eq_false (qltF hv1 (by omega)))]
    · rw [t4 15 _ (by omega) (by omega), ← e81 k hk, ← e80]
      exact r4 k hk
    · have e14 : mI T 14 s = mI Q 14 s := t4 14 s (by omega) (by omega)
      have hz : (mI S 80 s).toNatClampNeg ≤ 6 := by
        have := cN_le S s
        rw [z1, qcl (by omega)]
        exact this
      exact (show hM T s n ↔ hM Q s n by unfold hM; rw [e14]).trans ((r5 n hn).trans (hasF_e e80 e81 hz))
theorem rz_pt {M N S : Mem} {o ns : Nat} (ho : isO o) (hR : RZ M S o ns) (hI : ∀ a j, o ≤ a → a < o + 10 → mI N a j = mI M a j ∧ mD N a j = mD M a j) (hRS : RS N S ns) (hPR : PR N S) : RZ N S o ns := by
  have ho2 : o = 18 ∨ o = 28 := ho
  obtain ⟨hRV, hRF, hRT, hRO, -, -⟩ := hR
  have n1 : ∀ a j, o ≤ a ∧ a < o + 10 → mI N a j = mI M a j := fun a j x => (hI a j x.1 x.2).1
  have n2 : ∀ a j, o ≤ a ∧ a < o + 10 → mD N a j = mD M a j := fun a j x => (hI a j x.1 x.2).2
  refine ⟨fun p hp => ?_, fun p hp => ?_, ⟨fun i hi => ?_, ?_⟩, ?_, hRS, hPR⟩
  · rw [n1 _ _ (by omega), n1 _ _ (by omega), n2 _ _ (by omega)]; exact hRV p hp
  · rw [n1 _ _ (by omega), n1 _ _ (by omega), n2 _ _ (by omega)]; exact hRF p hp
  · rw [n1 _ _ (by omega), n1 _ _ (by omega), n2 _ _ (by omega)]; exact hRT.1 i hi
  · rw [n1 _ _ (by omega), n1 _ _ (by omega), n2 _ _ (by omega)]; exact hRT.2
  · unfold RO at hRO ⊢
    rw [n1 o 10 (by omega), n1 o 12 (by omega), n1 o 11 (by omega)]
    exact ⟨hRO.1, hRO.2.1, hRO.2.2.1, fun k hk => by rw [n1 _ _ (by omega)]; exact hRO.2.2.2 k hk⟩
/-- the reference's cells when a run has begun -/
theorem rn_fr {S : Mem} {f : Nat} {x : Int32} {a j : Nat} (h : (a < 105 ∨ 111 < a) ∧ (a ≠ 69 ∨ (j ≠ 0 ∧ j ≠ 48 ∧ j ≠ 52 ∧ j ≠ 57 ∧ j ≠ 58 ∧ j ≠ 59 ∧ j ≠ 67 ∧ j ≠ 68 ∧ j ≠ 71))) : mI (rnM S f x) a j = mI S a j := by
  unfold rnM rn9
  rw [mI_ne (by omega), mI_ne (by omega), mI_ne (by omega), rn_I (by omega)]
  unfold rn0
  rw [mI_ne (by omega), mI_ne (by omega), mI_ne (by omega), mI_ne (by omega), mI_ne (by omega), mI_ne (by omega), mI_ne (by omega), mI_ne (by omega), mI_ne (by omega)]
theorem rn_c {S : Mem} {f : Nat} {x : Int32} : mI (rnM S f x) 69 57 = nI 0 ∧ mI (rnM S f x) 69 58 = nI 0 ∧ mI (rnM S f x) 69 67 = nI 1 ∧ mI (rnM S f x) 69 71 = nI 0 ∧ mI (rnM S f x) 69 68 = -nI 1 := by
  unfold rnM rn9
  refine ⟨?_, ?_, ?_, ?_, ?_⟩
  · rw [mI_ne (by omega), mI_ne (by omega), mI_ne (by omega), rn_I (by omega)]
    unfold rn0
    rw [mI_ne (by omega), mI_ne (by omega), mI_ne (by omega), mI_ne (by omega), mI_ne (by omega), mI_ne (by omega), mI_eq]
  · rw [mI_ne (by omega), mI_ne (by omega), mI_ne (by omega), rn_I (by omega)]
    unfold rn0
    rw [mI_ne (by omega), mI_ne (by omega), mI_ne (by omega), mI_ne (by omega), mI_ne (by omega), mI_eq]
  · rw [mI_ne (by omega), mI_ne (by omega), mI_eq]
  · rw [mI_ne (by omega), mI_eq]
  · rw [mI_eq]
theorem bg_13 {M : Mem} {o f : Nat} {x : Int32} (ho : isO o) : mI (bgN M o f x) o 13 = nI 45 := by
  have ho2 : o = 18 ∨ o = 28 := ho
  unfold bgN puC afM bg0
  rw [mI_sD, mI_ne (by omega), mI_ne (by omega), mI_ne (by omega), afF_I, if_neg (by omega), if_neg (by omega)]
  rw [mI_ne (by omega), mI_ne (by omega), mI_ne (by omega), mI_ne (by omega), mI_ne (by omega), mI_eq]
def wbX (T : Mem) (f : Nat) (x : Int32) : Mem := sI (sI (bgN T 18 f x) 38 7 (nI 0)) 38 8 (nI 0)
/-- the turns may begin -/
theorem sim_start {M S T : Mem} {cnt ns nc nf f : Nat} {x : Int32} (hI : INV M S cnt ns nc nf) (hf : f < nf) (hT : RZ T S 18 ns) (hC : ∀ a j, (a = 67 ∨ 128 < a ∨ (37 < a ∧ a < 49)) → mI T a j = mI M a j) (h2 : T.2.2.2 = M.2.2.2) : SIM (wbX T f x) (rnM S f x) cnt 0 ns 0 nc nf 50002 := by
  obtain ⟨B, H, G, F, b, fg, ob, -, -, h3, h4, h5, h6, h7, h8, h9, h10, h11, -, -⟩ := hI
  obtain ⟨hR, hW⟩ := begin_both (x := x) (.inl rfl) hT h3 hf
  obtain ⟨fr1, fr2⟩ := bg_fr (M := T) (f := f) (x := x) (.inl rfl : isO 18)
  have hX : ∀ a j, (a < 18 ∨ 27 < a) → (a ≠ 38 ∨ (j ≠ 7 ∧ j ≠ 8)) → mI (wbX T f x) a j = mI T a j := fun a j u v => by
    unfold wbX
    rw [mI_ne (by omega), mI_ne (by omega)]
    exact (fr1 a j (by unfold p9; omega)).1
  have hX2 : (wbX T f x).2.2.2 = M.2.2.2 := fr2.trans h2
  have enx : nx (wbX T f x) = nx M := congrArg (fun z => z.2.2.1) hX2
  have hXM : ∀ a j, (a = 67 ∨ 128 < a ∨ (37 < a ∧ a < 49)) → (a ≠ 38 ∨ (j ≠ 7 ∧ j ≠ 8)) → mI (wbX T f x) a j = mI M a j := fun a j u v => (hX a j (by omega) v).trans (hC a j u)
  have e : ∀ a j, (a < 105 ∨ 111 < a) → (a ≠ 69 ∨ (j ≠ 0 ∧ j ≠ 48 ∧ j ≠ 52 ∧ j ≠ 57 ∧ j ≠ 58 ∧ j ≠ 59 ∧ j ≠ 67 ∧ j ≠ 68 ∧ j ≠ 71)) → mI (rnM S f x) a j = mI S a j := fun a j u v => rn_fr ⟨u, v⟩
  obtain ⟨c57, c58, c67, c71, c68⟩ := rn_c (S := S) (f := f) (x := x)
  have c13 : mI (wbX T f x) 18 13 = nI 45 := by
    unfold wbX
    rw [mI_ne (by omega), mI_ne (by omega)]
    exact bg_13 (.inl rfl)
  have c8 : mI (wbX T f x) 38 8 = nI 0 := mI_eq _ _ _ _
  have c7 : mI (wbX T f x) 38 7 = nI 0 := (mI_ne (by omega)).trans (mI_eq _ _ _ _)
  have hRX : RC (wbX T f x) (rnM S f x) 18 0 ns := rc_nm (.inl rfl) hR ⟨fun a j u => by
    unfold wbX
    rw [mI_ne (by omega), mI_ne (by omega)], fun a j u => rfl⟩
  have hRT : RTN (wbX T f x) (rnM S f x) := ⟨(hXM 48 10 (by omega) (by omega)).trans h10.1, c71⟩
  refine ⟨⟨c13, c67⟩, B, H, G, F, b, fg, 0, 2, ⟨hRX, hW, FOR_x h4 (fun a j u => hXM a j (by omega) (by omega)) (fun a j _ => congrArg (fun z => z.1 a j) (show (wbX T f x).2.2.2 = M.2.2.2 from hX2)) (fun a => congrArg (fun z => z.2.1 a) hX2) (Nat.le_of_eq enx.symm) (fun a j u v => e a j (by omega) (by omega)) (fun j u => e 69 j (by omega) (by omega)), HDR_x h5 (fun a j u v => hXM a j (by omega) (by omega)) (fun a j u => e a j (by omega) (by omega)), ⟨?_, ?_, c7.trans c58.symm⟩, fun j => ?_, fun j hj => ?_, his_grw h9 (fun a j u => e a j (by omega) (by omega)) (fun t _ u => (e 89 t (by omega) (by omega)).symm.trans u) h3.2.2.2.1 h3.2.2.2.2.1 (grw_sb h3.2.2.2.1.2.1 (fun a j u v y => e a j (by omega) (by omega))), by rw [enx]; exact h11⟩, .inr (.inl ⟨rfl, c8, c68, hRT⟩), c57, by omega, by omega⟩
  · rw [hXM 38 5 (by omega) (by omega), e 69 23 (by omega) (by omega)]; exact h6.1
  · rw [hXM 38 6 (by omega) (by omega), e 69 24 (by omega) (by omega)]; exact h6.2.1
  · rw [hXM 40 j (by omega) (by omega), hXM 41 j (by omega) (by omega), hXM 42 j (by omega) (by omega), hXM 43 j (by omega) (by omega), e 83 j (by omega) (by omega), e 84 j (by omega) (by omega), e 85 j (by omega) (by omega), e 86 j (by omega) (by omega)]; exact h7 j
  · rw [e 83 j (by omega) (by omega)]; exact h8 j hj
end MY3
