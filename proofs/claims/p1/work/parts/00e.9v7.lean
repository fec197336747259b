/-! ===== a call of both, in one memory ===== -/
section MV6
/-- a call of the class in memory M, then of the reference in S -/
def STX {α : Type} (R : Int64 → UInt64 → α → Prop) (c : Mem → Option (Int32 × Mem)) (r : Mem → Option (α × Mem)) (M S : Mem) (cnt : Nat) : Prop := ∃ k v N E c2 ns nc nf, c M = some (k, N) ∧ r S = some (v, E) ∧ mI E 69 0 = k ∧ (k = nI 0 → R (mL N 127 0) (mD N 128 0) v) ∧ INV N E c2 ns nc nf ∧ CFR M N cnt c2 1
abbrev rI : Int64 → UInt64 → Int32 → Prop := fun l _ v => l = v.toInt64
abbrev rL : Int64 → UInt64 → Int64 → Prop := fun l _ v => l = v
abbrev rD : Int64 → UInt64 → UInt64 → Prop := fun _ d v => d = v
abbrev rF : Int64 → UInt64 → UInt32 → Prop := fun _ d v => d = FP.f2d v ∧ FP.Core.fIsNaN v = false
abbrev rB : Int64 → UInt64 → Int32 → Prop := fun l _ v => l = v.toInt64 ∧ (l = 0 ∨ l = 1)
theorem SETR.stx {c r : Mem → Option (Int32 × Mem)} {M S : Mem} {cnt : Nat} (h : SETR c r M S cnt) : STX rI c r M S cnt := by
  obtain ⟨k, v, N, E, ns, nc, nf, h1, h2, h3, h4, h5, h6⟩ := h
  exact ⟨k, v, N, E, cnt, ns, nc, nf, h1, h2, h3, h4, h5, h6⟩
theorem ASK.stx {c r : Mem → Option (Int32 × Mem)} {M S : Mem} {cnt ns nc nf : Nat} (hI : INV M S cnt ns nc nf) (h : ASK c r M S) : STX rI c r M S cnt := by
  obtain ⟨k, v, N, E, h1, h2, h3, h4, h5, h6⟩ := h
  exact ⟨k, v, N, E, cnt, ns, nc, nf, h1, h2, h3, h4, inv_ask hI h5 h6, h5.cfr cnt⟩
theorem ASL.stx {c : Mem → Option (Int32 × Mem)} {r : Mem → Option (Int64 × Mem)} {M S : Mem} {cnt ns nc nf : Nat} (hI : INV M S cnt ns nc nf) (h : ASL c r M S) : STX rL c r M S cnt := by
  obtain ⟨k, v, N, E, h1, h2, h3, h4, h5, h6⟩ := h
  exact ⟨k, v, N, E, cnt, ns, nc, nf, h1, h2, h3, h4, inv_ask hI h5 h6, h5.cfr cnt⟩
theorem ASD.stx {c : Mem → Option (Int32 × Mem)} {r : Mem → Option (UInt64 × Mem)} {M S : Mem} {cnt ns nc nf : Nat} (hI : INV M S cnt ns nc nf) (h : ASD c r M S) : STX rD c r M S cnt := by
  obtain ⟨k, v, N, E, h1, h2, h3, h4, h5, h6⟩ := h
  exact ⟨k, v, N, E, cnt, ns, nc, nf, h1, h2, h3, h4, inv_ask hI h5 h6, h5.cfr cnt⟩
theorem ASF.stx {c : Mem → Option (Int32 × Mem)} {r : Mem → Option (UInt32 × Mem)} {M S : Mem} {cnt ns nc nf : Nat} (hI : INV M S cnt ns nc nf) (h : ASF c r M S) : STX rF c r M S cnt := by
  obtain ⟨k, v, N, E, h1, h2, h3, h4, h5, h6⟩ := h
  exact ⟨k, v, N, E, cnt, ns, nc, nf, h1, h2, h3, h4, inv_ask hI h5 h6, h5.cfr cnt⟩
theorem ASK.stb {c r : Mem → Option (Int32 × Mem)} {M S : Mem} {cnt ns nc nf : Nat} (hI : INV M S cnt ns nc nf) (h : ASK c r M S) (hb : ∀ N, c M = some (nI 0, N) → mL N 127 0 = 0 ∨ mL N 127 0 = 1) : STX rB c r M S cnt := by
  obtain ⟨k, v, N, E, h1, h2, h3, h4, h5, h6⟩ := h
  exact ⟨k, v, N, E, cnt, ns, nc, nf, h1, h2, h3, fun q => ⟨h4 q, hb N (by rw [h1, q])⟩, inv_ask hI h5 h6, h5.cfr cnt⟩
/-- the script, the room -/
def LWM (M E : Mem) (c c2 : Nat) : Prop := ((∀ j, mI E 0 j = mI M 0 j) ∧ mN E 0 = mN M 0) ∧ c ≤ c2 ∧ uC E ≤ uC M + 11 * (c2 - c) + 1 ∧ uS E ≤ uS M + 1100 * (c2 - c) + 6
/-- both in one memory, one behind the other -/
def ST1 {α : Type} (R : Int64 → UInt64 → α → Prop) (c : Mem → Option (Int32 × Mem)) (r : Mem → Option (α × Mem)) (M : Mem) (cnt : Nat) : Prop := ∃ k v N E c2 ns nc nf, c M = some (k, N) ∧ r N = some (v, E) ∧ mI E 69 0 = k ∧ (k = nI 0 → R (mL E 127 0) (mD E 128 0) v) ∧ INV E E c2 ns nc nf ∧ ((∀ j, mI N 0 j = mI M 0 j) ∧ mN N 0 = mN M 0) ∧ LWM M E cnt c2
theorem frp_ec {N E : Mem} (h : FrP pRF N E) : EC N E := ⟨fun a j x => h.1 a j (by omega), congrArg (fun z => z.1) h.2, congrArg (fun z => z.2.1) h.2, congrArg (fun z => z.2.2.1) h.2⟩
theorem cfr_er {M N : Mem} {c c2 k : Nat} (h : CFR M N c c2 k) : ER M N := fun a j x y _ => h.1 a j (by omega) y
theorem inv_nx {M S : Mem} {cnt ns nc nf : Nat} (h : INV M S cnt ns nc nf) : 129 ≤ nx M ∧ cnt ≤ 20 := by
  obtain ⟨B, hF⟩ := inv_f h
  exact ⟨hF.2.2.2.2.1.2.1.1.2, hF.2.2.1⟩
theorem st1 {α : Type} {R : Int64 → UInt64 → α → Prop} {c : Mem → Option (Int32 × Mem)} {r : Mem → Option (α × Mem)} {M : Mem} {cnt ns nc nf : Nat} (hI : INV M M cnt ns nc nf) (h : ∀ S, INV M S cnt ns nc nf → STX R c r M S cnt) (hf : ∀ N z, r N = some z → FrP pRF N z.2) : ST1 R c r M cnt := by
  obtain ⟨k, v0, N, E0, c20, ns0, nc0, nf0, a1, -, -, -, -, a6⟩ := h M hI
  obtain ⟨k2, v, N2, E, c2, ns2, nc2, nf2, b1, b2, b3, b4, b5, b6⟩ := h N (inv_S hI (cfr_er a6))
  have e := Option.some.inj (a1.symm.trans b1)
  obtain rfl : k = k2 := congrArg Prod.fst e
  obtain rfl : N = N2 := congrArg Prod.snd e
  have f := hf N _ b2
  have ec := frp_ec f
  have hnx := (inv_nx hI).1
  have eT : mN N 0 = mN M 0 := congrArg (fun z => z.2) (b6.2.2.2.2.2 0 (by omega))
  have fT : mN E 0 = mN N 0 := congrArg (fun z => (z.2.1 0).2) f.2
  have fC : uC E = uC N := congrArg (fun z => z.2.2.2.1) f.2
  have fS : uS E = uS N := congrArg (fun z => z.2.2.2.2) f.2
  have b60 : ∀ j, mI N 0 j = mI M 0 j := fun j => (b6.1 0 j (by omega) (by omega)).1
  refine ⟨k, v, N, E, c2, ns2, nc2, nf2, a1, b2, b3, fun q => ?_, inv_M b5 ec, ⟨b60, eT⟩, ⟨fun j => ((f.1 0 j (by omega)).1).trans (b60 j), fT.trans eT⟩, b6.2.1, ?_, ?_⟩
  · rw [(f.1 127 0 (by omega)).2.2, (f.1 128 0 (by omega)).2.1]
    exact b4 q
  · rw [fC]; exact b6.2.2.2.1
  · rw [fS]; exact b6.2.2.2.2.1
/-- an ask that answers at once -/
theorem st0 {c r : Mem → Option (Int32 × Mem)} {M : Mem} {cnt ns nc nf : Nat} (hI : INV M M cnt ns nc nf) (h : ASI c r M M) (hf : ∀ N z, r N = some z → FrP pRF N z.2) : ∃ v E, c M = some (v, M) ∧ r M = some (v, E) ∧ INV E E cnt ns nc nf ∧ LWM M E cnt cnt := by
  obtain ⟨v, E, h1, h2, h3⟩ := h
  have f := hf M _ h2
  have fT : mN E 0 = mN M 0 := congrArg (fun z => (z.2.1 0).2) f.2
  have fC : uC E = uC M := congrArg (fun z => z.2.2.2.1) f.2
  have fS : uS E = uS M := congrArg (fun z => z.2.2.2.2) f.2
  exact ⟨v, E, h1, h2, inv_M (inv_S hI h3.er) (frp_ec f), ⟨fun j => (f.1 0 j (by omega)).1, fT⟩, Nat.le_refl _, by rw [fC]; omega, by rw [fS]; omega⟩
/-- a run -/
theorem s_run {M S : Mem} {cnt ns nc nf : Nat} {x1 x2 : Int32} (hI : INV M S cnt ns nc nf) : STX rI (d_L_run x1 x2) (d_X12_run x1 x2) M S cnt := by
  obtain ⟨ob, hR, hW, -⟩ := inv_m hI
  have hWP := hW.2.2.2.2.1
  have hPR := hR.2.2.2.2.2
  have hnf : nf ≤ 8 := hWP.2.1
  have h1 : mI S 69 1 = nI nf := hWP.1
  have h28 : mI M 2 8 = nI nf := hPR.2.1.trans h1
  have h1' : mI (sI S 69 0 (0 : Int32)) 69 1 = nI nf := (mI_ne (by omega)).trans h1
  rcases idx_c x1 nf (by omega) with ⟨f, hf, rfl⟩ | hx
  · have hv : vp_in (nI f) 8 := of_eq_true (qinT (by omega) (by omega))
    have hcl : (nI f).toNatClampNeg = f := qcl (by omega)
    have e3 : mI M 3 f = mI S 70 f := (hPR.1 f).1
    by_cases q : mI S 70 f = (0 : Int32)
    · refine ASK.stx hI (ask_t (k := nI 2) (v := nI 0) (E := sI (sI S 69 0 (0 : Int32)) 69 0 (2 : Int32)) (lE2_run ?_) ?_ (mI_eq _ _ _ _) n2n ((sc_1 _ _).trans (sc_1 _ _)))
      · unfold d_X11_run
        rw [cl_need hf hnf h28]
        simp only [obind]
        rw [okk_pos hv, hcl, if_pos (e3.trans q)]
      · unfold d_X12_run
        rw [bnd_eq, if_T hf hnf h1']
        simp only [obind]
        rw [if_neg n1z, okk_pos hv, hcl, mI_ne (by omega), if_pos q]
        rfl
    · obtain ⟨N, E, c2, ns2, u1, u2, u3, u4⟩ := run_pair (x := x2) hI hf q
      have h69 : mI E 69 0 = nI 0 := run_0 hf hnf h1 q u2
      refine ⟨nI 0, mI E 69 57, sL N 127 0 (mI E 69 57).toInt64, E, c2, ns2, nc, nf, lT_run u1, u2, h69, fun _ => mL_eq _ _ _ _, inv_M u3 (nc_L _ _).ec, ?_⟩
      have c2' := u4.trans ((nc_L N (mI E 69 57).toInt64).cfr c2)
      rw [Nat.zero_add] at c2'
      exact c2'
  · refine ASK.stx hI (ask_t (k := nI 1) (v := nI 0) (E := sI (sI S 69 0 (0 : Int32)) 69 0 (1 : Int32)) (lE1_run ?_) ?_ (mI_eq _ _ _ _) n1n ((sc_1 _ _).trans (sc_1 _ _)))
    · unfold d_X11_run
      rw [cl_needF h28 hx]
      rfl
    · unfold d_X12_run
      rw [bnd_eq, if_F hnf h1' hx]
      simp only [obind]
      rw [if_pos z00]
      rfl
end MV6
