/-! ===== a turn of both: what holds between turns ===== -/
section MU1
/-- a relation looks at the reference's machine alone -/
def SM (S E : Mem) : Prop := (∀ a j, 68 < a → (a < 83 ∨ 104 < a) → a ≠ 108 → a < 118 → (a ≠ 69 ∨ j = 1 ∨ j = 8 ∨ j = 12 ∨ j = 48 ∨ j = 52 ∨ j = 57 ∨ j = 59 ∨ j = 63) → mI E a j = mI S a j) ∧ (∀ j, mD E 107 j = mD S 107 j ∧ mD E 115 j = mD S 115 j) ∧ (∀ j, mL E 117 j = mL S 117 j) ∧ mL E 69 64 = mL S 69 64
theorem sw_sm {S E : Mem} (h : SW S E) : SM S E := ⟨fun a j x y z u v => h.1 a j y z (by omega) (by omega), fun j => ⟨h.2.1 107 j (by omega), h.2.1 115 j (by omega)⟩, fun j => h.2.2 117 j, h.2.2 69 64⟩
theorem sb_sm {S E : Mem} (h : SB S E) : SM S E := ⟨fun a j x y z u v => h.1 a j (by omega) (by omega), fun j => ⟨h.2.1 107 j (by omega), h.2.1 115 j (by omega)⟩, fun j => h.2.2 117 j, h.2.2 69 64⟩
theorem ww_sm {S E : Mem} {d ob ns nc nf : Nat} (hW : WW S d ob ns nc nf) (hB : SM S E) : WW E d ob ns nc nf := by
  obtain ⟨b1, b2, b3⟩ := hB
  obtain ⟨⟨a1, a2, a3⟩, hWV, hWC, hWO, hWF, hWS, hWP, hWE⟩ := hW
  have e : ∀ a j, a ≠ 69 → 68 < a → (a < 83 ∨ 104 < a) → a ≠ 108 → a < 118 → mI E a j = mI S a j := fun a j h1 h0 h2 h3 h4 => b1 a j h0 h2 h3 h4 (by omega)
  have b : ∀ j, j = 48 ∨ j = 52 ∨ j = 12 ∨ j = 1 ∨ j = 8 ∨ j = 57 ∨ j = 59 → mI E 69 j = mI S 69 j := fun j h => b1 69 j (by omega) (by omega) (by omega) (by omega) (by omega)
  refine ⟨⟨(b 48 (by omega)).trans a1, a2, fun f hf => ?_⟩, fun f hf j hj => ?_, ⟨fun p hp => ?_, fun p hp => ?_⟩, ⟨(b 52 (by omega)).trans hWO.1, hWO.2.1, fun k hk => ?_⟩, ?_, ?_, ?_, ?_⟩
  · rw [e 109 f (by omega) (by omega) (by omega) (by omega) (by omega), e 110 f (by omega) (by omega) (by omega) (by omega) (by omega), e 111 f (by omega) (by omega) (by omega) (by omega) (by omega)]; exact a3 f hf
  · rw [e 111 f (by omega) (by omega) (by omega) (by omega) (by omega)] at hj
    rw [e 105 _ (by omega) (by omega) (by omega) (by omega) (by omega), e 106 _ (by omega) (by omega) (by omega) (by omega) (by omega)]; exact hWV f hf j hj
  · rw [e 105 _ (by omega) (by omega) (by omega) (by omega) (by omega)]; exact hWC.1 p hp
  · rw [e 113 _ (by omega) (by omega) (by omega) (by omega) (by omega)]; exact hWC.2 p hp
  · rw [e 112 _ (by omega) (by omega) (by omega) (by omega) (by omega)]; exact hWO.2.2 k hk
  · exact WF_e hWF (fun p => e 80 p (by omega) (by omega) (by omega) (by omega) (by omega)) (fun p => e 81 p (by omega) (by omega) (by omega) (by omega) (by omega)) (fun p => e 112 p (by omega) (by omega) (by omega) (by omega) (by omega)) (fun p => e 113 p (by omega) (by omega) (by omega) (by omega) (by omega)) (fun p => e 114 p (by omega) (by omega) (by omega) (by omega) (by omega))
  · exact WS_e hWS (b 12 (by omega)) (fun p => e 78 p (by omega) (by omega) (by omega) (by omega) (by omega)) (fun p => e 79 p (by omega) (by omega) (by omega) (by omega) (by omega)) (fun p => e 80 p (by omega) (by omega) (by omega) (by omega) (by omega)) (fun p => e 81 p (by omega) (by omega) (by omega) (by omega) (by omega)) (fun p => e 82 p (by omega) (by omega) (by omega) (by omega) (by omega))
  · exact WP_e hWP (b 1 (by omega)) (b 8 (by omega)) (fun a p h1 h2 => e a p (by omega) (by omega) (by omega) (by omega) (by omega))
  · unfold WE at hWE ⊢
    rw [b 57 (by omega), b 59 (by omega)]
    exact hWE
theorem rz_sm {M S E : Mem} {o ns : Nat} (hR : RZ M S o ns) (hB : SM S E) : RZ M E o ns := by
  obtain ⟨b1, b2, b3, b4⟩ := hB
  obtain ⟨hRV, hRF, hRT, hRO, hRS, hPR⟩ := hR
  have e : ∀ a j, a ≠ 69 → 68 < a → (a < 83 ∨ 104 < a) → a ≠ 108 → a < 118 → mI E a j = mI S a j := fun a j h1 h0 h2 h3 h4 => b1 a j h0 h2 h3 h4 (by omega)
  have b : ∀ j, j = 63 ∨ j = 52 ∨ j = 1 ∨ j = 8 ∨ j = 57 ∨ j = 59 → mI E 69 j = mI S 69 j := fun j h => b1 69 j (by omega) (by omega) (by omega) (by omega) (by omega)
  refine ⟨fun p hp => ?_, fun p hp => ?_, ⟨fun i hi => ?_, ?_⟩, ?_, ?_, ?_⟩
  · rw [e 105 _ (by omega) (by omega) (by omega) (by omega) (by omega), e 106 _ (by omega) (by omega) (by omega) (by omega) (by omega), (b2 _).1]; exact hRV p hp
  · rw [e 113 _ (by omega) (by omega) (by omega) (by omega) (by omega), e 114 _ (by omega) (by omega) (by omega) (by omega) (by omega), (b2 _).2]; exact hRF p hp
  · rw [e 116 _ (by omega) (by omega) (by omega) (by omega) (by omega), b3]; exact hRT.1 i hi
  · rw [b 63 (by omega), b4]; exact hRT.2
  · unfold RO at hRO ⊢
    rw [b 52 (by omega), b 57 (by omega), b 59 (by omega)]
    exact ⟨hRO.1, hRO.2.1, hRO.2.2.1, fun k hk => by rw [e 112 _ (by omega) (by omega) (by omega) (by omega) (by omega)]; exact hRO.2.2.2 k hk⟩
  · exact RS_e hRS (fun a p h1 h2 => rfl) (fun p => e 78 p (by omega) (by omega) (by omega) (by omega) (by omega)) (fun p => e 79 p (by omega) (by omega) (by omega) (by omega) (by omega)) (fun p => e 80 p (by omega) (by omega) (by omega) (by omega) (by omega)) (fun p => e 81 p (by omega) (by omega) (by omega) (by omega) (by omega)) (fun p => e 82 p (by omega) (by omega) (by omega) (by omega) (by omega))
  · exact PR_e hPR (fun a p h1 h2 => rfl) (b 1 (by omega)) (b 8 (by omega)) (fun a p h1 h2 => e a p (by omega) (by omega) (by omega) (by omega) (by omega))
theorem rc_sm {M S E : Mem} {o d ns : Nat} (hR : RC M S o d ns) (hB : SM S E) : RC M E o d ns := by
  have hz := rz_sm hR.z hB
  obtain ⟨hRV, hRF, hRT, hRO, hRA, hRS, hPR⟩ := hR
  have e : ∀ a j, 108 < a → a < 112 → mI E a j = mI S a j := fun a j h1 h2 => hB.1 a j (by omega) (by omega) (by omega) (by omega) (by omega)
  exact ⟨hz.1, hz.2.1, hz.2.2.1, hz.2.2.2.1, ⟨hRA.1, fun f hf => by rw [e 109 f (by omega) (by omega), e 110 f (by omega) (by omega), e 111 f (by omega) (by omega)]; exact hRA.2 f hf⟩, hz.2.2.2.2.1, hz.2.2.2.2.2⟩
/-- the class's machine o alone -/
def NM (M N : Mem) (o : Nat) : Prop := (∀ a j, ((o ≤ a ∧ a < o + 10) ∨ (1 < a ∧ a < 18)) → mI N a j = mI M a j) ∧ ∀ a j, o ≤ a ∧ a < o + 10 → mD N a j = mD M a j
theorem rz_nm {M N S : Mem} {o ns : Nat} (ho : isO o) (hR : RZ M S o ns) (h : NM M N o) : RZ N S o ns := by
  obtain ⟨n1, n2⟩ := h
  obtain ⟨hRV, hRF, hRT, hRO, hRS, hPR⟩ := hR
  have ho2 : o = 18 ∨ o = 28 := ho
  refine ⟨fun p hp => ?_, fun p hp => ?_, ⟨fun i hi => ?_, ?_⟩, ?_, ?_, ?_⟩
  · rw [n1 _ _ (by omega), n1 _ _ (by omega), n2 _ _ (by omega)]; exact hRV p hp
  · rw [n1 _ _ (by omega), n1 _ _ (by omega), n2 _ _ (by omega)]; exact hRF p hp
  · rw [n1 _ _ (by omega), n1 _ _ (by omega), n2 _ _ (by omega)]; exact hRT.1 i hi
  · rw [n1 _ _ (by omega), n1 _ _ (by omega), n2 _ _ (by omega)]; exact hRT.2
  · unfold RO at hRO ⊢
    rw [n1 o 10 (by omega), n1 o 12 (by omega), n1 o 11 (by omega)]
    exact ⟨hRO.1, hRO.2.1, hRO.2.2.1, fun k hk => by rw [n1 _ _ (by omega)]; exact hRO.2.2.2 k hk⟩
  · exact RS_e hRS (fun a p h1 h2 => n1 a p (by omega)) (fun _ => rfl) (fun _ => rfl) (fun _ => rfl) (fun _ => rfl) (fun _ => rfl)
  · exact PR_e hPR (fun a p h1 h2 => n1 a p (by omega)) rfl rfl (fun _ _ _ _ => rfl)
theorem rc_nm {M N S : Mem} {o d ns : Nat} (ho : isO o) (hR : RC M S o d ns) (h : NM M N o) : RC N S o d ns := by
  have hz := rz_nm ho hR.z h
  obtain ⟨hRV, hRF, hRT, hRO, hRA, hRS, hPR⟩ := hR
  have n1 := h.1
  exact ⟨hz.1, hz.2.1, hz.2.2.1, hz.2.2.2.1, ⟨(n1 o 9 (by omega)).trans hRA.1, fun f hf => by rw [n1 _ _ (by omega), n1 _ _ (by omega), n1 _ _ (by omega)]; exact hRA.2 f hf⟩, hz.2.2.2.2.1, hz.2.2.2.2.2⟩
/-- behind a part of a run: the reference's cells, the names, the room -/
def MFC (M N : Mem) (c c2 : Nat) : Prop := (∀ a j, (a = 0 ∨ (27 < a ∧ a < 38) ∨ 68 < a) → a < 129 → mI N a j = mI M a j ∧ mD N a j = mD M a j ∧ mL N a j = mL M a j) ∧ c ≤ c2 ∧ nx N = nx M + 11 * (c2 - c) ∧ uC N = uC M + 11 * (c2 - c) ∧ uS N ≤ uS M + 1100 * (c2 - c) ∧ ∀ a, a < nx M → mT N a = mT M a
theorem MF.c {M N : Mem} (h : MF M N) (c : Nat) : MFC M N c c := by
  obtain ⟨h1, h2⟩ := h
  have e3 : nx N = nx M := congrArg (fun z => z.2.1) h2
  have e4 : uC N = uC M := congrArg (fun z => z.2.2.1) h2
  have e5 : uS N = uS M := congrArg (fun z => z.2.2.2) h2
  exact ⟨h1, Nat.le_refl _, by omega, by omega, by omega, fun a _ => congrArg (fun z => z.1 a) h2⟩
theorem MFC.trans {A B C : Mem} {a b c : Nat} (h : MFC A B a b) (k : MFC B C b c) : MFC A C a c := by
  obtain ⟨h1, h2, h3, h4, h5, h6⟩ := h
  obtain ⟨k1, k2, k3, k4, k5, k6⟩ := k
  exact ⟨fun x j y z => ⟨(k1 x j y z).1.trans (h1 x j y z).1, (k1 x j y z).2.1.trans (h1 x j y z).2.1, (k1 x j y z).2.2.trans (h1 x j y z).2.2⟩, by omega, by omega, by omega, by omega, fun x hx => (k6 x (by omega)).trans (h6 x hx)⟩
/-- what holds whatever the mode -/
def BAS (M S : Mem) (B : Nat → Nat) (cnt d ns ob nc nf : Nat) (H G F : Nat → Nat → Mem) (b : Nat → Nat) (fg : Nat → Nat → Nat) : Prop := RC M S 18 d ns ∧ WW S d ob ns nc nf ∧ FOR M S B cnt ∧ HDR M S cnt ∧ WHL M S ∧ CAC M S ∧ CAW S ∧ HIS S cnt H G F b fg ∧ nx M + 11 * (20 - cnt) ≤ 1000000
/-- in trace t -/
def MIN (M S : Mem) (B : Nat → Nat) (cnt d : Nat) (H : Nat → Nat → Mem) (b : Nat → Nat) (t : Nat) : Prop := ∃ st at_ td n eS eR oS oR v val rval, (t < cnt ∧ mI S 89 t = nI 1 ∧ mI S 90 t = nI st ∧ at_ < st ∧ st ≤ 30) ∧ WTR M S B t at_ td ∧ RTN M S ∧ (d = td + n ∧ Sat S (H t at_) td (b t) n eS eR oS oR v val rval) ∧ (mI S 69 52 = nI oS ∧ oS ≤ 60) ∧ (mI (H t at_) 69 52 = nI oR ∧ oR ≤ 60) ∧ v ≤ 168 + 6 * at_
/-- outside -/
def MOU (M S : Mem) : Prop := mI M 38 8 = nI 0 ∧ mI S 69 68 = -nI 1 ∧ RTN M S
/-- whose child the recording is -/
def PAR (M S : Mem) (cnt bb : Nat) (H : Nat → Nat → Mem) (b : Nat → Nat) (fg : Nat → Nat → Nat) (R0 : Mem) : Prop := (mI M 48 13 = -nI 1 → mI R0 69 48 = nI bb ∧ ∃ f i, f < 8 ∧ i < 40 ∧ mI R0 109 bb = nI f ∧ mI R0 110 bb = nI i ∧ mI S 69 74 = nI (40 * f + i) ∧ mI M 47 (40 * f + i) = -nI 1) ∧ ∀ t q, mI M 48 13 = nI t → t < cnt → mI M 48 14 = nI q → q < 120 → mI S 89 t = nI 1 ∧ mI S 104 (120 * t + q) = -nI 1 ∧ mI S 94 t = mI S 69 74 ∧ ∃ kk st n, mI S 90 t = nI st ∧ st ≤ 30 ∧ kk < st ∧ fg t kk ≤ q ∧ q < fg t (kk + 1) ∧ mI (H t kk) 69 48 = nI (b t + n) ∧ n < 12 ∧ FRS (H t kk) R0 (b t) bb n ∧ mI R0 69 48 = nI (bb + n)
/-- the class's lines and first guards -/
def LNS (M S : Mem) (k : Nat) (fg : Nat → Nat) : Prop := ∀ i, i < k → mI M 49 i = mI S 118 i ∧ mI M 50 i = nI (fg i)
/-- recording -/
def MRQ (M S : Mem) (B : Nat → Nat) (cnt d : Nat) (H : Nat → Nat → Mem) (b : Nat → Nat) (fg : Nat → Nat → Nat) (k bb : Nat) : Prop := ∃ v fc φ fgR HR GR FR, (mI M 38 8 = nI 0 ∧ mI S 69 68 = -nI 1) ∧ RTG M S B cnt bb ∧ RECX M S v fc φ (fgR k) k ∧ RFP M S bb d φ v ∧ (bb ≤ d ∧ fgR k ≤ 4 * k ∧ k ≤ 30 ∧ v ≤ 168 + 6 * k ∧ fc ≤ 168 + 6 * k) ∧ RHI S bb k fgR HR GR FR ∧ PAR M S cnt bb H b fg (HR 0) ∧ LNS M S k fgR
def MRC (M S : Mem) (B : Nat → Nat) (cnt d : Nat) (H : Nat → Nat → Mem) (b : Nat → Nat) (fg : Nat → Nat → Nat) (k : Nat) : Prop := ∃ bb, MRQ M S B cnt d H b fg k bb
def MOD (M S : Mem) (B : Nat → Nat) (cnt d : Nat) (H : Nat → Nat → Mem) (b : Nat → Nat) (fg : Nat → Nat → Nat) (x : Nat) : Prop := (∃ t, x = 23 - t ∧ MIN M S B cnt d H b t) ∨ (x = 2 ∧ MOU M S) ∨ (x = 2 ∧ ∃ k, MRC M S B cnt d H b fg k) ∨ (x = 1 ∧ mI M 38 8 = nI 0 ∧ RTN M S ∧ mI S 69 57 = nI 1000)
/-- between two turns -/
def SIM (M S : Mem) (cnt d ns ob nc nf μ : Nat) : Prop := XR M S 18 ∧ ∃ B H G F b fg e x, BAS M S B cnt d ns ob nc nf H G F b fg ∧ MOD M S B cnt d H b fg x ∧ mI S 69 57 = nI e ∧ e ≤ 1000 ∧ 50 * (1000 - e) + x ≤ μ
/-- when the run has ended -/
def FIN (M S : Mem) (cnt ns ob nc nf : Nat) : Prop := ∃ B H G F b fg, RZ M S 18 ns ∧ WZ S ob ns nc nf ∧ XE M S 18 ∧ FOR M S B cnt ∧ HDR M S cnt ∧ WHL M S ∧ CAC M S ∧ CAW S ∧ HIS S cnt H G F b fg ∧ RTN M S ∧ nx M + 11 * (20 - cnt) ≤ 1000000
/-- .. but for the class's breaking off -/
def END (M S : Mem) (cnt ns ob nc nf : Nat) : Prop := ∃ N, d_X10_breakOff M = some ((), N) ∧ MF M N ∧ FIN N S cnt ns ob nc nf ∧ NM M N 18
/-- one turn of the class's loop, of the reference's, of the plain run's -/
def CT (M N : Mem) : Prop := ∀ (k : Int32 → Mem → Option ((Int32 ⊕ String) × Mem)) (x : Int32), ¬ (1000000 : Int32) ≤ x → d_X11_run_78b k x M = k (x + (1 : Int32)) N
def RTS (S E : Mem) : Prop := ∀ (k : Unit → Mem → Option (Int32 × Mem)), d_X12_run_148b k S = k () E
def PT (P Q : Mem) : Prop := ∀ (k : Int32 → Mem → Option (Unit × Mem)) (x : Int32), ¬ (1000000 : Int32) ≤ x → d_X3_runOut_2b k 28 x P = k (x + (1 : Int32)) Q
/-- a turn leads on, or ends the run -/
def TRN (M S P : Mem) (cnt ns nc nf μ : Nat) : Prop := ∃ N E Q cnt2, CT M N ∧ (RTS S E ∨ E = S) ∧ (PT P Q ∨ Q = P) ∧ MFC M N cnt cnt2 ∧ FM P Q 28 ∧ (E45 18 M N ∧ E45 28 P Q) ∧ ((∃ d2 ns2 ob2 μ2, μ2 < μ ∧ GRW S E ns ns2 ∧ SIM N E cnt2 d2 ns2 ob2 nc nf μ2 ∧ RC Q E 28 d2 ns2 ∧ XR Q E 28) ∨ (∃ ns2 ob2, GRW S E ns ns2 ∧ END N E cnt2 ns2 ob2 nc nf ∧ RZ Q E 28 ns2 ∧ XE Q E 28))
end MU1
