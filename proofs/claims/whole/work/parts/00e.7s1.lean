/-! ===== one step of both, by letter: l, s, u, d, j, z ===== -/
section MS1
theorem ah_core {M S : Mem} {o d ns : Nat} {c x : Int32} (ho : isO o) (hR : RC M S o d ns) : RC (ahM M o c x) S o d ns := by
  obtain ⟨hRV, hRF, hRT, hRO, hRA, hRS, hPR⟩ := hR
  have ho2 : o = 18 ∨ o = 28 := ho
  have e : ∀ a j, (a ≠ o ∨ (j ≠ 7 ∧ j ≠ 8)) → mI (ahM M o c x) a j = mI M a j := fun a j h => by unfold ahM; rw [mI_ne (by omega), mI_ne (by omega)]
  refine ⟨fun p hp => ?_, fun p hp => ?_, ⟨fun i hi => ?_, ?_⟩, ?_, ⟨?_, fun f hf => ?_⟩, ?_, ?_⟩
  · rw [e _ _ (by omega), e _ _ (by omega)]; exact hRV p hp
  · rw [e _ _ (by omega), e _ _ (by omega)]; exact hRF p hp
  · rw [e _ _ (by omega), e _ _ (by omega)]; exact hRT.1 i hi
  · rw [e _ _ (by omega), e _ _ (by omega)]; exact hRT.2
  · unfold RO at hRO ⊢
    rw [e o 10 (by omega), e o 12 (by omega), e o 11 (by omega)]
    exact ⟨hRO.1, hRO.2.1, hRO.2.2.1, fun k hk => by rw [e _ k (by omega)]; exact hRO.2.2.2 k hk⟩
  · rw [e _ _ (by omega)]; exact hRA.1
  · rw [e _ _ (by omega), e _ _ (by omega), e _ _ (by omega)]; exact hRA.2 f hf
  · exact RS_e hRS (fun a p _ _ => e a p (by omega)) (fun p => rfl) (fun p => rfl) (fun p => rfl) (fun p => rfl) (fun p => rfl)
  · exact PR_e hPR (fun a p _ _ => e a p (by omega)) rfl rfl (fun a p _ _ => rfl)
/-- a step of both machines; b: a jump back -/
def STP (M S : Mem) (o d ns ob nc nf : Nat) (a : Int32) (b : Prop) : Prop := ∃ N E, d_X3_execute o M = some (pB b, N) ∧ d_X12_executes S = some ((), E) ∧ ((∃ d2 ns2 ob2, ns ≤ ns2 ∧ ob ≤ ob2 ∧ RC N E o d2 ns2 ∧ WW E d2 ob2 ns2 nc nf ∧ ST M S N E o ∧ (b → d2 = d ∧ mI E 110 d = a ∧ mI E 109 d = mI S 109 d)) ∨ (¬ b ∧ RZ N E o ns ∧ WZ E ob ns nc nf ∧ XE N E o ∧ FS S E ∧ FM M N o))
def AHD (M S : Mem) (o d ns ob nc nf : Nat) (c a : Int32) (b : Prop) : Prop := (∃ x, isCh x = True ∧ ¬ x = nI 0 ∧ d_X12_why S = some (x, S) ∧ d_X3_failureAhead o M = some (x, ahM M o c a)) ∨ (d_X12_why S = some (nI 0, S) ∧ d_X3_failureAhead o M = some (nI 45, ahM M o c a) ∧ STP (ahM M o c a) S o d ns ob nc nf a b)
theorem ahd_of {M S : Mem} {o d ns ob nc nf : Nat} {c a x : Int32} {b : Prop} (hx : isCh x = True) (hy : d_X12_why S = some (x, S)) (hz : d_X3_failureAhead o M = some (wc x, ahM M o c a)) (h : x = nI 0 → STP (ahM M o c a) S o d ns ob nc nf a b) : AHD M S o d ns ob nc nf c a b := by
  by_cases e : x = nI 0
  · subst e; exact .inr ⟨hy, hz, h rfl⟩
  · exact .inl ⟨x, hx, e, hy, hz.trans (by unfold wc; rw [if_neg e])⟩
theorem stp_n {M S N E : Mem} {o d ns ob nc nf q q1 i h e : Nat} {a : Int32} {b : Prop} (ho : isO o) (h1 : d_X3_execute o M = some (pB b, N)) (h2 : d_X12_executes S = some ((), E)) (h3 : NF M N o d q i h e) (h4 : EF S E d q1 i h e) (h5 : RC N E o d ns) (h6 : WW E d ob ns nc nf) (hb : b → nI i = a) : STP M S o d ns ob nc nf a b := ⟨N, E, h1, h2, .inl ⟨d, ns, ob, Nat.le_refl _, Nat.le_refl _, h5, h6, st_of ho h3 h4, fun z => ⟨rfl, h4.2.2.2.2.1.trans (hb z), h4.1 109 d (by omega)⟩⟩⟩
end MS1
