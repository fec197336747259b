/-! ===== calls in V ===== -/
section VMC
variable {k k' : MI} {pc : Nat} {lv : List (Nat × Value)} {st avs : List Value} {nc ns nc1 ns1 : Nat} {M : Mem} {Q : xQ} {X : xX}
abbrev xQc (D : xG) (base : Nat) (M : Mem) (ad : Nat → Nat) (Q : xQ) : Array Value → State → Outcome → State → Prop := fun _ st o t => ∃ (r rv : Option Value) (M' : Mem) (ad' : Nat → Nat), o = .returned rv ∧ xRo ad' M' r rv ∧ Q r M' ∧ xExt M ad M' ad' ∧ xW D base ad' M' t ∧ va_F (xA base) st t
abbrev xXc (D : xG) (base : Nat) (M : Mem) (ad : Nat → Nat) (X : xX) : String → State → State → Prop := fun E st t => ∃ (M' : Mem) (ad' : Nat → Nat), X E M' ∧ xExt M ad M' ad' ∧ xW D base ad' M' t ∧ va_F (xA base) st t
theorem xcall_fin {p : Program} {l : Launch} {e : Env} {R : Room} {s : State} {m : MethodId} {args : Array Value} {below : List Frame} {meth : Method} {c : Code} {base : Nat} {D : xG} {Z : State → Prop} {M0 : Mem} {ad0 : Nat → Nat} {mc ms : Nat}
    {ad : Nat → Nat} {H : Heap} {locs : List Loc} {cells slots : Nat} {d : Drawn} {ls : Array Slot} {rst rest : List Value} {aa : Array Value} {T : State}
    (hF : xFix k p l R s m args below meth c base D Z M0 ad0 mc ms Q X) (hN : xNow k s base D M0 ad0 M ad H locs cells slots mc ms nc ns d lv ls) (hst : xRvs ad M st rest) (h1 : nc1 ≤ nc) (h2 : ns1 ≤ ns) (hT : T.heap = H)
    (out : xd_Out p l e R (s.setDrawn d) m args below meth c T (F0 m pc ls rst) rest aa locs cells slots (PostOf (xQc D base M ad (fun r M' => V k (pc + 3) lv (r.toList ++ st) (nc - nc1) (ns - ns1) M' Q X)) nc1 ns1 (xA base)) (vx_Post (xXc D base M ad (fun E M' => VT k pc lv E (nc - nc1) (ns - ns1) M' Q X)) nc1 ns1 (xA base))) :
    ∃ t, Steps p.tables e below (T.setTop (F0 m pc ls rst)) t ∧ Z t := by
  obtain ⟨a1, a2, a3, a4, a5, a6, lvr, a7, a8⟩ := hN
  rcases out with ⟨v, vm₁, ⟨U', l2, c2, s2⟩, d', hd', hW₁, X', ⟨g', mk, t, L, e1, e2, ⟨r, rv, M', ad', eo, hro, hV, hE, ⟨b1, b2, b3, b4⟩, hfr⟩, q1, hL, q2, q3⟩, stp⟩ | ⟨q, vm₁, ⟨U', l2, c2, s2⟩, d', hd', hW₁, X', ⟨g', mk, t, L, E, ce, e1, e2, ⟨M', ad', hV, hE, ⟨b1, b2, b3, b4⟩, hfr⟩, hce, hcv, hcl, q1, hL, q2, q3⟩, stp⟩
  · dsimp only [Pt.U, Pt.locs, Pt.cells, Pt.slots] at X' e1 e2 q1 q2 q3 stp
    cases eo
    subst q1; subst q2; subst q3
    have hd2 : s.drawn.sameBut d' lw_cs := Drawn.sameBut.trans a3 hd'
    have hst0 : (((T.setVm vm₁).setDrawn d').calling g' mk aa).heap = H := hT
    obtain ⟨f1, f2, f3⟩ := vx_keep (A0 := xA base) (A1 := xA base) (free := xA base) (L := L) hst0 e1 a2 (fun _ _ h => h) (fun _ h => h) hL hfr
    obtain ⟨t2, z1, z2⟩ := hV p l e R s m args below meth c base D Z M0 ad0 mc ms ad' U'.heap (locs ++ L) (cells + nc1) (slots + ns1) d' ls (v.toList ++ rest) hF
      ⟨by rw [e1]; exact b2, f3, hd2, by omega, by omega, xExt_trans a6 hE, lvr, a7, xRl_ext hE a8⟩ (xRvs_join (xRo_list hro) (xRvs_ext hE hst)) U' rfl X'
    exact ⟨t2, stp t2 z1, z2⟩
  · dsimp only [Pt.U, Pt.locs, Pt.cells, Pt.slots] at X' e1 e2 q1 q2 q3 stp hcl
    subst q1; subst q2; subst q3
    have hd2 : s.drawn.sameBut d' lw_cs := Drawn.sameBut.trans a3 hd'
    have hst0 : (((T.setVm vm₁).setDrawn d').calling g' mk aa).heap = H := hT
    obtain ⟨f1, f2, f3⟩ := vx_keep (A0 := xA base) (A1 := xA base) (free := xA base) (L := L) hst0 e1 a2 (fun _ _ h => h) (fun _ h => h) hL hfr
    have hcl' : s.vm.findClass E = some ce.cls := by
      have hW1' : s.WarmedH vm₁ := hW₁
      rw [← hW1'.alike.findClass]; exact hcl
    obtain ⟨t2, z1, z2⟩ := hV p l e R s m args below meth c base D Z M0 ad0 mc ms ad' U'.heap (locs ++ L) (cells + nc1) (slots + ns1) d' ls rest q ce hF
      ⟨by rw [e1]; exact b2, f3, hd2, by omega, by omega, xExt_trans a6 hE, lvr, a7, xRl_ext hE a8⟩ (by rw [e1]; exact hce) hcv hcl' U' rfl X'
    exact ⟨t2, stp.trans z1, z2⟩
/-- what a caller must know of a callee -/
def kOK (k' : MI) (n : Nat) : Prop := (kY k').cls ≠ "java/lang/invoke/MethodHandle" ∧ (kY k').cls ≠ "java/lang/invoke/VarHandle" ∧ (parseMethodDescriptor (kY k').desc).map (fun d => d.parameters.length) = some n
theorem kOK_len {n : Nat} (h : kOK k' n) : ∀ sig, parseMethodDescriptor (kY k').desc = some sig → n = sig.parameters.length := fun sig hs => by
  have h3 := h.2.2
  rw [hs] at h3
  exact (Option.some.inj h3).symm
theorem xblind {D : xG} {base : Nat} {ad : Nat → Nat} {ravs : List Value} : FrameBlind (fun a U => a = ravs.toArray ∧ xW D base ad M U) := fun a U g mk q => by
  obtain ⟨e, b1, b2, b3, b4⟩ := q
  exact ⟨e, b1, b2, xKn_move (u := U) (U := U.calling g mk a) (Vm.Alike.refl U.vm) b3, xEv_move (s := U) (U := U.calling g mk a) (State.WarmedH.refl U) (fun _ _ _ => rfl) b4⟩
theorem xd_backK {l : Launch} {R : Room} {p : Program} {e : Env} {below : List Frame} {s : State} {args : Array Value} {D : xG} {base : Nat} {ad : Nat → Nat} {ravs : List Value} {Q' : xQ} {X' : xX} (hC : CTk k' nc1 ns1 avs M Q' X') (hfl : l.flags = flags0) (hrv : xRvs ad M avs ravs)
    (hts : ∀ w ∈ xTs, w.before args s = true) (hhd : kHd k' ∈ xTs) (hini : Cond.initialized (kY k').cls ∈ xTs) (hfr : kDep k' + 1 ≤ R.frames) (hlo : 8 + (kNL k' + 11) + kLoc k' ≤ R.locals) :
    xd_Back l R p e below s args (kY k') 3 8 (PreOf R nc1 ns1 (fun a U => a = ravs.toArray ∧ xW D base ad M U)) (PostOf (xQc D base M ad Q') nc1 ns1 (xA base)) (vx_Post (xXc D base M ad X') nc1 ns1 (xA base)) := by
  have hgood : ∀ w ∈ xTs, ∀ (a' : Array Value) (U : State), s.WarmedH U.vm → w.before a' U = true := fun w hw a' U hW => word_at hW (good_of_word (List.mem_filter.mp hw).2) (hts w hw)
  exact xd_back (maxL := kNL k') (hC l base D ad ravs hfl hrv) xblind rfl rfl hfr hlo (fun w hw a' U hW => by
    rcases List.mem_cons.mp hw with h | h
    · rw [h]; exact hgood _ hhd a' U hW
    · exact hgood _ h a' U hW)
    (fun a' U mk hW hn => by
      obtain ⟨meth, c, h1, h2, -, h4, -⟩ := kHd_spec (hgood _ hhd a' U hW) hn
      exact ⟨meth, c, h1, h2, h4⟩) (fun a' U hW => hgood _ hini a' U hW)
theorem kHd_of {hh : kHH k' = []} : kHd k' = .code (kY k') (kCC k') (kNL k') (kRet k') := if_pos hh
set_option maxHeartbeats 1000000 in
theorem V_callV {a t n : Nat} {index : Nat} (hd : decode (kCC k) pc = .ok (.invokevirtual index, 3)) (hl : Cond.methodLink (kOwn k) index (kY k') ∈ xTs) (hi : Cond.instanceMethod (kY k') ∈ xTs) (hs : Cond.selects (kY k').cls (kY k') (kY k') ∈ xTs) (hhd : kHd k' ∈ xTs) (hh : kHH k' = []) (hini : Cond.initialized (kY k').cls ∈ xTs)
    (hok : kOK k' n) (hn : avs.length = n) (ht : mK M a = t) (ht1 : 1 ≤ t ∧ t ≤ 12) (hC : (vmQ t).1 = (kY k').cls) (hcat : (st.map fun v => v.category).sum ≤ 8) (hdep : kDep k' + 1 ≤ kDep k) (hloc : 8 + (kNL k' + 11) + kLoc k' ≤ kLoc k) (h1 : nc1 ≤ nc) (h2 : ns1 ≤ ns)
    (kk : CTk k' nc1 ns1 (.ref a :: avs) M (fun r M' => V k (pc + 3) lv (r.toList ++ st) (nc - nc1) (ns - ns1) M' Q X) (fun E M' => VT k pc lv E (nc - nc1) (ns - ns1) M' Q X)) :
    V k pc lv (avs.reverse ++ .ref a :: st) nc ns M Q X := by
  intro p l e R s m args below meth c base D Z M0 ad0 mc ms ad H locs cells slots d ls rst hF hN hst T hT Xs
  have hF' := hF
  have hN' := hN
  obtain ⟨hx, hb, hml, hlk, hret, hnm, htb, hown, hts, hfl, hKn, hEv, hbase, hRf, hRl, hRc, hRs, hE⟩ := hF
  obtain ⟨a1, a2, a3, a4, a5, a6, lvr, a7, a8⟩ := hN
  obtain ⟨y1, y2, rfl, e1, e2⟩ := xRvs_app hst
  obtain ⟨y3, y4, rfl, e3, e4⟩ := xRvs_cons e2
  obtain ⟨rfl, hka⟩ := e3
  have hrev : xRvs ad M avs y1.reverse := by have := xRvs_rev e1; rwa [List.reverse_reverse] at this
  have hts' : ∀ w ∈ xTs, w.before args (s.setDrawn d) = true := dr_words hts d
  have hbk := xd_backK (p := p) (e := e) (below := below) (R := R) (D := D) (base := base) (ravs := .ref (ad a) :: y1.reverse) kk hfl ⟨⟨rfl, hka⟩, hrev⟩ hts' hhd hini (by omega) (by omega)
  obtain ⟨⟨cell, Vb, g1, g2, g3, g4, g5, g6⟩, -⟩ := a1.1 a hka
  rw [ht] at g2
  have hcls : (s.setDrawn d).vm.findClass (kY k').cls = some cell.cls := by rw [g2, ← hC]; exact (hKn.1 t ht1.1 ht1.2).2.1
  have hcode : (Cond.code (kY k') (kCC k') (kNL k') (kRet k')).before args (s.setDrawn d) = true := by rw [← kHd_of (hh := hh)]; exact hts' _ hhd
  have hcd := xRvs_cat e4
  exact xcall_fin (rest := y4) (aa := (.ref (ad a) :: y1.reverse : List Value).toArray) hF' hN' e4 h1 h2 hT
    (xd_callV Xs hx (C := (kY k').cls) (own := kOwn k) (index := index) hown (hts' _ hl) (hts' _ hi) (hts' _ hs) hcode ⟨hok.1, hok.2.1⟩ hbk (b := ad a) (cellB := cell) (by rw [hT]; exact g1) (by rw [g3.2.2 (by omega)]; rfl) hcls (g := F0 m pc ls (y1 ++ .ref (ad a) :: y4)) rfl (a7.1.trans hml.symm) (argsL := y1.reverse) (rest := y4)
      (fun sig hsig => by rw [xRvs_len hrev, hn]; exact kOK_len hok sig hsig) (by rw [List.reverse_reverse]) (lv_room (by rw [hcd]; exact hcat)) (by rw [hb]; exact hd)
      (fun vm₁ hW => ⟨by show cells + nc1 ≤ _; omega, by show slots + ns1 ≤ _; omega, rfl, by show base ≤ T.heap.size; rw [hT]; exact Nat.le_trans hbase a2.1, by show xRep D ad base M T.heap; rw [hT]; exact a1, xKn_move (u := s) (U := T.setVm vm₁) (show s.vm.Alike vm₁ from (show s.WarmedH vm₁ from hW).alike) hKn, by
        show xEv base ad (T.setVm vm₁) T.heap
        rw [hT]
        exact xEv_ad a6.2 (xEv_move (s := s) (U := T.setVm vm₁) (show s.WarmedH vm₁ from hW) (fun q g1 g2 => a2.2.1 q g1 g2) hEv)⟩))
set_option maxHeartbeats 1000000 in
theorem V_callI {a n : Nat} {index : Nat} (hd : decode (kCC k) pc = .ok (.invokespecial index, 3)) (hl : Cond.methodLink (kOwn k) index (kY k') ∈ xTs) (hi : Cond.instanceMethod (kY k') ∈ xTs) (hhd : kHd k' ∈ xTs) (hh : kHH k' = []) (hrt : kRet k' = none) (hini : Cond.initialized (kY k').cls ∈ xTs)
    (hok : kOK k' n) (hy : (kY k').name = "<init>") (hn : avs.length = n) (hcat : (st.map fun v => v.category).sum ≤ 8) (hdep : kDep k' + 1 ≤ kDep k) (hloc : 8 + (kNL k' + 11) + kLoc k' ≤ kLoc k) (h1 : nc1 ≤ nc) (h2 : ns1 ≤ ns)
    (kk : CTk k' nc1 ns1 (.ref a :: avs) M (fun r M' => V k (pc + 3) lv (r.toList ++ st) (nc - nc1) (ns - ns1) M' Q X) (fun E M' => VT k pc lv E (nc - nc1) (ns - ns1) M' Q X)) :
    V k pc lv (avs.reverse ++ .ref a :: st) nc ns M Q X := by
  intro p l e R s m args below meth c base D Z M0 ad0 mc ms ad H locs cells slots d ls rst hF hN hst T hT Xs
  have hF' := hF
  have hN' := hN
  obtain ⟨hx, hb, hml, hlk, hret, hnm, htb, hown, hts, hfl, hKn, hEv, hbase, hRf, hRl, hRc, hRs, hE⟩ := hF
  obtain ⟨a1, a2, a3, a4, a5, a6, lvr, a7, a8⟩ := hN
  obtain ⟨y1, y2, rfl, e1, e2⟩ := xRvs_app hst
  obtain ⟨y3, y4, rfl, e3, e4⟩ := xRvs_cons e2
  obtain ⟨rfl, hka⟩ := e3
  have hrev : xRvs ad M avs y1.reverse := by have := xRvs_rev e1; rwa [List.reverse_reverse] at this
  have hts' : ∀ w ∈ xTs, w.before args (s.setDrawn d) = true := dr_words hts d
  have hbk := xd_backK (p := p) (e := e) (below := below) (R := R) (D := D) (base := base) (ravs := .ref (ad a) :: y1.reverse) kk hfl ⟨⟨rfl, hka⟩, hrev⟩ hts' hhd hini (by omega) (by omega)
  have hcode : (Cond.code (kY k') (kCC k') (kNL k') none).before args (s.setDrawn d) = true := by rw [← hrt, ← kHd_of (hh := hh)]; exact hts' _ hhd
  have hcd := xRvs_cat e4
  exact xcall_fin (rest := y4) (aa := (.ref (ad a) :: y1.reverse : List Value).toArray) hF' hN' e4 h1 h2 hT
    (xd_callI Xs hx (own := kOwn k) (index := index) hown hy (hts' _ hl) (hts' _ hi) hcode ⟨hok.1, hok.2.1⟩ hbk (g := F0 m pc ls (y1 ++ .ref (ad a) :: y4)) rfl (a7.1.trans hml.symm) (a := ad a) (argsL := y1.reverse) (rest := y4)
      (fun sig hsig => by rw [xRvs_len hrev, hn]; exact kOK_len hok sig hsig) (by rw [List.reverse_reverse]) (lv_room (by rw [hcd]; exact hcat)) (by rw [hb]; exact hd)
      (fun vm₁ hW => ⟨by show cells + nc1 ≤ _; omega, by show slots + ns1 ≤ _; omega, rfl, by show base ≤ T.heap.size; rw [hT]; exact Nat.le_trans hbase a2.1, by show xRep D ad base M T.heap; rw [hT]; exact a1, xKn_move (u := s) (U := T.setVm vm₁) (show s.vm.Alike vm₁ from (show s.WarmedH vm₁ from hW).alike) hKn, by
        show xEv base ad (T.setVm vm₁) T.heap
        rw [hT]
        exact xEv_ad a6.2 (xEv_move (s := s) (U := T.setVm vm₁) (show s.WarmedH vm₁ from hW) (fun q g1 g2 => a2.2.1 q g1 g2) hEv)⟩))
set_option maxHeartbeats 1000000 in
theorem V_callS {n : Nat} {index : Nat} (hd : decode (kCC k) pc = .ok (.invokestatic index, 3)) (hl : Cond.methodLink (kOwn k) index (kY k') ∈ xTs) (hi : Cond.static (kY k') ∈ xTs) (hhd : kHd k' ∈ xTs) (hini : Cond.initialized (kY k').cls ∈ xTs)
    (hok : kOK k' n) (hn : avs.length = n) (hcat : (st.map fun v => v.category).sum ≤ 8) (hdep : kDep k' + 1 ≤ kDep k) (hloc : 8 + (kNL k' + 11) + kLoc k' ≤ kLoc k) (h1 : nc1 ≤ nc) (h2 : ns1 ≤ ns)
    (kk : CTk k' nc1 ns1 avs M (fun r M' => V k (pc + 3) lv (r.toList ++ st) (nc - nc1) (ns - ns1) M' Q X) (fun E M' => VT k pc lv E (nc - nc1) (ns - ns1) M' Q X)) :
    V k pc lv (avs.reverse ++ st) nc ns M Q X := by
  intro p l e R s m args below meth c base D Z M0 ad0 mc ms ad H locs cells slots d ls rst hF hN hst T hT Xs
  have hF' := hF
  have hN' := hN
  obtain ⟨hx, hb, hml, hlk, hret, hnm, htb, hown, hts, hfl, hKn, hEv, hbase, hRf, hRl, hRc, hRs, hE⟩ := hF
  obtain ⟨a1, a2, a3, a4, a5, a6, lvr, a7, a8⟩ := hN
  obtain ⟨y1, y4, rfl, e1, e4⟩ := xRvs_app hst
  have hrev : xRvs ad M avs y1.reverse := by have := xRvs_rev e1; rwa [List.reverse_reverse] at this
  have hts' : ∀ w ∈ xTs, w.before args (s.setDrawn d) = true := dr_words hts d
  have hbk := xd_backK (p := p) (e := e) (below := below) (R := R) (D := D) (base := base) (ravs := y1.reverse) kk hfl hrev hts' hhd hini (by omega) (by omega)
  obtain ⟨mk, hnamed⟩ := kHd_named (hts' _ hhd)
  obtain ⟨methM, cM, hmethM, -, -, -, -, -, hsigM, -⟩ := kHd_spec (hts' _ hhd) hnamed
  have hcd := xRvs_cat e4
  exact xcall_fin (rest := y4) (aa := (y1.reverse : List Value).toArray) hF' hN' e4 h1 h2 hT
    (xd_callS Xs hx (own := kOwn k) (index := index) hown (hts' _ hl) (hts' _ hi) (hts' _ hini) hnamed hmethM hsigM ⟨hok.1, hok.2.1⟩ hbk (g := F0 m pc ls (y1 ++ y4)) rfl (a7.1.trans hml.symm) (argsL := y1.reverse) (rest := y4)
      (fun sig hsig => by rw [xRvs_len hrev, hn]; exact kOK_len hok sig hsig) (by rw [List.reverse_reverse]) (lv_room (by rw [hcd]; exact hcat)) (by rw [hb]; exact hd)
      (fun vm₁ hW => ⟨by show cells + nc1 ≤ _; omega, by show slots + ns1 ≤ _; omega, rfl, by show base ≤ T.heap.size; rw [hT]; exact Nat.le_trans hbase a2.1, by show xRep D ad base M T.heap; rw [hT]; exact a1, xKn_move (u := s) (U := T.setVm vm₁) (show s.vm.Alike vm₁ from (show s.WarmedH vm₁ from hW).alike) hKn, by
        show xEv base ad (T.setVm vm₁) T.heap
        rw [hT]
        exact xEv_ad a6.2 (xEv_move (s := s) (U := T.setVm vm₁) (show s.WarmedH vm₁ from hW) (fun q g1 g2 => a2.2.1 q g1 g2) hEv)⟩))
set_option maxHeartbeats 1000000 in
theorem V_callN {n : Nat} {index : Nat} {host : String} (hd : decode (kCC k) pc = .ok (.invokestatic index, 3)) (hl : Cond.methodLinkNest (kOwn k) index (kY k') host ∈ xT2) (hi : Cond.static (kY k') ∈ xTs) (hhd : kHd k' ∈ xTs) (hini : Cond.initialized (kY k').cls ∈ xTs)
    (hok : kOK k' n) (hn : avs.length = n) (hcat : (st.map fun v => v.category).sum ≤ 8) (hdep : kDep k' + 1 ≤ kDep k) (hloc : 8 + (kNL k' + 11) + kLoc k' ≤ kLoc k) (h1 : nc1 ≤ nc) (h2 : ns1 ≤ ns)
    (kk : CTk k' nc1 ns1 avs M (fun r M' => V k (pc + 3) lv (r.toList ++ st) (nc - nc1) (ns - ns1) M' Q X) (fun E M' => VT k pc lv E (nc - nc1) (ns - ns1) M' Q X)) :
    V k pc lv (avs.reverse ++ st) nc ns M Q X := by
  intro p l e R s m args below meth c base D Z M0 ad0 mc ms ad H locs cells slots d ls rst hF hN hst T hT Xs
  have hF' := hF
  have hN' := hN
  obtain ⟨hx, hb, hml, hlk, hret, hnm, htb, hown, hts, hfl, hKn, hEv, hbase, hRf, hRl, hRc, hRs, hE⟩ := hF
  obtain ⟨a1, a2, a3, a4, a5, a6, lvr, a7, a8⟩ := hN
  obtain ⟨y1, y4, rfl, e1, e4⟩ := xRvs_app hst
  have hrev : xRvs ad M avs y1.reverse := by have := xRvs_rev e1; rwa [List.reverse_reverse] at this
  have hts' : ∀ w ∈ xTs, w.before args (s.setDrawn d) = true := dr_words hts d
  have hbk := xd_backK (p := p) (e := e) (below := below) (R := R) (D := D) (base := base) (ravs := y1.reverse) kk hfl hrev hts' hhd hini (by omega) (by omega)
  have hlk2 : (Cond.methodLinkNest (kOwn k) index (kY k') host).before args (s.setDrawn d) = true := (va_Nw.same rfl (u := s) (U := s.setDrawn d) rfl (hEv.2.2.2.2.2.1 _ hl)).use rfl
  obtain ⟨mk, hnamed⟩ := kHd_named (hts' _ hhd)
  obtain ⟨methM, cM, hmethM, -, -, -, -, -, hsigM, -⟩ := kHd_spec (hts' _ hhd) hnamed
  have hcd := xRvs_cat e4
  exact xcall_fin (rest := y4) (aa := (y1.reverse : List Value).toArray) hF' hN' e4 h1 h2 hT
    (xd_callSN Xs hx (own := kOwn k) (index := index) hown hlk2 (hts' _ hi) (hts' _ hini) hnamed hmethM hsigM ⟨hok.1, hok.2.1⟩ hbk (g := F0 m pc ls (y1 ++ y4)) rfl (a7.1.trans hml.symm) (argsL := y1.reverse) (rest := y4)
      (fun sig hsig => by rw [xRvs_len hrev, hn]; exact kOK_len hok sig hsig) (by rw [List.reverse_reverse]) (lv_room (by rw [hcd]; exact hcat)) (by rw [hb]; exact hd)
      (fun vm₁ hW => ⟨by show cells + nc1 ≤ _; omega, by show slots + ns1 ≤ _; omega, rfl, by show base ≤ T.heap.size; rw [hT]; exact Nat.le_trans hbase a2.1, by show xRep D ad base M T.heap; rw [hT]; exact a1, xKn_move (u := s) (U := T.setVm vm₁) (show s.vm.Alike vm₁ from (show s.WarmedH vm₁ from hW).alike) hKn, by
        show xEv base ad (T.setVm vm₁) T.heap
        rw [hT]
        exact xEv_ad a6.2 (xEv_move (s := s) (U := T.setVm vm₁) (show s.WarmedH vm₁ from hW) (fun q g1 g2 => a2.2.1 q g1 g2) hEv)⟩))
end VMC
