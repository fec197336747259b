/-! ===== new NoSuchElementException(text): its own constructor hands the text on by another index than the others' ===== -/
section VXN
def nsX : String := "java/util/NoSuchElementException"
def nsB : ByteArray := prog_40_method_4_code
theorem nsB_0 : decode nsB 0 = .ok (.aload_n 0, 1) := by decide +kernel
theorem nsB_1 : decode nsB 1 = .ok (.aload_n 1, 1) := by decide +kernel
theorem nsB_2 : decode nsB 2 = .ok (.invokespecial 13, 3) := by decide +kernel
theorem nsB_5 : decode nsB 5 = .ok (.return_, 1) := by decide +kernel
/-- the words of this throw -/
def nsAtoms (own : String) (ic : Nat) : List Cond :=
  Bundle.throwableAtoms ++ (Bundle.throwableSAtoms ++ (Bundle.passSAtoms nsX "java/lang/RuntimeException" 13 nsB ++ (Bundle.chainSAtoms "java/lang/RuntimeException" ["java/lang/Exception"] ++
  [.methodLink own ic (Bundle.initS nsX), .instantiable nsX 6, .castable nsX nsX, .selects nsX Bundle.tFill0 Bundle.tFill0, .selects nsX Bundle.tFill Bundle.tFill,
   .lays nsX Bundle.tN "cause" "Ljava/lang/Throwable;", .lays nsX Bundle.tN "stackTrace" Bundle.steD, .lays nsX Bundle.tN "suppressedExceptions" Bundle.listD, .lays nsX Bundle.tN "detailMessage" "Ljava/lang/String;",
   .isRef (.static Bundle.tN "UNASSIGNED_STACK" Bundle.steD), .isRef (.static Bundle.tN "SUPPRESSED_SENTINEL" Bundle.listD),
   .fieldLink Bundle.tN 198 Bundle.tN "backtrace" "Ljava/lang/Object;", .lays Bundle.tN Bundle.tN "backtrace" "Ljava/lang/Object;", .lays nsX Bundle.tN "backtrace" "Ljava/lang/Object;"])))
theorem ns_in1 {own : String} {ic : Nat} {args : Array Value} {s : State} (h : ∀ a ∈ nsAtoms own ic, a.before args s = true) : ∀ a ∈ Bundle.throwableAtoms, a.before args s = true := fun a ha => h a (List.mem_append_left _ ha)
theorem ns_in2 {own : String} {ic : Nat} {args : Array Value} {s : State} (h : ∀ a ∈ nsAtoms own ic, a.before args s = true) : ∀ a ∈ Bundle.throwableSAtoms, a.before args s = true := fun a ha => h a (List.mem_append_right _ (List.mem_append_left _ ha))
theorem ns_in3 {own : String} {ic : Nat} {args : Array Value} {s : State} (h : ∀ a ∈ nsAtoms own ic, a.before args s = true) : ∀ a ∈ Bundle.passSAtoms nsX "java/lang/RuntimeException" 13 nsB, a.before args s = true := fun a ha => h a (List.mem_append_right _ (List.mem_append_right _ (List.mem_append_left _ ha)))
theorem ns_in4 {own : String} {ic : Nat} {args : Array Value} {s : State} (h : ∀ a ∈ nsAtoms own ic, a.before args s = true) : ∀ a ∈ Bundle.chainSAtoms "java/lang/RuntimeException" ["java/lang/Exception"], a.before args s = true := fun a ha => h a (List.mem_append_right _ (List.mem_append_right _ (List.mem_append_right _ (List.mem_append_left _ ha))))
theorem ns_at {own : String} {ic : Nat} {args : Array Value} {s : State} (h : ∀ a ∈ nsAtoms own ic, a.before args s = true) (j : Nat) {w : Cond} (hj : ([.methodLink own ic (Bundle.initS nsX), .instantiable nsX 6, .castable nsX nsX, .selects nsX Bundle.tFill0 Bundle.tFill0, .selects nsX Bundle.tFill Bundle.tFill,
   .lays nsX Bundle.tN "cause" "Ljava/lang/Throwable;", .lays nsX Bundle.tN "stackTrace" Bundle.steD, .lays nsX Bundle.tN "suppressedExceptions" Bundle.listD, .lays nsX Bundle.tN "detailMessage" "Ljava/lang/String;",
   .isRef (.static Bundle.tN "UNASSIGNED_STACK" Bundle.steD), .isRef (.static Bundle.tN "SUPPRESSED_SENTINEL" Bundle.listD),
   .fieldLink Bundle.tN 198 Bundle.tN "backtrace" "Ljava/lang/Object;", .lays Bundle.tN Bundle.tN "backtrace" "Ljava/lang/Object;", .lays nsX Bundle.tN "backtrace" "Ljava/lang/Object;"] : List Cond)[j]? = some w) : w.before args s = true := h w (List.mem_append_right _ (List.mem_append_right _ (List.mem_append_right _ (List.mem_append_right _ (List.mem_of_getElem? hj)))))
variable {p : Program} {l : Launch} {e : Env} {R : Room} {s : State} {m₀ : MethodId} {args : Array Value} {below : List Frame} {meth : Method} {c : Code} {W9 : State} {locs : List Loc} {cells slots : Nat}
set_option maxHeartbeats 2000000 in
theorem ns_ctor (X : Stand p l e R s m₀ args below meth c W9 locs cells slots) (hexec : p.tables.exec = Jvm.exec) (htr : e.platform.stackTraces = false) {own : String} {ic : Nat}
    (hown : s.vm.findClass own = some m₀.cls) (h : ∀ a ∈ nsAtoms own ic, a.before args s = true)
    (hlocs : ∀ x ∈ locs, ∀ cell, s.heap[x.base]? = some cell → cell.vm.isStatics = false)
    {a : Addr} {cX : ClassId} {kX : Class} (hfoundX : s.vm.findClass nsX = some cX) (hkX : s.vm.classes[cX]? = some kX) (hcell : W9.heap[a]? = some (freshCell cX kX)) (hnew : s.heap.size ≤ a)
    {msg : Value} (hmsg : msg.isRef = true)
    {g : JFrame} (hg : g.method = m₀) (hsize : g.locals.size = c.maxLocals) (hlocked : g.locked = none) (hentered : g.entered = []) {rest : List Value} (hstack : g.stack = msg :: .ref a :: .ref a :: rest)
    (hd6 : decode c.code g.pc = .ok (.invokespecial ic, 3)) (hd9 : decode c.code (g.pc + 3) = .ok (.athrow, 1)) (hout : ∀ x ∈ c.exceptionTable.toList, covers x (g.pc + 3) = false)
    (hRframes : 5 < R.frames) (hRlocals : 2 * g.monitorRoom + ((Value.ref a :: rest).map fun v => v.category).sum + 81 ≤ R.locals) (hlocks : meth.locks = false) :
    ∃ U : State, Steps p.tables e below (W9.setTop g) U ∧ U.status = .running ∧ Ended U below (.threw a) ∧ s.WarmedH U.vm ∧ s.sameButNew ({ U with vm := s.vm } : State) locs cells slots ∧
      ∃ ce, U.heap[a]? = some ce ∧ s.vm.findClass nsX = some ce.cls ∧ ce.vm = .none := by
  have howns : e.platform.frameOwnsMonitors = true := by rw [X.admits.platform]
  have hfin : e.platform.finalization = false := by rw [X.admits.platform]
  have hpl : e.platform.magicAccessors = ({} : Platform).magicAccessors := by rw [X.admits.platform]
  obtain ⟨T, Z0, L, -, Y⟩ := ThrowableC.of_atoms (args := args) howns hfin hpl (ns_in1 h)
  obtain ⟨Z, M, LZ, LM, hnZ⟩ := Init0T.ofS_atoms (args := args) hpl L Y (ns_in2 h)
  obtain ⟨P0, Ps, hlen, L0, hL, hP0m, hlink1, hlink⟩ := Bundle.chainS (args := args) hpl hnZ ["java/lang/Exception"] "java/lang/RuntimeException" (by decide) (by decide) (ns_in4 h)
  obtain ⟨P1, L1, hP1m, hP1s⟩ := PassC.ofS_atoms (args := args) (s := s) hpl (X := nsX) (Y := "java/lang/RuntimeException") (by decide) (by decide) nsB_0 nsB_1 nsB_2 nsB_5 (ns_in3 h)
  have hsup1 : P1.sup = P0.m := Option.some.inj (hP1s.symm.trans hP0m)
  have hfound : s.vm.findClass nsX = some P1.m.cls := findClass_of_methodNamed hP1m
  cases Option.some.inj (hfoundX.symm.trans hfound)
  obtain ⟨c1, kX', hc1, hk, hord, -, -, hn6⟩ := Cond.instantiable_spec (ns_at h 1 rfl)
  cases Option.some.inj (hc1.symm.trans hfound)
  cases Option.some.inj (hkX.symm.trans hk)
  have hsel0 : selectMethod e.platform s.vm P1.m.cls T.fill0 = .method T.fill0 := by
    obtain ⟨c2, r2, m2, q1, q2, q3, q4, -⟩ := Cond.selects_spec (ns_at h 3 rfl)
    cases Option.some.inj (q1.symm.trans hfound)
    cases Option.some.inj (q2.symm.trans (State.methodFound?_of_named Y.fill0 (by decide)))
    cases Option.some.inj (q3.symm.trans Y.fill0)
    rw [Launch.admits_selectMethod X.admits]; exact q4
  have hselF : selectMethod e.platform s.vm P1.m.cls T.fill = .method T.fill := by
    obtain ⟨c2, r2, m2, q1, q2, q3, q4, -⟩ := Cond.selects_spec (ns_at h 4 rfl)
    cases Option.some.inj (q1.symm.trans hfound)
    cases Option.some.inj (q2.symm.trans (State.methodFound?_of_named Y.fill (by decide)))
    cases Option.some.inj (q3.symm.trans Y.fill)
    rw [Launch.admits_selectMethod X.admits]; exact q4
  obtain ⟨cellS0, hcS0, hiss⟩ := Y.statics
  obtain ⟨u0, hu0⟩ := Cond.staticRefV Y.unassigned L.unassignedStatic L.statics hcS0 hiss (ns_at h 9 rfl)
  obtain ⟨sen, hsen⟩ := Cond.staticRefV Y.sentinel L.sentinelStatic L.statics hcS0 hiss (ns_at h 10 rfl)
  obtain ⟨ci198, i198, fB, hk198, hg198, ha198, hsB, -, hnB, htB, hffB⟩ := Cond.ownField (t := .object "java/lang/Object") Y.found L.cls (by decide +kernel) (ns_at h 11 rfl) (ns_at h 12 rfl) e.platform hpl
  obtain ⟨cellS, hcS', heS, -, hkeep⟩ := X.same.2.2.2.2.2 T.aS cellS0 hcS0
  have hcellS : W9.heap[T.aS]? = some cellS := hcS'
  have hout' : ∀ i, (⟨T.aS, i⟩ : Loc) ∉ locs := fun i hmem => by
    have := hlocs _ hmem cellS0 hcS0
    rw [hiss] at this; cases this
  have hknownS : cellS.vm ≠ .unknown := by
    rw [heS]; intro hu
    rw [show cellS0.vm = .unknown from hu] at hiss
    cases hiss
  have hneS : T.aS ≠ a := Nat.ne_of_lt (Nat.lt_of_lt_of_le (Array.getElem?_eq_some_iff.mp hcS0).1 hnew)
  obtain ⟨iM, hffM⟩ := Y.msg
  obtain ⟨tyC, dC, hdC, hdnC⟩ := Cond.laysAt hfound hk Y.cause (ns_at h 5 rfl)
  obtain ⟨tyS, dS, hdS, hdnS⟩ := Cond.laysAt hfound hk Y.stack (ns_at h 6 rfl)
  obtain ⟨tyP, dP, hdP, hdnP⟩ := Cond.laysAt hfound hk Y.supp (ns_at h 7 rfl)
  obtain ⟨tyM, dM, hdM, hdnM⟩ := Cond.laysAt hfound hk hffM (ns_at h 8 rfl)
  obtain ⟨tyB, dB, hdB, hdnB⟩ := Cond.laysAt hfound hk hffB (ns_at h 13 rfl)
  have bC := Cond.laysApart hdB hdC hdnB hdnC (by rw [hnB, Y.causeName]; decide)
  have bS := Cond.laysApart hdB hdS hdnB hdnS (by rw [hnB, Y.stackName]; decide)
  have bP := Cond.laysApart hdB hdP hdnB hdnP (by rw [hnB, Y.suppName]; decide)
  have hskip : SkipFacts T e.platform s (fun u => u) u0 ((preparedCellV T.toThrowableT (freshCell P1.m.cls kX) a u0 sen).withEntry W9.cur) :=
    ⟨{ ci198 := ci198, i198 := i198, fBack := fB }, ⟨hk198, hg198, ha198, hsB⟩, by
      have := fresh_default (c := P1.m.cls) tyB
      rw [htB] at this
      simpa [preparedCellV, Cell.setSlot, Cell.withEntry, Array.getElem?_setIfInBounds, bC, bS, bP, bC.symm, bS.symm, bP.symm, defaultValue] using this, fun _ _ => rfl⟩
  have hI : (Cond.instanceMethod (Bundle.initS nsX)).before args s = true := ns_in3 h _ List.mem_cons_self
  have hCd : (Cond.code (Bundle.initS nsX) nsB 2 none).before args s = true := ns_in3 h _ (List.mem_cons_of_mem _ List.mem_cons_self)
  obtain ⟨tm, methC, cdC, kC, vm₁, hnC, -, -, -, -, -, -, -, hW₁, st1⟩ := Steps.initColdS (tb := p.tables) (e := e) (below := below) (s := s) (U := W9) X.here hexec X.warmed hpl hown (t := Bundle.initS nsX) rfl rfl (by decide)
    (ns_at h 0 rfl) hI (bytes := nsB) (maxL := 2) hCd
    (f := g) hg (a := a) (msg := msg) (rest := .ref a :: rest) hstack hd6
  cases Option.some.inj (hnC.symm.trans hP1m)
  have X₁ := X.noted hW₁
  obtain ⟨vm₂, X₂, st2⟩ := X₁.ctorMessageOffV hexec (g := { g with stack := .ref a :: rest }) hg hsize T L Z LZ M LM (P1 :: P0 :: Ps)
    (fun P hP => by
      rcases List.mem_cons.mp hP with rfl | hP
      · exact L1
      · rcases List.mem_cons.mp hP with rfl | hP
        · exact L0
        · exact hL P hP) ⟨hsup1, hlink1, hlink⟩ (u0 := u0) (sen := sen) (self := a) hmsg (cell := freshCell P1.m.cls kX) (cellS := cellS)
    hcell (fun _ => by simp) (by simp) rfl rfl hsel0 hselF hcellS hneS hknownS (by rw [hkeep _ (hout' _)]; exact hu0) (by rw [hkeep _ (hout' _)]; exact hsen)
    (Takes.of_laid hk hord tyC (by rw [Y.causeType]; rfl)) (Takes.of_laid hk hord tyS (by rw [Y.stackType]; exact fits_refV_array _ u0)) (Takes.of_laid hk hord tyP (by rw [Y.suppType]; exact fits_refV_object _ sen))
    (Takes.of_laid hk hord tyM (by rw [Y.msgType]; exact fits_refV_object _ ⟨msg, hmsg⟩)) Y.objLocals hskip htr [] hd6
    (by simp only [List.length_cons, hlen, List.length_nil]; omega) (by simp only [List.length_cons, hlen, List.length_nil]; exact hRlocals)
  obtain ⟨hwalk, hrun, hended, hWU, hsame⟩ := X₂.athrowLeaves hexec (g := { g with stack := .ref a :: rest, pc := g.pc + 3 }) hg hlocked hentered hout (a := a) (rest := rest) rfl hd9
  have hlt : a < ((W9.setVm vm₁).setVm vm₂).heap.size := (Array.getElem?_eq_some_iff.mp hcell).1
  have hU := heapAt_setCell_self (s := (W9.setVm vm₁).setVm vm₂) (plainBareV T.toThrowableT (freshCell P1.m.cls kX) a u0 sen msg) hlt
  refine ⟨_, st1 _ (fun acts => ?_), hrun, hended, hWU, hsame.weaken (fun y hy hlt' => ?_) (Nat.le_refl _) (Nat.le_refl _), _, hU, hfound, rfl⟩
  · rw [doInvoke_state]
    exact st2 _ hwalk
  · rcases List.mem_append.mp hy with h1 | h1
    · exact h1
    · exfalso
      have hb : y.base = a := by
        simp only [List.mem_cons, List.not_mem_nil, or_false] at h1
        rcases h1 with rfl | rfl | rfl | rfl | rfl <;> rfl
      rw [hb] at hlt'
      exact Nat.not_lt.mpr hnew hlt'
theorem wq_1036 : (tables_1_4[202]?).getD (.initialized "") ∈ xTs := xin (wm_4 (List.mem_of_getElem? (i := 202) (by rfl))) (by decide +kernel)
theorem wq_1037 : (tables_1_4[203]?).getD (.initialized "") ∈ xTs := xin (wm_4 (List.mem_of_getElem? (i := 203) (by rfl))) (by decide +kernel)
theorem wq_1038 : (tables_1_4[204]?).getD (.initialized "") ∈ xTs := xin (wm_4 (List.mem_of_getElem? (i := 204) (by rfl))) (by decide +kernel)
theorem wq_1039 : (tables_1_4[205]?).getD (.initialized "") ∈ xTs := xin (wm_4 (List.mem_of_getElem? (i := 205) (by rfl))) (by decide +kernel)
theorem wq_1040 : (tables_1_4[206]?).getD (.initialized "") ∈ xTs := xin (wm_4 (List.mem_of_getElem? (i := 206) (by rfl))) (by decide +kernel)
theorem ns_ok {own : String} {ic : Nat} (hm : Cond.methodLink own ic (Bundle.initS nsX) ∈ xTs) : ∀ v ∈ nsAtoms own ic, vx_no v = true → v ∈ xTs ∨ v ∈ xT2 := at_cons (fun _ => Or.inl w1_16) <| at_cons (fun _ => Or.inl wq_744) <| at_cons (fun _ => Or.inl w3_159) <| at_cons (fun _ => Or.inl wq_761) <| at_cons (fun _ => Or.inl w3_170) <| at_cons (fun _ => Or.inl w3_172) <| at_cons (fun _ => Or.inl w3_151) <| at_cons (fun _ => Or.inl w3_152) <| at_cons (fun _ => Or.inl w1_41) <| at_cons (fun _ => Or.inl w1_42) <| at_cons (fun _ => Or.inl w3_153) <| at_cons (fun _ => Or.inl w3_158) <| at_cons (fun _ => Or.inl w3_168) <| at_cons (fun _ => Or.inl w3_188) <| at_cons (fun _ => Or.inl wq_734) <| at_cons (fun _ => Or.inl w3_189) <| at_cons (fun _ => Or.inl wq_736) <| at_cons (fun _ => Or.inl w3_190) <| at_cons (fun _ => Or.inl wq_738) <| at_cons (fun _ => Or.inl w3_154) <| at_cons (fun h => absurd h (by decide)) <| at_cons (fun _ => Or.inl w3_156) <| at_cons (fun h => absurd h (by decide)) <| at_cons (fun _ => Or.inl wq_740) <| at_cons (fun _ => Or.inl w3_184) <| at_cons (fun _ => Or.inl w3_185) <| at_cons (fun _ => Or.inl w3_187) <| at_cons (fun _ => Or.inl wq_740) <| at_cons (fun _ => Or.inl w4_208) <| at_cons (fun _ => Or.inl w4_209) <| at_cons (fun _ => Or.inl w4_210) <| at_cons (fun _ => Or.inl w3_178) <| at_cons (fun _ => Or.inr (List.mem_of_getElem? (i := 3) rfl)) <| at_cons (fun _ => Or.inl w3_178) <| at_cons (fun _ => Or.inl w3_179) <| at_cons (fun _ => Or.inl w3_180) <| at_cons (fun _ => Or.inl w3_181) <| at_cons (fun _ => Or.inr (List.mem_of_getElem? (i := 5) rfl)) <| at_cons (fun _ => Or.inl w3_181) <| at_cons (fun _ => Or.inl w3_182) <| at_cons (fun _ => Or.inl w3_183) <| at_cons (fun _ => Or.inl w3_184) <| at_cons (fun _ => Or.inr (List.mem_of_getElem? (i := 7) rfl)) <| at_cons (fun _ => Or.inl hm) <| at_cons (fun _ => Or.inl w4_199) <| at_cons (fun _ => Or.inr (List.mem_of_getElem? (i := 15) rfl)) <| at_cons (fun _ => Or.inl w4_201) <| at_cons (fun _ => Or.inl w3_166) <| at_cons (fun _ => Or.inl wq_1036) <| at_cons (fun _ => Or.inl wq_1037) <| at_cons (fun _ => Or.inl wq_1038) <| at_cons (fun _ => Or.inl wq_1039) <| at_cons (fun h => absurd h (by decide)) <| at_cons (fun h => absurd h (by decide)) <| at_cons (fun _ => Or.inl w3_149) <| at_cons (fun _ => Or.inl wq_742) <| at_cons (fun _ => Or.inl wq_1040) <| at_nil
set_option maxHeartbeats 2000000 in
theorem ns_throw {p : Program} {l : Launch} {e : Env} {R : Room} {s : State} {m : MethodId} {args : Array Value} {below : List Frame} {meth : Method} {c : Code} {H : Heap} {locs : List Loc} {cells slots : Nat} {ls : Array Slot} {rest : List Value} {free : Addr → Prop} {Qc : Array Value → State → Outcome → State → Prop} {XC : String → State → State → Prop}
    {cc : ByteArray} {pc : Nat} (hexec : p.tables.exec = Jvm.exec) (hb : c.code = cc) (hl : l.stackTraces = false) {own text : String} {ik is ic mc ms sa : Nat} {A : Nat → Prop}
    (hown : s.vm.findClass own = some m.cls) (hk : (Cond.classLink own ik nsX).before args s = true) (hini : (Cond.initialized nsX).before args s = true) (hstr : vk_R own is text sa s) (hat : ∀ w ∈ nsAtoms own ic, vx_no w = true → w.before args s = true)
    (hgood : ∀ w ∈ Cond.classLink own ik nsX :: Cond.initialized nsX :: nsAtoms own ic, vx_no w = true → vx_ot w = true)
    (hU : vx_Zq Bundle.tN "UNASSIGNED_STACK" Bundle.steD A s s.heap) (hN : vx_Zq Bundle.tN "SUPPRESSED_SENTINEL" Bundle.listD A s s.heap) (hS : va_S A s.heap H locs) (hsize : ls.size = c.maxLocals)
    (d0 : decode cc pc = .ok (.new ik, 3)) (d3 : decode cc (pc + 3) = .ok (.dup, 1)) (d4 : decode cc (pc + 4) = .ok (.ldc is, 2)) (d6 : decode cc (pc + 6) = .ok (.invokespecial ic, 3)) (d9 : decode cc (pc + 9) = .ok (.athrow, 1))
    (hout : ∀ x ∈ c.exceptionTable.toList, covers x (pc + 9) = false)
    (hRframes : 5 < R.frames) (hRlocals : (rest.map fun v => v.category).sum + 82 ≤ R.locals) (hRcells : cells + 1 ≤ R.cells) (hRslots : slots + 6 ≤ R.slots) (hlocks : meth.locks = false)
    (hx : ∀ t : State, s.vm.Alike t.vm → H.size ≤ t.heap.size → (∀ q : Nat, q < H.size → t.heap[q]? = H[q]?) → XC nsX s t)
    (hf : ∀ z ∈ locs, free z.base) (hc : cells + 1 ≤ mc) (hs : slots + 6 ≤ ms) :
    W p l e R s m args below meth c H locs cells slots (vx_MQ below Qc XC args s mc ms free) (F0 m pc ls rest) := by
  intro T hT X
  have htr : e.platform.stackTraces = false := (show e.platform.stackTraces = l.stackTraces by rw [X.admits.platform]).trans hl
  have Y := vx_rebase X (R' := { frames := R.frames, locals := R.locals, cells := 1, slots := 6 }) (Nat.le_refl _) (Nat.le_refl _) hRcells hRslots
  obtain ⟨s', hA⟩ : ∃ z, z = (T.setVm s.vm).setFrames (.invoking m args :: below) := ⟨_, rfl⟩
  rw [← hA] at Y
  have hvm : s'.vm = s.vm := by rw [hA]; rfl
  have hhp : s'.heap = H := by rw [hA]; exact hT
  have hW0 : s.WarmedH s'.vm := by rw [hvm]; exact State.WarmedH.refl s
  have hk' : (Cond.classLink own ik nsX).before args s' = true := vx_ot_at hW0 hvm.symm (hgood _ List.mem_cons_self rfl) hk
  have hini' : (Cond.initialized nsX).before args s' = true := vx_ot_at hW0 hvm.symm (hgood _ (List.mem_cons_of_mem _ List.mem_cons_self) rfl) hini
  have hU' : vx_Zq Bundle.tN "UNASSIGNED_STACK" Bundle.steD A s' s'.heap := by rw [hhp]; exact vx_Zq.moved hW0.alike (hU.kept hS.2.1)
  have hN' : vx_Zq Bundle.tN "SUPPRESSED_SENTINEL" Bundle.listD A s' s'.heap := by rw [hhp]; exact vx_Zq.moved hW0.alike (hN.kept hS.2.1)
  have hat' : ∀ w ∈ (nsAtoms own ic).filter vx_no, w.before args s' = true := fun w hw => by
    obtain ⟨h1, h2⟩ := List.mem_filter.mp hw
    exact vx_ot_at hW0 hvm.symm (hgood w (List.mem_cons_of_mem _ (List.mem_cons_of_mem _ h1)) h2) (hat w h1 h2)
  have h : ∀ w ∈ nsAtoms own ic, w.before args s' = true := vx_own hat' (vx_isRefq hU'.1) (vx_isRefq hN'.1) hU'.2.word hN'.2.word
  have hown' : s'.vm.findClass own = some m.cls := by rw [hvm]; exact hown
  have hins : (Cond.instantiable nsX 6).before args s' = true := ns_at h 1 rfl
  obtain ⟨vm₁, cX, kX, hfX, hkX, -, -, X₁, st1⟩ := Y.newCold hexec (own := own) (C := nsX) (index := ik) (n := 6) hown' hk' hins hini'
    (g := F0 m pc ls rest) rfl (by rw [hb]; exact d0) (Nat.le_refl _) (Nat.le_refl _)
  generalize hT1 : (T.setVm vm₁).pushCell { cls := cX, slots := kX.instanceTypes.map defaultValue, vm := .none } = T1 at X₁ st1
  have hcat : (Value.ref T.heap.size).category = 1 := rfl
  have hcellA : T1.heap[T.heap.size]? = some (freshCell cX kX) := by rw [← hT1]; exact State.heap_pushCell_size _ _
  have d3' : decode c.code (pc + 3) = .ok (.dup, 1) := by rw [hb]; exact d3
  have d4' : decode c.code (pc + 4) = .ok (.ldc is, 2) := by rw [hb]; exact d4
  have hstr' : vk_R own is text sa s' := vk_R.warm hW0 hstr
  obtain ⟨U, hsteps, hrun, hend, hW, hsame, ce, hce, hOc, hOv⟩ := ns_ctor X₁ hexec htr (own := own) (ic := ic) hown' h (fun x hx => nomatch hx) hfX hkX hcellA (by rw [hhp, hT]; exact Nat.le_refl _) (msg := .ref sa) rfl
    (g := { method := m, pc := pc + 6, locals := ls, stack := .ref sa :: .ref T.heap.size :: .ref T.heap.size :: rest, locked := none }) rfl hsize rfl rfl (rest := rest) rfl
    (by rw [hb]; exact d6) (by rw [hb]; exact d9) hout hRframes (by simp only [List.map_cons, List.sum_cons, hcat]; show 2 * 0 + _ + 81 ≤ R.locals; omega) hlocks
  obtain ⟨f1, f2⟩ := vx_frame hsame
  rw [hhp] at f1 f2
  have hWs : s.WarmedH U.vm := State.WarmedH.trans hW0 hW
  have hcl : s.vm.findClass nsX = some ce.cls := by
    rw [hvm] at hOc
    exact hOc
  have hall : s.sameButNew ({ U with vm := s.vm } : State) locs mc ms := by
    subst hA
    obtain ⟨e1, e2⟩ := hsame
    rw [State.setFrames_setFrames] at e1
    have h2 : (T.setVm s.vm).sameButNew ({ U with vm := s.vm } : State) [] (0 + 1) (0 + 6) := ⟨e1, e2⟩
    have h3 := X.same.trans h2
    rw [List.append_nil] at h3
    exact h3.mono hc hs
  refine ⟨U, ?_, .threw T.heap.size, hrun, hend, Or.inr ⟨T.heap.size, rfl, nsX, ce, locs, hx U hWs.alike f1 (fun q hq => f2 q hq (fun z hz => nomatch hz)), hce, hOv, hcl, hWs, hall, hf⟩⟩
  refine st1 _ ?_
  show Steps p.tables e below (T1.setTop { method := m, pc := pc + 3, locals := ls, stack := .ref T.heap.size :: rest, locked := none }) _
  jvm_step X₁.here [X₁.here.top, hexec, d3', Value.category]
  exact X₁.ldcString hexec (own := own) (text := text) (index := is) (a := sa) hown' hstr'.1 hstr'.2
    (g := { method := m, pc := pc + 4, locals := ls, stack := .ref T.heap.size :: .ref T.heap.size :: rest, locked := none }) rfl d4' _ hsteps
theorem Y_throw_NoSuchElementException {P : Mem → Prop} {k : MI} {pc : Nat} {lv : List (Nat × Value)} {st : List Value} {M : Mem} {Q : xQ} {X : xX} {ik is ic mi : Nat} {text : String} (hk : Cond.classLink (kOwn k) ik "java/util/NoSuchElementException" ∈ xTs) (hl : Cond.methodLink (kOwn k) ic (Bundle.initS "java/util/NoSuchElementException") ∈ xTs) (hm : xMsg[mi]? = some (kOwn k, is, text))
    (d0 : decode (kCC k) pc = .ok (.new ik, 3)) (d3 : decode (kCC k) (pc + 3) = .ok (.dup, 1)) (d4 : decode (kCC k) (pc + 4) = .ok (.ldc is, 2)) (d6 : decode (kCC k) (pc + 6) = .ok (.invokespecial ic, 3)) (d9 : decode (kCC k) (pc + 9) = .ok (.athrow, 1))
    (hh : kHH k = []) (hdep : 8 ≤ kDep k) (hloc : 200 ≤ kLoc k) (hcat : (st.map fun v => v.category).sum ≤ 8) (hP : P (tk M 6)) (hX : X "java/util/NoSuchElementException" (tk M 6)) : VV P k pc lv st M (tk M 6) Q X := by
  have e1 : uC (tk M 6) = uC M + 1 := rfl
  have e2 : uS (tk M 6) = uS M + 6 := rfl
  refine ⟨⟨hP, by omega, by omega⟩, fun nc ns g1 g2 => ?_⟩
  intro p l e R s m args below meth c base D Z M0 ad0 mc ms ad H locs cells slots d ls rst hF hN hst
  obtain ⟨hx, hb, hml, hlk, hret, hnm, htb, hown, hts, hfl, hKn, hEv, hbase, hRf, hRl, hRc, hRs, hE1, hE2⟩ := hF
  obtain ⟨a1, a2, a3, a4, a5, a6, lvr, a7, a8⟩ := hN
  have hcd := xRvs_cat hst
  have hlf : l.stackTraces = false := by unfold Launch.stackTraces; rw [hfl]; decide
  refine W.mono (hE2 "java/util/NoSuchElementException" (tk M 6) ad H d hX (xExt_tk a6) (xRep_tk a1) a3 (xS_fr a2)) ?_
  exact ns_throw (s := s.setDrawn d) (text := text) (A := xA base) (sa := (hEv.2.2.1 _ (List.mem_of_getElem? hm)).choose) hx hb hlf hown (dr_words hts d _ hk) (dr_words hts d _ w1_29) (vk_R.same rfl (hEv.2.2.1 _ (List.mem_of_getElem? hm)).choose_spec)
    (fun v hv hn => ot_at hts hEv.2.2.2.2.2.1 (ns_ok hl v hv hn))
    (fun v hv hn => by
      rcases List.mem_cons.mp hv with rfl | hv
      · exact ot_of (Or.inl hk)
      · rcases List.mem_cons.mp hv with rfl | hv
        · exact ot_of (Or.inl w1_29)
        · exact ot_of (ns_ok hl v hv hn))
    (vx_Zq.moved (Vm.Alike.refl _) hEv.1) (vx_Zq.moved (Vm.Alike.refl _) hEv.2.1) a2 (a7.1.trans hml.symm) d0 d3 d4 d6 d9 (by rw [htb, hh]; exact fun _ h => nomatch h)
    (by omega) (by rw [hcd]; omega) (by omega) (by omega) hlk (fun t al hz hk9 => ⟨rfl, al, hz, hk9⟩) (fun q hq => a2.2.2 q hq) (by omega) (by omega)
set_option maxHeartbeats 2000000 in
theorem ns_throwW {p : Program} {l : Launch} {e : Env} {R : Room} {s : State} {m : MethodId} {args : Array Value} {below : List Frame} {meth : Method} {c : Code} {H : Heap} {locs : List Loc} {cells slots : Nat} {ls : Array Slot} {rest : List Value} {free : Addr → Prop} {Qc : Array Value → State → Outcome → State → Prop} {XC : String → State → State → Prop}
    {cc : ByteArray} {pc : Nat} (hexec : p.tables.exec = Jvm.exec) (hb : c.code = cc) (hl : l.stackTraces = false) {own text : String} {ik is ic mc ms sa : Nat} {A : Nat → Prop}
    (hown : s.vm.findClass own = some m.cls) (hk : (Cond.classLink own ik nsX).before args s = true) (hini : (Cond.initialized nsX).before args s = true) (hstr : vk_R own is text sa s) (hat : ∀ w ∈ nsAtoms own ic, vx_no w = true → w.before args s = true)
    (hgood : ∀ w ∈ Cond.classLink own ik nsX :: Cond.initialized nsX :: nsAtoms own ic, vx_no w = true → vx_ot w = true)
    (hU : vx_Zq Bundle.tN "UNASSIGNED_STACK" Bundle.steD A s s.heap) (hN : vx_Zq Bundle.tN "SUPPRESSED_SENTINEL" Bundle.listD A s s.heap) (hS : va_S A s.heap H locs) (hsize : ls.size = c.maxLocals)
    (d0 : decode cc pc = .ok (.new ik, 3)) (d3 : decode cc (pc + 3) = .ok (.dup, 1)) (d4 : decode cc (pc + 4) = .ok (.ldc_w is, 3)) (d6 : decode cc (pc + 7) = .ok (.invokespecial ic, 3)) (d9 : decode cc (pc + 10) = .ok (.athrow, 1))
    (hout : ∀ x ∈ c.exceptionTable.toList, covers x (pc + 10) = false)
    (hRframes : 5 < R.frames) (hRlocals : (rest.map fun v => v.category).sum + 82 ≤ R.locals) (hRcells : cells + 1 ≤ R.cells) (hRslots : slots + 6 ≤ R.slots) (hlocks : meth.locks = false)
    (hx : ∀ t : State, s.vm.Alike t.vm → H.size ≤ t.heap.size → (∀ q : Nat, q < H.size → t.heap[q]? = H[q]?) → XC nsX s t)
    (hf : ∀ z ∈ locs, free z.base) (hc : cells + 1 ≤ mc) (hs : slots + 6 ≤ ms) :
    W p l e R s m args below meth c H locs cells slots (vx_MQ below Qc XC args s mc ms free) (F0 m pc ls rest) := by
  intro T hT X
  have htr : e.platform.stackTraces = false := (show e.platform.stackTraces = l.stackTraces by rw [X.admits.platform]).trans hl
  have Y := vx_rebase X (R' := { frames := R.frames, locals := R.locals, cells := 1, slots := 6 }) (Nat.le_refl _) (Nat.le_refl _) hRcells hRslots
  obtain ⟨s', hA⟩ : ∃ z, z = (T.setVm s.vm).setFrames (.invoking m args :: below) := ⟨_, rfl⟩
  rw [← hA] at Y
  have hvm : s'.vm = s.vm := by rw [hA]; rfl
  have hhp : s'.heap = H := by rw [hA]; exact hT
  have hW0 : s.WarmedH s'.vm := by rw [hvm]; exact State.WarmedH.refl s
  have hk' : (Cond.classLink own ik nsX).before args s' = true := vx_ot_at hW0 hvm.symm (hgood _ List.mem_cons_self rfl) hk
  have hini' : (Cond.initialized nsX).before args s' = true := vx_ot_at hW0 hvm.symm (hgood _ (List.mem_cons_of_mem _ List.mem_cons_self) rfl) hini
  have hU' : vx_Zq Bundle.tN "UNASSIGNED_STACK" Bundle.steD A s' s'.heap := by rw [hhp]; exact vx_Zq.moved hW0.alike (hU.kept hS.2.1)
  have hN' : vx_Zq Bundle.tN "SUPPRESSED_SENTINEL" Bundle.listD A s' s'.heap := by rw [hhp]; exact vx_Zq.moved hW0.alike (hN.kept hS.2.1)
  have hat' : ∀ w ∈ (nsAtoms own ic).filter vx_no, w.before args s' = true := fun w hw => by
    obtain ⟨h1, h2⟩ := List.mem_filter.mp hw
    exact vx_ot_at hW0 hvm.symm (hgood w (List.mem_cons_of_mem _ (List.mem_cons_of_mem _ h1)) h2) (hat w h1 h2)
  have h : ∀ w ∈ nsAtoms own ic, w.before args s' = true := vx_own hat' (vx_isRefq hU'.1) (vx_isRefq hN'.1) hU'.2.word hN'.2.word
  have hown' : s'.vm.findClass own = some m.cls := by rw [hvm]; exact hown
  have hins : (Cond.instantiable nsX 6).before args s' = true := ns_at h 1 rfl
  obtain ⟨vm₁, cX, kX, hfX, hkX, -, -, X₁, st1⟩ := Y.newCold hexec (own := own) (C := nsX) (index := ik) (n := 6) hown' hk' hins hini'
    (g := F0 m pc ls rest) rfl (by rw [hb]; exact d0) (Nat.le_refl _) (Nat.le_refl _)
  generalize hT1 : (T.setVm vm₁).pushCell { cls := cX, slots := kX.instanceTypes.map defaultValue, vm := .none } = T1 at X₁ st1
  have hcat : (Value.ref T.heap.size).category = 1 := rfl
  have hcellA : T1.heap[T.heap.size]? = some (freshCell cX kX) := by rw [← hT1]; exact State.heap_pushCell_size _ _
  have d3' : decode c.code (pc + 3) = .ok (.dup, 1) := by rw [hb]; exact d3
  have d4' : decode c.code (pc + 4) = .ok (.ldc_w is, 3) := by rw [hb]; exact d4
  have hstr' : vk_R own is text sa s' := vk_R.warm hW0 hstr
  obtain ⟨U, hsteps, hrun, hend, hW, hsame, ce, hce, hOc, hOv⟩ := ns_ctor X₁ hexec htr (own := own) (ic := ic) hown' h (fun x hx => nomatch hx) hfX hkX hcellA (by rw [hhp, hT]; exact Nat.le_refl _) (msg := .ref sa) rfl
    (g := { method := m, pc := pc + 7, locals := ls, stack := .ref sa :: .ref T.heap.size :: .ref T.heap.size :: rest, locked := none }) rfl hsize rfl rfl (rest := rest) rfl
    (by rw [hb]; exact d6) (by rw [hb]; exact d9) hout hRframes (by simp only [List.map_cons, List.sum_cons, hcat]; show 2 * 0 + _ + 81 ≤ R.locals; omega) hlocks
  obtain ⟨f1, f2⟩ := vx_frame hsame
  rw [hhp] at f1 f2
  have hWs : s.WarmedH U.vm := State.WarmedH.trans hW0 hW
  have hcl : s.vm.findClass nsX = some ce.cls := by
    rw [hvm] at hOc
    exact hOc
  have hall : s.sameButNew ({ U with vm := s.vm } : State) locs mc ms := by
    subst hA
    obtain ⟨e1, e2⟩ := hsame
    rw [State.setFrames_setFrames] at e1
    have h2 : (T.setVm s.vm).sameButNew ({ U with vm := s.vm } : State) [] (0 + 1) (0 + 6) := ⟨e1, e2⟩
    have h3 := X.same.trans h2
    rw [List.append_nil] at h3
    exact h3.mono hc hs
  refine ⟨U, ?_, .threw T.heap.size, hrun, hend, Or.inr ⟨T.heap.size, rfl, nsX, ce, locs, hx U hWs.alike f1 (fun q hq => f2 q hq (fun z hz => nomatch hz)), hce, hOv, hcl, hWs, hall, hf⟩⟩
  refine st1 _ ?_
  show Steps p.tables e below (T1.setTop { method := m, pc := pc + 3, locals := ls, stack := .ref T.heap.size :: rest, locked := none }) _
  jvm_step X₁.here [X₁.here.top, hexec, d3', Value.category]
  exact X₁.ldcStringW hexec (own := own) (text := text) (index := is) (a := sa) hown' hstr'.1 hstr'.2
    (g := { method := m, pc := pc + 4, locals := ls, stack := .ref T.heap.size :: .ref T.heap.size :: rest, locked := none }) rfl d4' _ hsteps
theorem Y_throwW_NoSuchElementException {P : Mem → Prop} {k : MI} {pc : Nat} {lv : List (Nat × Value)} {st : List Value} {M : Mem} {Q : xQ} {X : xX} {ik is ic mi : Nat} {text : String} (hk : Cond.classLink (kOwn k) ik "java/util/NoSuchElementException" ∈ xTs) (hl : Cond.methodLink (kOwn k) ic (Bundle.initS "java/util/NoSuchElementException") ∈ xTs) (hm : xMsg[mi]? = some (kOwn k, is, text))
    (d0 : decode (kCC k) pc = .ok (.new ik, 3)) (d3 : decode (kCC k) (pc + 3) = .ok (.dup, 1)) (d4 : decode (kCC k) (pc + 4) = .ok (.ldc_w is, 3)) (d6 : decode (kCC k) (pc + 7) = .ok (.invokespecial ic, 3)) (d9 : decode (kCC k) (pc + 10) = .ok (.athrow, 1))
    (hh : kHH k = []) (hdep : 8 ≤ kDep k) (hloc : 200 ≤ kLoc k) (hcat : (st.map fun v => v.category).sum ≤ 8) (hP : P (tk M 6)) (hX : X "java/util/NoSuchElementException" (tk M 6)) : VV P k pc lv st M (tk M 6) Q X := by
  have e1 : uC (tk M 6) = uC M + 1 := rfl
  have e2 : uS (tk M 6) = uS M + 6 := rfl
  refine ⟨⟨hP, by omega, by omega⟩, fun nc ns g1 g2 => ?_⟩
  intro p l e R s m args below meth c base D Z M0 ad0 mc ms ad H locs cells slots d ls rst hF hN hst
  obtain ⟨hx, hb, hml, hlk, hret, hnm, htb, hown, hts, hfl, hKn, hEv, hbase, hRf, hRl, hRc, hRs, hE1, hE2⟩ := hF
  obtain ⟨a1, a2, a3, a4, a5, a6, lvr, a7, a8⟩ := hN
  have hcd := xRvs_cat hst
  have hlf : l.stackTraces = false := by unfold Launch.stackTraces; rw [hfl]; decide
  refine W.mono (hE2 "java/util/NoSuchElementException" (tk M 6) ad H d hX (xExt_tk a6) (xRep_tk a1) a3 (xS_fr a2)) ?_
  exact ns_throwW (s := s.setDrawn d) (text := text) (A := xA base) (sa := (hEv.2.2.1 _ (List.mem_of_getElem? hm)).choose) hx hb hlf hown (dr_words hts d _ hk) (dr_words hts d _ w1_29) (vk_R.same rfl (hEv.2.2.1 _ (List.mem_of_getElem? hm)).choose_spec)
    (fun v hv hn => ot_at hts hEv.2.2.2.2.2.1 (ns_ok hl v hv hn))
    (fun v hv hn => by
      rcases List.mem_cons.mp hv with rfl | hv
      · exact ot_of (Or.inl hk)
      · rcases List.mem_cons.mp hv with rfl | hv
        · exact ot_of (Or.inl w1_29)
        · exact ot_of (ns_ok hl v hv hn))
    (vx_Zq.moved (Vm.Alike.refl _) hEv.1) (vx_Zq.moved (Vm.Alike.refl _) hEv.2.1) a2 (a7.1.trans hml.symm) d0 d3 d4 d6 d9 (by rw [htb, hh]; exact fun _ h => nomatch h)
    (by omega) (by rw [hcd]; omega) (by omega) (by omega) hlk (fun t al hz hk9 => ⟨rfl, al, hz, hk9⟩) (fun q hq => a2.2.2 q hq) (by omega) (by omega)
end VXN
