/-! ===== Arrays.copyOf; what a call that may throw gives where it returns ===== -/
section VXE
theorem CC.ri {P : Mem → Prop} {k : MI} {avs : List Value} {M N : Mem} {y : Int32} (h : CC P k avs M ((Sum.inl y, N) : (Int32 ⊕ String) × Mem).2 (QS (fun v => some (Value.int v)) (Sum.inl y, N)) (XS ((Sum.inl y, N) : (Int32 ⊕ String) × Mem))) : CC P k avs M N (Qv (some (.int y)) N) xF := h.mono id (QSl (f := fun v => some (Value.int v)) rfl) (XSl rfl)
theorem CC.rr {P : Mem → Prop} {k : MI} {avs : List Value} {M N : Mem} {y : Nat} (h : CC P k avs M ((Sum.inl y, N) : (Nat ⊕ String) × Mem).2 (QS (fun v => some (Value.ref v)) (Sum.inl y, N)) (XS ((Sum.inl y, N) : (Nat ⊕ String) × Mem))) : CC P k avs M N (Qv (some (.ref y)) N) xF := h.mono id (QSl (f := fun v => some (Value.ref v)) rfl) (XSl rfl)
theorem CC.rl {P : Mem → Prop} {k : MI} {avs : List Value} {M N : Mem} {y : Int64} (h : CC P k avs M ((Sum.inl y, N) : (Int64 ⊕ String) × Mem).2 (QS (fun v => some (Value.long v)) (Sum.inl y, N)) (XS ((Sum.inl y, N) : (Int64 ⊕ String) × Mem))) : CC P k avs M N (Qv (some (.long y)) N) xF := h.mono id (QSl (f := fun v => some (Value.long v)) rfl) (XSl rfl)
theorem CC.rd {P : Mem → Prop} {k : MI} {avs : List Value} {M N : Mem} {y : UInt64} (h : CC P k avs M ((Sum.inl y, N) : (UInt64 ⊕ String) × Mem).2 (QS (fun v => some (Value.double v)) (Sum.inl y, N)) (XS ((Sum.inl y, N) : (UInt64 ⊕ String) × Mem))) : CC P k avs M N (Qv (some (.double y)) N) xF := h.mono id (QSl (f := fun v => some (Value.double v)) rfl) (XSl rfl)
theorem CC.rf {P : Mem → Prop} {k : MI} {avs : List Value} {M N : Mem} {y : UInt32} (h : CC P k avs M ((Sum.inl y, N) : (UInt32 ⊕ String) × Mem).2 (QS (fun v => some (Value.float v)) (Sum.inl y, N)) (XS ((Sum.inl y, N) : (UInt32 ⊕ String) × Mem))) : CC P k avs M N (Qv (some (.float y)) N) xF := h.mono id (QSl (f := fun v => some (Value.float v)) rfl) (XSl rfl)
/-- new ints in one int array -/
theorem xRep_ints {D : xG} {ad : Nat → Nat} {base : Nat} {M M' : Mem} {H H' : Heap} {a : Nat} {cell : Cell} (hR : xRep D ad base M H) (ha : mK M a = 21) (h1 : H'[ad a]? = some cell) (h3 : ∀ q, q ≠ ad a → H'[q]? = H[q]?)
    (hc : cell.cls = D.1 21) (hv : cell.vm = .none) (hsz : cell.slots.size = mN M a) (hs : ∀ j, j < mN M a → cell.slots[j]? = some (.int (mI M' a j))) (hT : M'.2.2.2.2.1 = M.2.2.2.2.1) (hoff : ∀ (b j : Nat) (ty : FieldType), b ≠ a → xval M' b j ty = xval M b j ty) : xRep D ad base M' H' := by
  have hTb : ∀ b, mT M' b = mT M b := fun b => by show M'.2.2.2.2.1 b = M.2.2.2.2.1 b; rw [hT]
  have hKb : ∀ b, mK M' b = mK M b := fun b => by unfold mK; rw [hTb]
  have hNb : ∀ b, mN M' b = mN M b := fun b => by unfold mN; rw [hTb]
  refine ⟨fun b hb => ?_, fun b1 b2 hb1 hb2 => hR.2 b1 b2 (by rw [← hKb]; exact hb1) (by rw [← hKb]; exact hb2)⟩
  rw [hKb] at hb ⊢
  obtain ⟨⟨cb, Vb, g1, g2, g3, g4, g5, g6⟩, hbase⟩ := hR.1 b hb
  refine ⟨?_, hbase⟩
  by_cases hba : b = a
  · subst hba
    refine ⟨cell, fun j => .int (mI M' b j), h1, by rw [hKb, ha]; exact hc, xVm_none hv, fun j hj => ?_, fun h20 => ?_, fun h20 => ?_⟩
    · rw [hNb] at hj
      rw [hKb, ha, xpos_arr (by omega)]
      exact ⟨hs j hj, rfl⟩
    · rw [hKb] at h20 ⊢
      rw [hNb]
      exact ⟨hsz, (g5 h20).2⟩
    · rw [hKb, ha] at h20
      omega
  · have hne : ad b ≠ ad a := fun q => hba (hR.2 b a hb (by rw [ha]; decide) q)
    refine ⟨cb, Vb, by rw [h3 _ hne]; exact g1, by rw [hKb]; exact g2, by rw [hKb]; exact g3, fun j hj => ?_, fun h20 => ?_, fun h20 => ?_⟩
    · rw [hNb] at hj
      rw [hKb, hoff b j _ hba]
      exact ⟨(g4 j hj).1, xRv_same hT (g4 j hj).2⟩
    · rw [hKb] at h20 ⊢
      rw [hNb]
      exact g5 h20
    · rw [hKb] at h20 ⊢
      rw [hNb]
      exact g6 h20
theorem sC_off {M : Mem} {a b n : Nat} (hab : a ≠ b) : ∀ (c j : Nat) (ty : FieldType), c ≠ b → xval (sC M a b n) c j ty = xval (sN M b 21 n) c j ty := by
  intro c j ty hc
  have ei : mI (sC M a b n) c j = mI (sN M b 21 n) c j := by
    show (if c = b then _ else M.1 c j) = clr M.1 b 0 c j
    rw [if_neg hc]
    simp [clr, hc]
  cases ty <;> simp only [xval, ei] <;> rfl
theorem sC_on {M : Mem} {a b n j : Nat} (hj : j < n) : mI (sC M a b n) b j = mI M a j := by
  show (if b = b then (if j < n then M.1 a j else 0) else M.1 b j) = _
  rw [if_pos rfl, if_pos hj]
  rfl
variable {k k' : MI} {pc : Nat} {lv lv1 : List (Nat × Value)} {st avs : List Value} {nc ns n : Nat} {M z : Mem} {Q Q1 : xQ} {X : xX} {P : Mem → Prop}
set_option maxHeartbeats 1000000 in
/-- clone of an int array, under the next name -/
theorem V_clone21 {a b index : Nat} (hd : decode (kCC k) pc = .ok (.invokevirtual index, 3)) (hl : Cond.methodLink (kOwn k) index ⟨"[I", "clone", "()Ljava/lang/Object;"⟩ ∈ xTs) (ht : mK M a = 21) (hb9 : mK M b = 0) (hb31 : b < 2147483648) (hdep : 1 ≤ kDep k) (hloc : 30 ≤ kLoc k) (hcat : (st.map fun v => v.category).sum ≤ 8) (hnc : 1 ≤ nc) (hns : mN M a ≤ ns)
    (kk : V k (pc + 3) lv (.ref b :: st) (nc - 1) (ns - mN M a) (sC M a b (mN M a)) Q X) : V k pc lv (.ref a :: st) nc ns M Q X := by
  intro p l e R s m args below meth c base D Z M0 ad0 mc ms ad H locs cells slots d ls rst hF hN hst
  obtain ⟨y0, r0, rfl, ⟨rfl, hka⟩, hst1⟩ := xRvs_cons hst
  obtain ⟨hx, hb, hml, hlk, hret, hnm, htb, hown, hts, hfl, hKn, hEv, hbase, hRf, hRl, hRc, hRs, hE⟩ := id hF
  obtain ⟨a1, a2, a3, a4, a5, a6, lvr, a7, a8⟩ := id hN
  have hcd := xRvs_cat hst1
  have hts' := dr_words hts d
  obtain ⟨⟨cell, Vb, g1, g2, g3, g4, g5, g6⟩, hbs⟩ := a1.1 a hka
  replace g3 := g3.2.2 (by omega)
  obtain ⟨z1, z2, -, -⟩ := g5 (by omega)
  rw [ht] at g2 g4
  have hab : a ≠ b := fun q => hka (q ▸ hb9)
  have hcl : va_Nw (.castable "[I" "java/lang/Cloneable") (s.setDrawn d) := va_Nw.same rfl (u := s) (U := s.setDrawn d) rfl (hEv.2.2.2.2.2.1 _ List.mem_cons_self)
  obtain ⟨c0, t0, f1, f2, f3⟩ := Cond.castable_spec (va_Nw.use (A := args) rfl hcl)
  have hnmI : (s.setDrawn d).vm.findClass "[I" = some cell.cls := by rw [g2]; exact hKn.2.2 21 (by omega) (by omega)
  cases hnmI.symm.trans f1
  intro T hT Xs
  have hcellT : T.heap[ad a]? = some cell := by rw [hT]; exact g1
  obtain ⟨-, kA, hkA, comp, hkind⟩ := State.isArrayOf_alike Xs.warmed.alike (hKn.2.1 21 (by omega) (by omega) 0 (fun _ => .null))
  obtain ⟨-, kS, hkS, compS, hkindS⟩ := hKn.2.1 21 (by omega) (by omega) 0 (fun _ => .null)
  have hslot : ∀ (i : Nat) (v : Value), cell.slots[i]? = some v → ∃ x, v = .int x := fun i v hv => by
    have hi : i < cell.slots.size := (Array.getElem?_eq_some_iff.mp hv).1
    have := (g4 i (by omega)).1
    rw [xpos_arr (by omega), hv] at this
    have h2 := (g4 i (by omega)).2
    cases this
    exact ⟨_, h2⟩
  obtain ⟨vm', X', stp⟩ := Xs.cloneArray hx (own := kOwn k) (index := index) hown (hts' _ hl) (hts' _ w2_121) (hts' _ w2_122) (hts' _ w2_123) (hts' _ w2_124) (a := ad a) (cell := cell) hcellT (fun k h => by rw [g3] at h; cases h) (by rw [g3]; exact fun h => by cases h) hnmI f2 f3
    (fun i v hv => by
      rw [g2]
      have hk' : T.vm.classes[D.1 21]? = some kA := hkA
      obtain ⟨x, rfl⟩ := hslot i v hv
      simp [State.fitsSlot, State.slotType?, hk', hkind]
      rfl)
    (g := F0 m pc ls (.ref (ad a) :: r0)) rfl (by rw [hml]; exact a7.1) rfl (by rw [hb]; exact hd) (by omega) (by show 2 * 0 + _ + 14 ≤ _; rw [hcd]; omega) (by omega) (by rw [z1]; omega) (hloader := by rw [g2]; exact Vm.clonesLoader_of_array hkS hkindS)
  rw [z1] at X'
  generalize hC9 : ({ cls := cell.cls, slots := cell.slots } : Cell) = c9 at X' stp
  have c1 : c9.cls = D.1 21 := by rw [← hC9]; exact g2
  have c2 : c9.vm = .none := by rw [← hC9]
  have c3 : c9.slots = cell.slots := by rw [← hC9]
  generalize hH1 : H.push c9 = H1
  have w1 : H1.size = H.size + 1 := by rw [← hH1, Array.size_push]
  have r1 : H1[H.size]? = some c9 := by rw [← hH1, Array.getElem?_push_size]
  have o1 : ∀ q : Nat, q < H.size → H1[q]? = H[q]? := fun q hq => by rw [← hH1, Array.getElem?_push, if_neg (Nat.ne_of_lt hq)]
  have hHs : base ≤ H.size := Nat.le_trans hbase a2.1
  obtain ⟨hR0, hE0⟩ := xRep_new (H' := H.push (arrV (D.1 21) (mN M a) (fun _ => .int 0))) (a := b) (t := 21) (n := mN M a) a1 hb9 hb31 hHs (by omega) (by omega) (by rw [Array.getElem?_push_size]) (fun q hq => by rw [Array.getElem?_push, if_neg (Nat.ne_of_lt hq)]) rfl rfl (fun j hj => by
      rw [xpos_arr (by omega)]
      show (arrV (D.1 21) (mN M a) (fun _ => Value.int 0)).slots[j]? = some (.int 0)
      simp [arrV, hj]) (fun _ => ⟨by simp [arrV], z2, by omega, by omega⟩) (fun z => by omega) (fun j hj => by
    show xRv ad M (.int (mI (sN M b 21 (mN M a)) b j)) (.int 0)
    rw [show mI (sN M b 21 (mN M a)) b j = 0 by simp [mI, sN, clr]]
    exact rfl)
  have hNb : mN (sN M b 21 (mN M a)) b = mN M a := by simp [mN, mT, sN]
  have hR1 : xRep D (adN ad b H.size) base (sC M a b (mN M a)) H1 := by
    refine xRep_ints (a := b) (cell := c9) hR0 (by simp [mK, mT, sN]) (by rw [adN_self]; exact r1) (fun q hq => ?_) c1 c2 (by rw [c3, hNb]; exact z1) (fun j hj => ?_) rfl (sC_off hab)
    · rw [adN_self] at hq
      by_cases hq2 : q < H.size
      · rw [o1 q hq2, Array.getElem?_push, if_neg hq]
      · rw [Array.getElem?_eq_none (by omega), Array.getElem?_eq_none (by rw [Array.size_push]; omega)]
    · rw [hNb] at hj
      rw [c3, sC_on hj]
      obtain ⟨q1, q2⟩ := g4 j hj
      rw [xpos_arr (by omega)] at q1
      rw [q1]
      exact congrArg some q2
  have hE1 : xExt M ad (sC M a b (mN M a)) (adN ad b H.size) := hE0
  obtain ⟨t, b1, b2⟩ := kk p l e R s m args below meth c base D Z M0 ad0 mc ms _ H1 locs (cells + 1) (slots + mN M a) d ls (.ref H.size :: r0) hF
    ⟨hR1, ⟨Nat.le_trans a2.1 (by omega), fun q g1 g2 => (o1 q (Nat.lt_of_lt_of_le g1 a2.1)).trans (a2.2.1 q g1 g2), a2.2.2⟩, a3, by omega, by omega, xExt_trans a6 hE1, lvr, a7, xRl_ext hE1 a8⟩ ⟨⟨by rw [adN_self], by show (mT (sN M b 21 (mN M a)) b).1 ≠ 0; simp [mT, sN]⟩, xRvs_ext hE1 hst1⟩
    ((T.setVm vm').pushCell c9) (by rw [← hH1, ← hT]; rfl) X'
  refine ⟨t, stp t ?_, b2⟩
  rw [hT]
  exact b1
set_option maxHeartbeats 1000000 in
/-- a checkcast to int[] -/
theorem V_cast21 {a index : Nat} (hd : decode (kCC k) pc = .ok (.checkcast index, 3)) (hl : Cond.classLink (kOwn k) index "[I" ∈ xTs) (ht : mK M a = 21) (kk : V k (pc + 3) lv (.ref a :: st) nc ns M Q X) : V k pc lv (.ref a :: st) nc ns M Q X := by
  intro p l e R s m args below meth c base D Z M0 ad0 mc ms ad H locs cells slots d ls rst hF hN hst
  obtain ⟨y0, r0, rfl, ⟨rfl, hka⟩, hst1⟩ := xRvs_cons hst
  obtain ⟨hx, hb, hml, hlk, hret, hnm, htb, hown, hts, hfl, hKn, hEv, hbase, hRf, hRl, hRc, hRs, hE⟩ := id hF
  obtain ⟨a1, a2, a3, a4, a5, a6, lvr, a7, a8⟩ := id hN
  obtain ⟨⟨cell, Vb, g1, g2, g3, g4, g5, g6⟩, hbs⟩ := a1.1 a hka
  replace g3 := g3.2.2 (by omega)
  rw [ht] at g2
  have hnmI : (s.setDrawn d).vm.findClass "[I" = some cell.cls := by rw [g2]; exact hKn.2.2 21 (by omega) (by omega)
  intro T hT Xs
  obtain ⟨vm', X', stp⟩ := Xs.checkcastYes hx (own := kOwn k) (index := index) hown (dr_words hts d _ hl) (by rw [hT]; exact g1) (by rw [g3]; rfl) hnmI (va_asg _ _) (g := F0 m pc ls (.ref (ad a) :: r0)) rfl rfl (by rw [hb]; exact hd)
  obtain ⟨t, b1, b2⟩ := kk p l e R s m args below meth c base D Z M0 ad0 mc ms ad H locs cells slots d ls (.ref (ad a) :: r0) hF hN ⟨⟨rfl, hka⟩, hst1⟩ (T.setVm vm') hT X'
  exact ⟨t, stp t b1, b2⟩
set_option maxHeartbeats 1000000 in
/-- the first n ints of a into b, that has just n -/
theorem V_copy21 {a b index n : Nat} {x : Int32} {M' : Mem} (hd : decode (kCC k) pc = .ok (.invokestatic index, 3)) (hl : Cond.methodLink (kOwn k) index arraycopyName ∈ xTs) (hta : mK M a = 21) (htb : mK M b = 21) (hx0 : ¬ x < 0) (hxn : x.toNatClampNeg = n) (hna : n ≤ mN M a) (hnb : mN M b = n)
    (hT : M'.2.2.2.2.1 = M.2.2.2.2.1) (hoff : ∀ (c j : Nat) (ty : FieldType), c ≠ b → xval M' c j ty = xval M c j ty) (hon : ∀ j, j < n → mI M' b j = mI M a j) (hdep : 1 ≤ kDep k) (hloc : 60 ≤ kLoc k) (hcat : (st.map fun v => v.category).sum ≤ 8)
    (kk : V k (pc + 3) lv st nc ns M' Q X) : V k pc lv (.int x :: .int 0 :: .ref b :: .int 0 :: .ref a :: st) nc ns M Q X := by
  intro p l e R s m args below meth c base D Z M0 ad0 mc ms ad H locs cells slots d ls rst hF hN hst
  obtain ⟨y0, r0, rfl, e0, hst1⟩ := xRvs_cons hst
  obtain ⟨y1, r1, rfl, e1, hst2⟩ := xRvs_cons hst1
  obtain ⟨y2, r2, rfl, ⟨rfl, hkb⟩, hst3⟩ := xRvs_cons hst2
  obtain ⟨y3, r3, rfl, e3, hst4⟩ := xRvs_cons hst3
  obtain ⟨y4, r4, rfl, ⟨rfl, hka⟩, hst5⟩ := xRvs_cons hst4
  cases (show y0 = .int x from e0)
  cases (show y1 = .int 0 from e1)
  cases (show y3 = .int 0 from e3)
  obtain ⟨hx, hb, hml, hlk, hret, hnm, htb9, hown, hts, hfl, hKn, hEv, hbase, hRf, hRl, hRc, hRs, hE⟩ := id hF
  obtain ⟨a1, a2, a3, a4, a5, a6, lvr, a7, a8⟩ := id hN
  have hcd := xRvs_cat hst5
  have hts' := dr_words hts d
  obtain ⟨⟨ca, Va, g1, g2, g3, g4, g5, -⟩, -⟩ := a1.1 a hka
  obtain ⟨⟨cb, Vb, k1, k2, k3, k4, k5, -⟩, hbs⟩ := a1.1 b hkb
  replace g3 := g3.2.2 (by omega)
  replace k3 := k3.2.2 (by omega)
  obtain ⟨z1, z2, -, -⟩ := g5 (by omega)
  obtain ⟨w1, w2, -, -⟩ := k5 (by omega)
  rw [hta] at g2 g4
  rw [htb] at k2 k4
  have hba : xA base (ad b) := hbs (by omega)
  have hx1 : x.toInt = (n : Int) := by have := toNatClampNeg_of_not_neg32 x hx0; omega
  obtain ⟨-, kA, hkA, comp, hkind⟩ := hKn.2.1 21 (by omega) (by omega) 0 (fun _ => .null)
  have n0 : (0 : Int32).toInt = 0 := by decide
  have n1 : (0 : Int32).toNatClampNeg = 0 := by decide
  have hv : ∀ i, i < n → ca.slots.getD i .null = .int (mI M a i) := fun i hi => by
    obtain ⟨q1, q2⟩ := g4 i (by omega)
    rw [xpos_arr (by omega)] at q1
    have q3 : Va i = .int (mI M a i) := q2
    rw [Array.getD_eq_getD_getElem?, q1, q3]
    rfl
  have hfw : nativeFrameWords "java/lang/System" "arraycopy" 5 ≤ 40 := by decide
  intro T hT' Xs
  obtain ⟨vm', X', stp⟩ := Xs.arraycopy hx (own := kOwn k) (index := index) hown (hts' _ hl) (hts' _ w2_132) (hts' _ w2_131) (hts' _ w1_13) (src := ad a) (dst := ad b) (cs := ca) (cd := cb) (srcPos := 0) (destPos := 0) (n := x) (by rw [hT']; exact g1) (by rw [hT']; exact k1)
    (fun _ h => by rw [g3] at h; cases h) (fun _ h => by rw [k3] at h; cases h) (fun h => by rw [g3] at h; cases h) (fun h => by rw [k3] at h; cases h) (by rw [g2]; exact hkA) (by rw [k2]; exact hkA) hkind hkind (by first | rfl | decide | simp [refKind]) (by decide) (by decide) hx0
    (by rw [n0, hx1, z1]; omega) (by rw [n0, hx1, w1]; omega)
    (fun vm₁ _ i hi => by
      have e : ca.slots.getD ((0 : Int32).toNatClampNeg + i) .null = .int (mI M a i) := by
        rw [n1, Nat.zero_add]
        exact hv i (by omega)
      refine ⟨?_, ?_⟩
      · rw [e]
        rfl
      · rw [e]
        exact trivial)
    (g := F0 m pc ls (.int x :: .int 0 :: .ref (ad b) :: .int 0 :: .ref (ad a) :: r4)) rfl (by rw [hml]; exact a7.1) (rest := r4) rfl (by rw [hb]; exact hd) (by omega) (by show 2 * 0 + _ + _ ≤ _; rw [hcd]; omega)
  obtain ⟨f1, f2, f3, -⟩ := Cell.storeRun_facts cb (0 : Int32).toNatClampNeg (ca.stretch (0 : Int32).toNatClampNeg x.toNatClampNeg)
  have c4 : ∀ j, j < n → (copied ca cb 0 0 x).slots[j]? = some (.int (mI M' b j)) := fun j hj => by
    show (cb.storeRun (0 : Int32).toNatClampNeg (ca.stretch (0 : Int32).toNatClampNeg x.toNatClampNeg)).slots[j]? = _
    rw [n1, hxn, Cell.storeRun_get _ _ _ _ (by rw [Cell.stretch_length]; omega), Cell.stretch_length, if_pos ⟨Nat.zero_le _, by omega⟩, Nat.sub_zero]
    unfold Cell.stretch
    rw [List.getElem?_map, List.getElem?_range hj]
    show some (ca.slots.getD (0 + j) .null) = _
    rw [Nat.zero_add, hv j hj, hon j hj]
  generalize hC : copied ca cb 0 0 x = C at X' stp c4
  have c1 : C.cls = D.1 21 := by rw [← hC]; exact f1.trans k2
  have c2 : C.vm = .none := by rw [← hC]; exact f2.trans k3
  have c3 : C.slots.size = mN M b := by rw [← hC]; exact f3.trans w1
  have hlt : ad b < H.size := (Array.getElem?_eq_some_iff.mp k1).1
  have hheap : ((T.setVm vm').setCell (ad b) C).heap = H.setIfInBounds (ad b) C := by rw [← hT']; rfl
  have oq : ∀ q : Nat, q ≠ ad b → (H.setIfInBounds (ad b) C)[q]? = H[q]? := fun q hq => by simp [Array.getElem?_setIfInBounds, Ne.symm hq]
  have hR' : xRep D ad base M' (H.setIfInBounds (ad b) C) := xRep_ints a1 htb (by simp [Array.getElem?_setIfInBounds, hlt]) oq c1 c2 c3 (fun j hj => c4 j (by omega)) hT hoff
  obtain ⟨t, b1, b2⟩ := kk p l e R s m args below meth c base D Z M0 ad0 mc ms ad _ _ cells slots d ls r4 hF
    ⟨hR', ⟨by simp; exact a2.1, fun q g1 g2 => by
      rw [oq q (fun e => g2 (by rw [e]; exact hba))]
      exact a2.2.1 q g1 g2, fun q hq => by
      rcases List.mem_append.mp hq with h | h
      · exact a2.2.2 q h
      · obtain ⟨z, -, hz⟩ := List.mem_map.mp h
        rw [← hz]
        exact hba⟩, a3, a4, a5, xExt_same a6 hT, lvr, a7, xRl_same hT a8⟩ (xRvs_same hT hst5) _ hheap X'
  exact ⟨t, stp t b1, b2⟩
theorem V_len31 {a : Nat} (ht : mK M a = 21) (kk : mN M a < 2 ^ 31 → V k pc lv st nc ns M Q X) : V k pc lv st nc ns M Q X := by
  intro p l e R s m args below meth c base D Z M0 ad0 mc ms ad H locs cells slots d ls rst hF hN hst
  obtain ⟨⟨ca, Va, g1, g2, g3, g4, g5, -⟩, -⟩ := hN.1.1 a (by omega)
  exact kk (g5 (by omega)).2.1 p l e R s m args below meth c base D Z M0 ad0 mc ms ad H locs cells slots d ls rst hF hN hst
theorem c_copyOf {r0 : Nat} {x1 : Int32} (hP : Fsh M) (h1 : mK M r0 = 21) (h2 : 0 ≤ x1 ∧ x1 ≤ 100000) (h3 : x1.toNatClampNeg ≤ mN M r0) (h4 : nx M < 2147483648) (hnc : 1 ≤ nc) (hns : x1.toNatClampNeg ≤ ns) :
    CTk k_J7_copyOf_59c91 nc ns [.ref r0, .int x1] M (Qv (some (.ref (nx M))) (sC M r0 (nx M) x1.toNatClampNeg)) xF := by
  have hfr : mK M (nx M) = 0 := hP _ (Nat.le_refl _)
  have hne : r0 ≠ nx M := fun q => by rw [q, hfr] at h1; cases h1
  refine CTk.ofV (by decide) rfl (Nat.le_of_ble_eq_true rfl) ?_
  refine V_len31 (k := k_J7_copyOf_59c91) (a := r0) h1 (fun h31 => ?_)
  have hI : (nI (mN M r0)).toInt = (mN M r0 : Int) := Int32.toInt_ofNat_of_lt h31
  have hx1 : x1.toInt = (x1.toNatClampNeg : Int) := by
    have := toNatClampNeg_of_not_neg32 x1 (na_1 h2)
    omega
  refine V_iload_n (pc := 0) (j := 1) dJ7_copyOf_59c91_0 rfl rfl ?_
  refine V_aload_n (pc := 1) (j := 0) dJ7_copyOf_59c91_1 rfl rfl ?_
  refine V_alen (pc := 2) dJ7_copyOf_59c91_2 h1 (by omega) ?_
  refine V_icmp_ne (pc := 3) (tgt := 14) dJ7_copyOf_59c91_3 rfl (fun hq => ?_) (fun hq => ?_)
  · refine V_iload_n (pc := 14) (j := 1) dJ7_copyOf_59c91_14 rfl rfl ?_
    refine V_newa (pc := 15) (a := nx M) (t := 21) (N := x1.toNatClampNeg) dJ7_copyOf_59c91_15 (by omega) (by omega) rfl w1_100 hfr h4 (na_1 h2) rfl (na_2 h2) hnc hns ?_
    have k0 : mK (sN M (nx M) 21 x1.toNatClampNeg) r0 = 21 := by show (mT _ _).1 = _; rw [mT_sN_ne hne]; exact h1
    have n0 : mN (sN M (nx M) 21 x1.toNatClampNeg) r0 = mN M r0 := by show (mT _ _).2 = _; rw [mT_sN_ne hne]; rfl
    have kb : mT (sN M (nx M) 21 x1.toNatClampNeg) (nx M) = (21, x1.toNatClampNeg) := mT_sN_self
    refine V_astore_n (pc := 17) dJ7_copyOf_59c91_17 rfl (Nat.le_of_ble_eq_true rfl) rfl ?_
    refine V_aload_n (pc := 18) (j := 1) dJ7_copyOf_59c91_18 rfl rfl ?_
    refine V_iconst (pc := 19) (v := 0) dJ7_copyOf_59c91_19 rfl ?_
    refine V_aload_n (pc := 20) (j := 0) dJ7_copyOf_59c91_20 rfl rfl ?_
    refine V_iconst (pc := 21) (v := 0) dJ7_copyOf_59c91_21 rfl ?_
    refine V_aload_n (pc := 22) (j := 1) dJ7_copyOf_59c91_22 rfl rfl ?_
    refine V_alen (pc := 23) dJ7_copyOf_59c91_23 k0 (by omega) ?_
    rw [n0]
    refine V_iload_n (pc := 24) (j := 2) dJ7_copyOf_59c91_24 rfl rfl ?_
    refine V_sv (k' := k_min) (pc := 25) (avs := [.int (nI (mN M r0)), .int x1]) dJ7_copyOf_59c91_25 w2_127 i_min rfl (Nat.le_of_ble_eq_true rfl) (Nat.le_of_ble_eq_true rfl) (Nat.le_of_ble_eq_true rfl) (c_min (v := x1) ?_) ?_
    · by_cases hlt : x1 < nI (mN M r0)
      · rw [if_pos hlt]
      · rw [if_neg hlt]
        rw [Int32.lt_iff_toInt_lt, hI] at hlt
        apply Int32.toInt_inj.mp
        rw [hI]
        omega
    · refine V_copy21 (pc := 28) (n := x1.toNatClampNeg) (M' := sC M r0 (nx M) x1.toNatClampNeg) dJ7_copyOf_59c91_28 w2_130 k0 (by show (mT _ _).1 = _; rw [kb]) (na_1 h2) rfl (by rw [n0]; exact h3) (by show (mT _ _).2 = _; rw [kb]) rfl (sC_off hne) (fun j hj => ?_) (Nat.le_of_ble_eq_true rfl) (Nat.le_of_ble_eq_true rfl) (Nat.le_of_ble_eq_true rfl) ?_
      · rw [sC_on hj]
        simp [mI, sN, clr, hne]
      · refine V_aload_n (pc := 31) (j := 0) dJ7_copyOf_59c91_31 rfl rfl ?_
        exact V_aret (pc := 32) rfl (Or.inr ⟨_, rfl⟩) dJ7_copyOf_59c91_32 ⟨rfl, rfl⟩
  · have hxl : x1.toNatClampNeg = mN M r0 := by
      rw [hq] at hx1
      rw [hI] at hx1
      rw [hq]
      omega
    rw [hxl]
    refine V_aload_n (pc := 6) (j := 0) dJ7_copyOf_59c91_6 rfl rfl ?_
    refine V_clone21 (pc := 7) (b := nx M) dJ7_copyOf_59c91_7 w2_120 h1 hfr h4 (Nat.le_of_ble_eq_true rfl) (Nat.le_of_ble_eq_true rfl) (Nat.le_of_ble_eq_true rfl) hnc (by omega) ?_
    refine V_cast21 (pc := 10) dJ7_copyOf_59c91_10 w2_126 (by show (mT (sN M (nx M) 21 (mN M r0)) (nx M)).1 = 21; rw [mT_sN_self]) ?_
    exact V_aret (pc := 13) rfl (Or.inr ⟨_, rfl⟩) dJ7_copyOf_59c91_13 ⟨rfl, rfl⟩
theorem v_J7_copyOf_59c91 {r0 : Nat} {x1 : Int32} {M z} (hP : Fsh M) (h : d_J7_copyOf_59c91 r0 x1 M = some z) : CC (Kx (nx M) M) k_J7_copyOf_59c91 [.ref r0, .int x1] M z.2 (Qv (some (.ref z.1)) z.2) xF := by
  unfold d_J7_copyOf_59c91 at h
  obtain ⟨h1, h⟩ := okE h
  obtain ⟨h2, h⟩ := okE h
  obtain ⟨h3, h⟩ := okE h
  obtain ⟨h4, h⟩ := okE h
  cases h
  have e1 : uC (sC M r0 (nx M) x1.toNatClampNeg) = uC M + 1 := rfl
  have e2 : uS (sC M r0 (nx M) x1.toNatClampNeg) = uS M + x1.toNatClampNeg := rfl
  have hk : Kx (nx M) M (sN M (nx M) 21 x1.toNatClampNeg) := (Kx.refl hP (Nat.le_refl _)).wN rfl (by decide) rfl
  exact ⟨⟨hk, by rw [e1]; omega, by rw [e2]; omega⟩, fun nc ns g1 g2 => c_copyOf hP h1 h2 h3 h4 (by rw [e1] at g1; omega) (by rw [e2] at g2; omega)⟩
/-- the law -/
def k_L_law : MI := ("TracewheelLaw", yL_law, cL_law, 9, (some .boolean), 23, 13116, [])
end VXE

