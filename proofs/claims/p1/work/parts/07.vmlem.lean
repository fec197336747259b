/-! ===== lemmas of the memory and of what a place holds ===== -/
section VML
def adN (ad : Nat → Nat) (a h : Nat) : Nat → Nat := fun b => if b = a then h else ad b
theorem adN_self (ad : Nat → Nat) (a h : Nat) : adN ad a h a = h := if_pos rfl
theorem adN_ne {ad : Nat → Nat} {a h b : Nat} (hb : b ≠ a) : adN ad a h b = ad b := if_neg hb
theorem alq_refl {u : UInt64} (h : isNaN64 u = true → u &&& 0x0008000000000000 ≠ 0) : alq u u := by
  by_cases hu : isNaN64 u = true
  · exact Or.inr ⟨hu, hu, h hu⟩
  · exact Or.inl ⟨by simpa using hu, rfl⟩
theorem alq_num {u : UInt64} (h : isNaN64 u = false) : alq u u := Or.inl ⟨h, rfl⟩
theorem alq_eq {v u : UInt64} (h : alq v u) (hu : isNaN64 u = false) : v = u := by
  rcases h with ⟨_, e⟩ | ⟨e, _, _⟩
  · exact e
  · rw [hu] at e; cases e
theorem xRv_cat {ad : Nat → Nat} {M : Mem} {x y : Value} (h : xRv ad M x y) : y.category = x.category := by
  cases x with
  | double u => obtain ⟨v, rfl, -⟩ := h; rfl
  | ref a => rw [h.1]; rfl
  | int v => rw [show y = .int v from h]
  | long v => rw [show y = .long v from h]
  | float v => rw [show y = .float v from h]
  | null => rw [show y = .null from h]
  | retAddr v => rw [show y = .ref (ad (2147483648 + v)) from h]; rfl
theorem xRvs_cat {ad : Nat → Nat} {M : Mem} : ∀ {xs ys : List Value}, xRvs ad M xs ys → (ys.map fun v => v.category) = (xs.map fun v => v.category)
  | [], [], _ => rfl
  | x :: xs, y :: ys, h => by
    rw [List.map_cons, List.map_cons, xRv_cat h.1, xRvs_cat h.2]
  | [], _ :: _, h => h.elim
  | _ :: _, [], h => h.elim
theorem xRvs_len {ad : Nat → Nat} {M : Mem} : ∀ {xs ys : List Value}, xRvs ad M xs ys → ys.length = xs.length
  | [], [], _ => rfl
  | x :: xs, y :: ys, h => by
    rw [List.length_cons, List.length_cons, xRvs_len h.2]
  | [], _ :: _, h => h.elim
  | _ :: _, [], h => h.elim
theorem xRvs_cons {ad : Nat → Nat} {M : Mem} {x : Value} {xs ys : List Value} (h : xRvs ad M (x :: xs) ys) : ∃ y ys', ys = y :: ys' ∧ xRv ad M x y ∧ xRvs ad M xs ys' := by
  cases ys with
  | nil => exact h.elim
  | cons y ys' => exact ⟨y, ys', rfl, h.1, h.2⟩
theorem xRvs_nil {ad : Nat → Nat} {M : Mem} {ys : List Value} (h : xRvs ad M [] ys) : ys = [] := by
  cases ys with
  | nil => rfl
  | cons y ys' => exact h.elim
theorem xRvs_app {ad : Nat → Nat} {M : Mem} : ∀ {xs1 xs2 ys : List Value}, xRvs ad M (xs1 ++ xs2) ys → ∃ ys1 ys2, ys = ys1 ++ ys2 ∧ xRvs ad M xs1 ys1 ∧ xRvs ad M xs2 ys2
  | [], xs2, ys, h => ⟨[], ys, rfl, trivial, h⟩
  | x :: xs1, xs2, ys, h => by
    obtain ⟨y, ys', rfl, h1, h2⟩ := xRvs_cons (show xRvs ad M (x :: (xs1 ++ xs2)) ys from h)
    obtain ⟨y1, y2, rfl, h3, h4⟩ := xRvs_app h2
    exact ⟨y :: y1, y2, rfl, ⟨h1, h3⟩, h4⟩
theorem xRvs_join {ad : Nat → Nat} {M : Mem} : ∀ {xs1 ys1 xs2 ys2 : List Value}, xRvs ad M xs1 ys1 → xRvs ad M xs2 ys2 → xRvs ad M (xs1 ++ xs2) (ys1 ++ ys2)
  | [], [], _, _, _, h => h
  | x :: xs1, y :: ys1, _, _, h1, h2 => ⟨h1.1, xRvs_join h1.2 h2⟩
  | [], _ :: _, _, _, h, _ => h.elim
  | _ :: _, [], _, _, h, _ => h.elim
theorem xRvs_rev {ad : Nat → Nat} {M : Mem} : ∀ {xs ys : List Value}, xRvs ad M xs ys → xRvs ad M xs.reverse ys.reverse
  | [], [], _ => trivial
  | x :: xs, y :: ys, h => by
    rw [List.reverse_cons, List.reverse_cons]
    exact xRvs_join (xRvs_rev h.2) ⟨h.1, trivial⟩
  | [], _ :: _, h => h.elim
  | _ :: _, [], h => h.elim
theorem xRv_ext {M M' : Mem} {ad ad' : Nat → Nat} (hE : xExt M ad M' ad') {x y : Value} (h : xRv ad M x y) : xRv ad' M' x y := by
  cases x with
  | ref a =>
    obtain ⟨h1, h2⟩ := hE.1 a h.2
    exact ⟨by rw [h2]; exact h.1, by unfold mK; rw [h1]; exact h.2⟩
  | retAddr v => rw [show y = .ref (ad (2147483648 + v)) from h]; show Value.ref _ = Value.ref _; rw [hE.2 v]
  | _ => exact h
theorem xRvs_ext {M M' : Mem} {ad ad' : Nat → Nat} (hE : xExt M ad M' ad') : ∀ {xs ys : List Value}, xRvs ad M xs ys → xRvs ad' M' xs ys
  | [], [], _ => trivial
  | _ :: _, _ :: _, h => ⟨xRv_ext hE h.1, xRvs_ext hE h.2⟩
  | [], _ :: _, h => h.elim
  | _ :: _, [], h => h.elim
theorem xRl_ext {M M' : Mem} {ad ad' : Nat → Nat} (hE : xExt M ad M' ad') : ∀ {xs ys : List (Nat × Value)}, xRl ad M xs ys → xRl ad' M' xs ys
  | [], [], _ => trivial
  | _ :: _, _ :: _, h => ⟨⟨h.1.1, xRv_ext hE h.1.2⟩, xRl_ext hE h.2⟩
  | [], _ :: _, h => h.elim
  | _ :: _, [], h => h.elim
theorem xRl_at {ad : Nat → Nat} {M : Mem} : ∀ {lv lvr : List (Nat × Value)} {j i : Nat} {x : Value}, xRl ad M lv lvr → lv[j]? = some (i, x) → ∃ y, lvr[j]? = some (i, y) ∧ xRv ad M x y
  | [], [], j, i, x, _, hj => by simp at hj
  | a :: lv, b :: lvr, 0, i, x, h, hj => by
    have e : a = (i, x) := by simpa using hj
    subst e
    refine ⟨b.2, ?_, h.1.2⟩
    have := h.1.1
    obtain ⟨b1, b2⟩ := b
    show some (b1, b2) = some (i, b2)
    rw [show b1 = i from this.symm]
  | a :: lv, b :: lvr, j + 1, i, x, h, hj => xRl_at (lv := lv) (lvr := lvr) h.2 (by simpa using hj)
  | [], _ :: _, _, _, _, h, _ => h.elim
  | _ :: _, [], _, _, _, h, _ => h.elim
theorem xRl_filter {ad : Nat → Nat} {M : Mem} (f : Nat → Nat → Bool) : ∀ {lv lvr : List (Nat × Value)}, xRl ad M lv lvr → xRl ad M (lv.filter fun q => f q.1 q.2.category) (lvr.filter fun q => f q.1 q.2.category)
  | [], [], _ => trivial
  | a :: lv, b :: lvr, h => by
    have ih := xRl_filter f (lv := lv) (lvr := lvr) h.2
    have e : f b.1 b.2.category = f a.1 a.2.category := by rw [h.1.1, xRv_cat h.1.2]
    by_cases hf : f a.1 a.2.category = true
    · rw [List.filter_cons_of_pos (by simpa using hf), List.filter_cons_of_pos (by simpa [e] using hf)]
      exact ⟨h.1, ih⟩
    · rw [List.filter_cons_of_neg (by simpa using hf), List.filter_cons_of_neg (by simpa [e] using hf)]
      exact ih
  | [], _ :: _, h => h.elim
  | _ :: _, [], h => h.elim
theorem xRo_list {ad : Nat → Nat} {M : Mem} {r rv : Option Value} (h : xRo ad M r rv) : xRvs ad M r.toList rv.toList := by
  cases r <;> cases rv <;> first | exact trivial | exact h.elim | exact ⟨h, trivial⟩
theorem xExt_refl (M : Mem) (ad : Nat → Nat) : xExt M ad M ad := ⟨fun _ _ => ⟨rfl, rfl⟩, fun _ => rfl⟩
theorem xExt_trans {M1 M2 M3 : Mem} {a1 a2 a3 : Nat → Nat} (h : xExt M1 a1 M2 a2) (h' : xExt M2 a2 M3 a3) : xExt M1 a1 M3 a3 := ⟨fun a ha => by
  obtain ⟨e1, e2⟩ := h.1 a ha
  obtain ⟨e3, e4⟩ := h'.1 a (by unfold mK; rw [e1]; exact ha)
  exact ⟨e3.trans e1, e4.trans e2⟩, fun q => (h'.2 q).trans (h.2 q)⟩
theorem xExt_same {M0 M M' : Mem} {ad0 ad : Nat → Nat} (h : xExt M0 ad0 M ad) (hT : M'.2.2.2.2.1 = M.2.2.2.2.1) : xExt M0 ad0 M' ad := ⟨fun a ha => ⟨by show M'.2.2.2.2.1 a = _; rw [hT]; exact (h.1 a ha).1, (h.1 a ha).2⟩, h.2⟩
theorem xRv_same {M M' : Mem} {ad : Nat → Nat} (hT : M'.2.2.2.2.1 = M.2.2.2.2.1) {x y : Value} (h : xRv ad M x y) : xRv ad M' x y := xRv_ext (xExt_same (xExt_refl M ad) hT) h
theorem xRvs_same {M M' : Mem} {ad : Nat → Nat} (hT : M'.2.2.2.2.1 = M.2.2.2.2.1) {x y : List Value} (h : xRvs ad M x y) : xRvs ad M' x y := xRvs_ext (xExt_same (xExt_refl M ad) hT) h
theorem xRl_same {M M' : Mem} {ad : Nat → Nat} (hT : M'.2.2.2.2.1 = M.2.2.2.2.1) {x y : List (Nat × Value)} (h : xRl ad M x y) : xRl ad M' x y := xRl_ext (xExt_same (xExt_refl M ad) hT) h
theorem xVm_none {t : Nat} {v : VmData} (h : v = .none) : xVm t v := by subst h; exact ⟨fun h => (by cases h), fun _ h => (by cases h), fun _ => rfl⟩
/-- a slot of a named cell has got a value -/
theorem xRep_put {D : xG} {ad : Nat → Nat} {base : Nat} {M M' : Mem} {H H' : Heap} {a i : Nat} {cell : Cell} {y : Value} (hR : xRep D ad base M H) (ha : mK M a ≠ 0) (hi : i < mN M a) (hap : ∀ j, j < mN M a → j ≠ i → xpos D (mK M a) i ≠ xpos D (mK M a) j)
    (hT : M'.2.2.2.2.1 = M.2.2.2.2.1) (hoff : ∀ (b j : Nat) (ty : FieldType), ¬ (b = a ∧ j = i) → xval M' b j ty = xval M b j ty) (hon : xRv ad M (xval M' a i (xty (mK M a) i)) y)
    (hcell : H[ad a]? = some cell) (h1 : H'[ad a]? = some (cell.setSlot (xpos D (mK M a) i) y)) (h3 : ∀ q, q ≠ ad a → H'[q]? = H[q]?) : xRep D ad base M' H' := by
  have hTb : ∀ b, mT M' b = mT M b := fun b => by show M'.2.2.2.2.1 b = M.2.2.2.2.1 b; rw [hT]
  have hKb : ∀ b, mK M' b = mK M b := fun b => by unfold mK; rw [hTb]
  have hNb : ∀ b, mN M' b = mN M b := fun b => by unfold mN; rw [hTb]
  refine ⟨fun b hb => ?_, fun b1 b2 hb1 hb2 => hR.2 b1 b2 (by rw [← hKb]; exact hb1) (by rw [← hKb]; exact hb2)⟩
  rw [hKb] at hb ⊢
  obtain ⟨⟨cb, Vb, g1, g2, g3, g4, g5, g6⟩, hbase⟩ := hR.1 b hb
  refine ⟨?_, hbase⟩
  by_cases hba : b = a
  · subst hba
    cases Option.some.inj (hcell.symm.trans g1)
    refine ⟨_, updV Vb i y, h1, by rw [hKb]; exact g2, by rw [hKb]; exact g3, fun j hj => ?_, fun h20 => ?_, fun h20 => ?_⟩
    · rw [hNb] at hj
      rw [hKb]
      by_cases hji : j = i
      · subst hji
        rw [Cell.slots_setSlot_self _ (k2_hasslot (g4 j hj).1)]
        refine ⟨by simp [updV], ?_⟩
        rw [show updV Vb j y j = y by simp [updV]]
        exact xRv_same hT hon
      · rw [slot_ne _ _ (hap j hj hji), (g4 j hj).1]
        refine ⟨by simp [updV, hji], ?_⟩
        rw [show updV Vb i y j = Vb j by simp [updV, hji], hoff b j _ (fun q => hji q.2)]
        exact xRv_same hT (g4 j hj).2
    · rw [hKb] at h20 ⊢
      rw [hNb]
      obtain ⟨z1, z2⟩ := g5 h20
      exact ⟨by rw [← z1]; simp [Cell.setSlot], z2⟩
    · rw [hKb] at h20 ⊢
      rw [hNb]
      exact g6 h20
  · have hne : ad b ≠ ad a := fun q => hba (hR.2 b a hb ha q)
    refine ⟨cb, Vb, by rw [h3 _ hne]; exact g1, by rw [hKb]; exact g2, by rw [hKb]; exact g3, fun j hj => ?_, fun h20 => ?_, fun h20 => ?_⟩
    · rw [hNb] at hj
      rw [hKb, hoff b j _ (fun q => hba q.1)]
      exact ⟨(g4 j hj).1, xRv_same hT (g4 j hj).2⟩
    · rw [hKb] at h20 ⊢
      rw [hNb]
      exact g5 h20
    · rw [hKb] at h20 ⊢
      rw [hNb]
      exact g6 h20
/-- a new cell at the heap's end, by a name that was free -/
theorem xRep_new {D : xG} {ad : Nat → Nat} {base : Nat} {M : Mem} {H H' : Heap} {a t n : Nat} {cell : Cell} (hR : xRep D ad base M H) (ha : mK M a = 0) (ha31 : a < 2147483648) (hb : base ≤ H.size) (ht : t ≠ 0) (ht27 : t ≠ 27) (h1 : H'[H.size]? = some cell) (h3 : ∀ q, q < H.size → H'[q]? = H[q]?)
    (hc : cell.cls = D.1 t) (hv : cell.vm = .none) (hs : ∀ j, j < n → cell.slots[xpos D t j]? = some (defaultValue (xty t j))) (h20 : 20 < t → cell.slots.size = n ∧ n < 2 ^ 31 ∧ 21 ≤ t ∧ t ≤ 27) (h12 : t ≤ 20 → 1 ≤ t ∧ t ≤ 12 ∧ n = (vmQ t).2.2)
    (hdef : ∀ j, j < n → xRv ad M (xval (sN M a t n) a j (xty t j)) (defaultValue (xty t j))) :
    xRep D (adN ad a H.size) base (sN M a t n) H' ∧ xExt M ad (sN M a t n) (adN ad a H.size) := by
  have hTa : mT (sN M a t n) a = (t, n) := by simp [mT, sN]
  have hTb : ∀ b, b ≠ a → mT (sN M a t n) b = mT M b := fun b hb => by simp [mT, sN, hb]
  have hE : xExt M ad (sN M a t n) (adN ad a H.size) := ⟨fun b hb => by
    have hba : b ≠ a := fun q => hb (q ▸ ha)
    exact ⟨hTb b hba, adN_ne hba⟩, fun q => adN_ne (by omega)⟩
  have hlt : ∀ b, mK M b ≠ 0 → ad b < H.size := fun b hb => by
    obtain ⟨⟨cb, Vb, g1, -⟩, -⟩ := hR.1 b hb
    exact (Array.getElem?_eq_some_iff.mp g1).1
  refine ⟨⟨fun b hb0 => ?_, fun b1 b2 hb1 hb2 he => ?_⟩, hE⟩
  · by_cases hba : b = a
    · subst hba
      have hKa : mK (sN M b t n) b = t := by unfold mK; rw [hTa]
      have hNa : mN (sN M b t n) b = n := by unfold mN; rw [hTa]
      refine ⟨⟨cell, fun j => defaultValue (xty t j), by rw [adN_self]; exact h1, by rw [hKa]; exact hc, xVm_none hv, fun j hj => ?_, fun z => ?_, fun z => ?_⟩, fun _ => by rw [adN_self]; exact hb⟩
      · rw [hNa] at hj
        rw [hKa]
        exact ⟨hs j hj, xRv_ext hE (hdef j hj)⟩
      · rw [hKa] at z ⊢
        rw [hNa]
        exact h20 z
      · rw [hKa] at z ⊢
        rw [hNa]
        exact h12 z
    · have hKb : mK (sN M a t n) b = mK M b := by unfold mK; rw [hTb b hba]
      have hNb : mN (sN M a t n) b = mN M b := by unfold mN; rw [hTb b hba]
      rw [hKb] at hb0 ⊢
      obtain ⟨⟨cb, Vb, g1, g2, g3, g4, g5, g6⟩, hbase⟩ := hR.1 b hb0
      refine ⟨⟨cb, Vb, by rw [adN_ne hba, h3 _ (hlt b hb0)]; exact g1, by rw [hKb]; exact g2, by rw [hKb]; exact g3, fun j hj => ?_, fun z => ?_, fun z => ?_⟩, fun z => by rw [adN_ne hba]; exact hbase z⟩
      · rw [hNb] at hj
        rw [hKb]
        refine ⟨(g4 j hj).1, ?_⟩
        have e : xval (sN M a t n) b j (xty (mK M b) j) = xval M b j (xty (mK M b) j) := by
          cases xty (mK M b) j <;> simp [xval, mI, mL, mD, mR, sN, clr, hba]
        rw [e]
        exact xRv_ext hE (g4 j hj).2
      · rw [hKb] at z ⊢
        rw [hNb]
        exact g5 z
      · rw [hKb] at z ⊢
        rw [hNb]
        exact g6 z
  · by_cases h1a : b1 = a
    · by_cases h2a : b2 = a
      · rw [h1a, h2a]
      · have hK2 : mK M b2 ≠ 0 := by unfold mK at hb2 ⊢; rw [hTb b2 h2a] at hb2; exact hb2
        rw [h1a, adN_self, adN_ne h2a] at he
        have := hlt b2 hK2
        omega
    · have hK1 : mK M b1 ≠ 0 := by unfold mK at hb1 ⊢; rw [hTb b1 h1a] at hb1; exact hb1
      by_cases h2a : b2 = a
      · rw [h2a, adN_self, adN_ne h1a] at he
        have := hlt b1 hK1
        omega
      · have hK2 : mK M b2 ≠ 0 := by unfold mK at hb2 ⊢; rw [hTb b2 h2a] at hb2; exact hb2
        rw [adN_ne h1a, adN_ne h2a] at he
        exact hR.2 b1 b2 hK1 hK2 he
theorem W.mono {p : Program} {l : Launch} {e : Env} {R : Room} {s : State} {m : MethodId} {args : Array Value} {below : List Frame} {meth : Method} {c : Code} {H : Heap} {locs : List Loc} {cells slots : Nat} {Q Q' : State → Prop} {g : JFrame} (h : ∀ t, Q t → Q' t) (k : W p l e R s m args below meth c H locs cells slots Q g) : W p l e R s m args below meth c H locs cells slots Q' g := by
  intro T hT X
  obtain ⟨t, a, b⟩ := k T hT X
  exact ⟨t, a, h t b⟩
theorem MQ_widen {below : List Frame} {Qc : Array Value → State → Outcome → State → Prop} {a : Array Value} {s t : State} {mc ms mc' ms' : Nat} {free : Addr → Prop} (h1 : mc ≤ mc') (h2 : ms ≤ ms') (h : MQ below Qc a s mc ms free t) : MQ below Qc a s mc' ms' free t := by
  obtain ⟨o, b1, b2, b3, L, ⟨f1, f2, f3⟩, b5⟩ := h
  exact ⟨o, b1, b2, b3, L, ⟨f1, f2, f3.mono h1 h2⟩, b5⟩
theorem xNow.mono {k : MI} {s : State} {base : Nat} {D : xG} {M0 : Mem} {ad0 : Nat → Nat} {M : Mem} {ad : Nat → Nat} {H : Heap} {locs : List Loc} {cells slots mc ms nc ns nc' ns' : Nat} {d : Drawn} {lv : List (Nat × Value)} {ls : Array Slot} (h1 : nc' ≤ nc) (h2 : ns' ≤ ns)
    (h : xNow k s base D M0 ad0 M ad H locs cells slots mc ms nc ns d lv ls) : xNow k s base D M0 ad0 M ad H locs cells slots mc ms nc' ns' d lv ls := by
  obtain ⟨a1, a2, a3, a4, a5, a6⟩ := h
  exact ⟨a1, a2, a3, by omega, by omega, a6⟩
theorem xlay_of {ws : List Cond} (ps : List Nat) (hp : ws = ps.filterMap (fun i => lw_tbl[i]?)) (hg : ws.all goodWord = true) : ∀ w ∈ ws, w ∈ xTs := by
  intro w hw
  have h1 := List.all_eq_true.mp hg w hw
  rw [hp] at hw
  obtain ⟨i, -, hi⟩ := List.mem_filterMap.mp hw
  exact xin (List.mem_of_getElem? hi) h1
theorem xlay_1 : ∀ w ∈ u_ws (vmQ 1).1 (vmQ 1).2.1 (vmQ 1).2.2, w ∈ xTs := xlay_of [364, 366, 368, 370] (by decide +kernel) (by decide +kernel)
theorem xlay_2 : ∀ w ∈ u_ws (vmQ 2).1 (vmQ 2).2.1 (vmQ 2).2.2, w ∈ xTs := xlay_of [586, 588, 590, 592, 594, 596] (by decide +kernel) (by decide +kernel)
theorem xlay_3 : ∀ w ∈ u_ws (vmQ 3).1 (vmQ 3).2.1 (vmQ 3).2.2, w ∈ xTs := xlay_of [388, 390, 392] (by decide +kernel) (by decide +kernel)
theorem xlay_4 : ∀ w ∈ u_ws (vmQ 4).1 (vmQ 4).2.1 (vmQ 4).2.2, w ∈ xTs := xlay_of [313, 315, 317, 319, 321, 323, 325, 327, 329, 331, 333, 335, 337, 339, 341, 343] (by decide +kernel) (by decide +kernel)
theorem xlay_5 : ∀ w ∈ u_ws (vmQ 5).1 (vmQ 5).2.1 (vmQ 5).2.2, w ∈ xTs := xlay_of [193, 195, 197, 199, 201, 203, 205, 207, 209, 211] (by decide +kernel) (by decide +kernel)
theorem xlay_6 : ∀ w ∈ u_ws (vmQ 6).1 (vmQ 6).2.1 (vmQ 6).2.2, w ∈ xTs := xlay_of [432, 434, 436, 438, 440, 442, 444, 446, 448, 450, 452, 454, 456, 458, 460, 462] (by decide +kernel) (by decide +kernel)
theorem xlay_7 : ∀ w ∈ u_ws (vmQ 7).1 (vmQ 7).2.1 (vmQ 7).2.2, w ∈ xTs := xlay_of [236, 238, 240, 242, 244, 246, 248] (by decide +kernel) (by decide +kernel)
theorem xlay_8 : ∀ w ∈ u_ws (vmQ 8).1 (vmQ 8).2.1 (vmQ 8).2.2, w ∈ xTs := xlay_of [271, 273, 275, 277] (by decide +kernel) (by decide +kernel)
theorem xlay_9 : ∀ w ∈ u_ws (vmQ 9).1 (vmQ 9).2.1 (vmQ 9).2.2, w ∈ xTs := xlay_of [532, 534, 536, 538, 540, 542, 544, 546, 548, 550, 552, 554, 556, 558, 560, 562, 564] (by decide +kernel) (by decide +kernel)
theorem xlay_10 : ∀ w ∈ u_ws (vmQ 10).1 (vmQ 10).2.1 (vmQ 10).2.2, w ∈ xTs := xlay_of [619, 621, 623, 625, 627, 629, 631, 633, 635, 637, 639, 641, 643] (by decide +kernel) (by decide +kernel)
theorem xlay_11 : ∀ w ∈ u_ws (vmQ 11).1 (vmQ 11).2.1 (vmQ 11).2.2, w ∈ xTs := xlay_of [652, 654, 656, 658, 660, 662] (by decide +kernel) (by decide +kernel)
theorem xlay_12 : ∀ w ∈ u_ws (vmQ 12).1 (vmQ 12).2.1 (vmQ 12).2.2, w ∈ xTs := xlay_of [1951, 1953, 1955, 1957, 1959, 1961, 1963, 1965, 1967, 1969, 1971, 1973, 1975, 1977, 1979, 1981, 1983, 1985, 1987, 1989, 1991, 1993, 1995, 1997, 1999, 2001, 2003, 2005, 2007, 2009, 2011, 2013, 2015, 2017, 2019, 2021, 2023, 2025, 2027, 2029, 2031, 2033, 2035, 2037, 2039, 2041, 2043, 2045, 2047, 2049, 2051, 2053, 2055, 2057, 2059, 2061, 2063, 2065, 2067, 2069, 2071, 2073, 2075, 2077, 2079, 2081, 2083, 2085, 2087, 2089, 2091, 2093, 2095, 2097, 2099, 2101, 2103, 2105, 2107, 2109, 2111, 2113, 2115, 2117, 2119, 2121, 2123, 2125, 2127, 2129, 2131] (by decide +kernel) (by decide +kernel)
theorem xlay_all (t : Nat) (h1 : 1 ≤ t) (h2 : t ≤ 12) : ∀ w ∈ u_ws (vmQ t).1 (vmQ t).2.1 (vmQ t).2.2, w ∈ xTs := by
  have : t = 1 ∨ t = 2 ∨ t = 3 ∨ t = 4 ∨ t = 5 ∨ t = 6 ∨ t = 7 ∨ t = 8 ∨ t = 9 ∨ t = 10 ∨ t = 11 ∨ t = 12 := by omega
  rcases this with rfl | rfl | rfl | rfl | rfl | rfl | rfl | rfl | rfl | rfl | rfl | rfl
  · exact xlay_1
  · exact xlay_2
  · exact xlay_3
  · exact xlay_4
  · exact xlay_5
  · exact xlay_6
  · exact xlay_7
  · exact xlay_8
  · exact xlay_9
  · exact xlay_10
  · exact xlay_11
  · exact xlay_12
end VML
