/-! ===== fields and arrays in V (printed by a program) ===== -/
section VMH
variable {k : MI} {pc : Nat} {lv : List (Nat × Value)} {st : List Value} {nc ns : Nat} {M : Mem} {Q : xQ} {X : xX}
theorem xpos_obj {D : xG} {t j : Nat} (h : t ≤ 20) : xpos D t j = D.2 t j := if_pos h
theorem xpos_arr {D : xG} {t j : Nat} (h : 20 < t) : xpos D t j = j := if_neg (by omega)
/-- the fields of an object lie apart -/
theorem xapart {D : xG} {s : State} {args : Array Value} {t : Nat} (hK : xKn D s) (hts : ∀ w ∈ xTs, w.before args s = true) (h1 : 1 ≤ t) (h2 : t ≤ 12) : ∀ x y, x < (vmQ t).2.2 → y < (vmQ t).2.2 → x ≠ y → D.2 t x ≠ D.2 t y := by
  intro x y hx hy hne
  obtain ⟨hS, -⟩ := hK.1 t h1 h2
  obtain ⟨_, _, _, fa, hia, ea⟩ := hS x hx
  obtain ⟨_, _, _, fb, hib, eb⟩ := hS y hy
  have hin := xlay_all t h1 h2
  rw [← ea, ← eb]
  have hnm : ∀ t, 1 ≤ t → t ≤ 12 → (∀ a, a < (vmQ t).2.2 → ∀ b, b < (vmQ t).2.2 → a ≠ b → ((vmQ t).2.1 a).2.1 ≠ ((vmQ t).2.1 b).2.1) ∧ ∀ k, k < (vmQ t).2.2 → parseFieldDescriptor ((vmQ t).2.1 k).2.2.1 = some (xty t k) := by
    intro t h1 h2
    have : t = 1 ∨ t = 2 ∨ t = 3 ∨ t = 4 ∨ t = 5 ∨ t = 6 ∨ t = 7 ∨ t = 8 ∨ t = 9 ∨ t = 10 ∨ t = 11 ∨ t = 12 := by omega
    rcases this with rfl | rfl | rfl | rfl | rfl | rfl | rfl | rfl | rfl | rfl | rfl | rfl
    · exact ⟨nmX0, tyX0_ok⟩
    · exact ⟨nmX1, tyX1_ok⟩
    · exact ⟨nmX2, tyX2_ok⟩
    · exact ⟨nmX3, tyX3_ok⟩
    · exact ⟨nmX5, tyX5_ok⟩
    · exact ⟨nmX6, tyX6_ok⟩
    · exact ⟨nmX7, tyX7_ok⟩
    · exact ⟨nmX8, tyX8_ok⟩
    · exact ⟨nmX9, tyX9_ok⟩
    · exact ⟨nmX10, tyX10_ok⟩
    · exact ⟨nmX11, tyX11_ok⟩
    · exact ⟨nmX12, tyX12_ok⟩
  refine u_apart (u_lays hts hin hx) (u_lays hts hin hy) hia hib ?_
  rw [(State.fieldFound?_type hia ((hnm t h1 h2).2 x hx)).1, (State.fieldFound?_type hib ((hnm t h1 h2).2 y hy)).1]
  exact (hnm t h1 h2).1 x hx y hy hne
theorem xparse : ∀ t, 1 ≤ t → t ≤ 12 → ∀ j, j < (vmQ t).2.2 → parseFieldDescriptor ((vmQ t).2.1 j).2.2.1 = some (xty t j) := by
  intro t h1 h2
  have : t = 1 ∨ t = 2 ∨ t = 3 ∨ t = 4 ∨ t = 5 ∨ t = 6 ∨ t = 7 ∨ t = 8 ∨ t = 9 ∨ t = 10 ∨ t = 11 ∨ t = 12 := by omega
  rcases this with rfl | rfl | rfl | rfl | rfl | rfl | rfl | rfl | rfl | rfl | rfl | rfl
  · exact tyX0_ok
  · exact tyX1_ok
  · exact tyX2_ok
  · exact tyX3_ok
  · exact tyX5_ok
  · exact tyX6_ok
  · exact tyX7_ok
  · exact tyX8_ok
  · exact tyX9_ok
  · exact tyX10_ok
  · exact tyX11_ok
  · exact tyX12_ok
theorem V_getf {a t j : Nat} {index : Nat} {C nm ds : String} {v : Value} (hd : decode (kCC k) pc = .ok (.getfield index, 3)) (hl : Cond.fieldLink (kOwn k) index C nm ds ∈ xTs) (ht : mK M a = t) (h1 : 1 ≤ t) (h2 : t ≤ 12) (hj : j < (vmQ t).2.2) (hq : ((vmQ t).2.1 j).1 = C ∧ ((vmQ t).2.1 j).2.1 = nm ∧ ((vmQ t).2.1 j).2.2.1 = ds) (hv : xval M a j (xty t j) = v)
    (kk : V k (pc + 3) lv (v :: st) nc ns M Q X) : V k pc lv (.ref a :: st) nc ns M Q X := by
  intro p l e R s m args below meth c base D Z M0 ad0 mc ms ad H locs cells slots d ls rst hF hN hst
  obtain ⟨y0, r0, rfl, ⟨rfl, hka⟩, hst1⟩ := xRvs_cons hst
  clear hst
  obtain ⟨hx, hb, hml, hlk, hret, hnm, htb, hown, hts, hfl, hKn, hEv, hE⟩ := id hF
  obtain ⟨a1, -⟩ := id hN
  obtain ⟨⟨cell, Vb, g1, g2, g3, g4, g5, g6⟩, -⟩ := a1.1 a hka
  rw [ht] at g4 g6
  have hN9 := (g6 (by omega)).2.2
  obtain ⟨hS, hfc, kC, hkC, hkind⟩ := hKn.1 t h1 h2
  obtain ⟨cf, kf, fi, f, hi, hsl⟩ := hS j hj
  obtain ⟨q1, q2, q3⟩ := hq
  have g := g4 j (by rw [hN9]; exact hj)
  rw [hv] at g
  rw [q1, q2, q3] at hi
  have hlay := u_lays hts (xlay_all t h1 h2) hj
  rw [q1, q2, q3] at hlay
  refine W.getf (s := s.setDrawn d) hx hb hown (dr_words hts d _ hl) hi (u_facts hfc hkC hlay hi).1 g1 g3.1 (v := Vb j) ?_ rfl rfl hd (kk p l e R s m args below meth c base D Z M0 ad0 mc ms ad H locs cells slots d ls _ hF hN ⟨g.2, hst1⟩)
  rw [hsl, ← g.1, xpos_obj (by omega)]
theorem V_getr {a b t j : Nat} {index : Nat} {C nm ds : String} (hd : decode (kCC k) pc = .ok (.getfield index, 3)) (hl : Cond.fieldLink (kOwn k) index C nm ds ∈ xTs) (ht : mK M a = t) (h1 : 1 ≤ t) (h2 : t ≤ 12) (hj : j < (vmQ t).2.2) (hq : ((vmQ t).2.1 j).1 = C ∧ ((vmQ t).2.1 j).2.1 = nm ∧ ((vmQ t).2.1 j).2.2.1 = ds) (hty : ∀ M' : Mem, xval M' a j (xty t j) = oref (mR M' a j)) (hm : mR M a j = some b)
    (kk : V k (pc + 3) lv (.ref b :: st) nc ns M Q X) : V k pc lv (.ref a :: st) nc ns M Q X :=
  V_getf hd hl ht h1 h2 hj hq (by rw [hty, hm]; rfl) kk
/-- a field is written: M' is the memory then -/
theorem V_putx {a t j : Nat} {index : Nat} {C nm ds : String} {v : Value} {M' : Mem} (hd : decode (kCC k) pc = .ok (.putfield index, 3)) (hl : Cond.fieldLink (kOwn k) index C nm ds ∈ xTs) (ht : mK M a = t) (h1 : 1 ≤ t) (h2 : t ≤ 12) (hj : j < (vmQ t).2.2) (hq : ((vmQ t).2.1 j).1 = C ∧ ((vmQ t).2.1 j).2.1 = nm ∧ ((vmQ t).2.1 j).2.2.1 = ds)
    (hfin : ((vmQ t).2.1 j).2.2.2 = false ∨ ((kY k).name = "<init>" ∧ C = kOwn k)) (hT : M'.2.2.2.2.1 = M.2.2.2.2.1) (hoff : ∀ (b i : Nat) (ty : FieldType), ¬ (b = a ∧ i = j) → xval M' b i ty = xval M b i ty) (hon : xval M' a j (xty t j) = v)
    (hnf : ∀ (ad : Nat → Nat) (y : Value), xRv ad M v y → narrow (xty t j) y = y ∧ fits (xty t j) y = true)
    (kk : V k (pc + 3) lv st nc ns M' Q X) : V k pc lv (v :: .ref a :: st) nc ns M Q X := by
  intro p l e R s m args below meth c base D Z M0 ad0 mc ms ad H locs cells slots d ls rst hF hN hst
  obtain ⟨y0, r0, rfl, e0, hst1⟩ := xRvs_cons hst
  clear hst
  obtain ⟨y1, r1, rfl, ⟨rfl, hka⟩, hst2⟩ := xRvs_cons hst1
  clear hst1
  obtain ⟨hx, hb, hml, hlk, hret, hnm, htb, hown, hts, hfl, hKn, hEv, hE⟩ := id hF
  obtain ⟨a1, a2, a3, a4, a5, a6, lvr, a7, a8⟩ := id hN
  obtain ⟨⟨cell, Vb, g1, g2, g3, g4, g5, g6⟩, hbs⟩ := a1.1 a hka
  have hN9 := (g6 (by omega)).2.2
  rw [ht] at hN9
  obtain ⟨hS, hfc, kC, hkC, hkind⟩ := hKn.1 t h1 h2
  obtain ⟨cf, kf, fi, f, hi, hsl⟩ := hS j hj
  obtain ⟨q1, q2, q3⟩ := hq
  have hj' : j < mN M a := by rw [hN9]; exact hj
  have hgj := (g4 j hj').1
  rw [ht] at hgj g2
  rw [xpos_obj (by omega)] at hgj
  rw [q1, q2, q3] at hi
  have hlay := u_lays hts (xlay_all t h1 h2) hj
  rw [q1, q2, q3] at hlay
  have hst0 := (u_facts hfc hkC hlay hi).1
  have hpd := xparse t h1 h2 j hj
  rw [q3] at hpd
  obtain ⟨hn1, hn2⟩ := hnf ad y0 e0
  have hap : ∀ i, i < mN M a → i ≠ j → xpos D (mK M a) j ≠ xpos D (mK M a) i := fun i hi9 hne => by
    rw [ht, xpos_obj (by omega), xpos_obj (by omega)]
    exact xapart hKn hts h1 h2 j i hj (by rw [← hN9]; exact hi9) (Ne.symm hne)
  have hA : base ≤ ad a := hbs (by omega)
  have fin : ∀ H' : Heap, H'[ad a]? = some (cell.setSlot f.slot y0) → H'.size = H.size → (∀ q, q ≠ ad a → H'[q]? = H[q]?) → W p l e R (s.setDrawn d) m args below meth c H' (locs ++ [⟨ad a, f.slot⟩]) cells slots Z (F0 m (pc + 3) ls r1) := fun H' z1 z2 z3 =>
    kk p l e R s m args below meth c base D Z M0 ad0 mc ms ad H' _ cells slots d ls _ hF ⟨xRep_put (i := j) (y := y0) a1 hka hj' hap hT hoff (by rw [ht, hon]; exact e0) g1 (by rw [ht, xpos_obj (by omega), ← hsl]; exact z1) z3, a2.put z2 z3 hA, a3, a4, a5, xExt_same a6 hT, lvr, a7, xRl_same hT a8⟩ (xRvs_same hT hst2)
  rcases hfin with hfin | ⟨hin, hC⟩
  · have hlay2 := hts _ (xlay_all t h1 h2 _ (u_in_lay hj))
    unfold u_lay at hlay2
    rw [if_neg (by rw [hfin]; decide), q1, q2, q3] at hlay2
    have h6 := u_store hfc hkC hkind hlay2 hi hpd hn1 hn2
    exact W.putK (s := s.setDrawn d) hx hb (f := f) ⟨hown, dr_words hts d _ hl, ⟨_, _, _, hi⟩, hst0⟩ (by rw [g2]; exact h6) g1 (g3.2.2 (by omega)) (by rw [hsl]; exact k2_hasslot hgj) rfl rfl hd fin
  · by_cases hff : ((vmQ t).2.1 j).2.2.2 = true
    · have hlay2 := hts _ (xlay_all t h1 h2 _ (u_in_lay hj))
      unfold u_lay at hlay2
      rw [if_pos hff, q1, q2, q3] at hlay2
      have hcf : m.cls = cf := by
        obtain ⟨_, _, c', _, _, _, -, -, hf', -, -, -, hown2, -⟩ := Cond.laysFinal_spec hlay2
        have e1 : c' = cf := by have := hi.symm.trans hf'; simp at this; exact this.1.symm
        rw [hC] at hown2
        rw [← e1]; exact Option.some.inj (hown.symm.trans hown2)
      have h6 := u_fits hfc hkC hkind (Or.inr hlay2) hi hpd hn1 hn2
      exact W.putFinK (s := s.setDrawn d) hx hb hown (dr_words hts d _ hl) hi hst0 hcf (by rw [hnm]; exact hin) (by rw [g2]; exact h6) g1 (g3.2.2 (by omega)) (by rw [hsl]; exact k2_hasslot hgj) rfl rfl hd fin
    · have hlay2 := hts _ (xlay_all t h1 h2 _ (u_in_lay hj))
      unfold u_lay at hlay2
      rw [if_neg hff, q1, q2, q3] at hlay2
      have h6 := u_store hfc hkC hkind hlay2 hi hpd hn1 hn2
      exact W.putK (s := s.setDrawn d) hx hb (f := f) ⟨hown, dr_words hts d _ hl, ⟨_, _, _, hi⟩, hst0⟩ (by rw [g2]; exact h6) g1 (g3.2.2 (by omega)) (by rw [hsl]; exact k2_hasslot hgj) rfl rfl hd fin
theorem up2_on {α : Type} (f : Nat → Nat → α) (a i : Nat) (v : α) : up2 f a i v a i = v := by simp [up2]
theorem up2_off {α : Type} (f : Nat → Nat → α) {a i b j : Nat} (v : α) (h : ¬ (b = a ∧ j = i)) : up2 f a i v b j = f b j := by
  unfold up2
  by_cases hb : b = a
  · have hj : ¬ j = i := fun e => h ⟨hb, e⟩
    rw [if_pos hb, if_neg hj]
  · rw [if_neg hb]
theorem off_sI {a i : Nat} {v : Int32} : ∀ (b j : Nat) (ty : FieldType), ¬ (b = a ∧ j = i) → xval (sI M a i v) b j ty = xval M b j ty := fun b j ty h => by
  cases ty <;> first | rfl | (show Value.int _ = Value.int _; rw [show mI (sI M a i v) b j = mI M b j from up2_off _ _ h])
theorem off_sL {a i : Nat} {v : Int64} : ∀ (b j : Nat) (ty : FieldType), ¬ (b = a ∧ j = i) → xval (sL M a i v) b j ty = xval M b j ty := fun b j ty h => by
  cases ty <;> first | rfl | (show Value.long _ = Value.long _; rw [show mL (sL M a i v) b j = mL M b j from up2_off _ _ h])
theorem off_sD {a i : Nat} {v : UInt64} : ∀ (b j : Nat) (ty : FieldType), ¬ (b = a ∧ j = i) → xval (sD M a i v) b j ty = xval M b j ty := fun b j ty h => by
  cases ty <;> first | rfl | (show Value.double _ = Value.double _; rw [show mD (sD M a i v) b j = mD M b j from up2_off _ _ h])
theorem off_sR {a i : Nat} {v : Option Nat} : ∀ (b j : Nat) (ty : FieldType), ¬ (b = a ∧ j = i) → xval (sR M a i v) b j ty = xval M b j ty := fun b j ty h => by
  cases ty <;> first | rfl | (show oref _ = oref _; rw [show mR (sR M a i v) b j = mR M b j from up2_off _ _ h])
theorem on_sI {a i : Nat} {v : Int32} : mI (sI M a i v) a i = v := up2_on _ _ _ _
theorem on_sL {a i : Nat} {v : Int64} : mL (sL M a i v) a i = v := up2_on _ _ _ _
theorem on_sD {a i : Nat} {v : UInt64} : mD (sD M a i v) a i = v := up2_on _ _ _ _
theorem on_sR {a i : Nat} {v : Option Nat} : mR (sR M a i v) a i = v := up2_on _ _ _ _

theorem V_puti {a t j : Nat} {index : Nat} {C nm ds : String} {v : Int32} (hd : decode (kCC k) pc = .ok (.putfield index, 3)) (hl : Cond.fieldLink (kOwn k) index C nm ds ∈ xTs) (ht : mK M a = t) (h1 : 1 ≤ t) (h2 : t ≤ 12) (hj : j < (vmQ t).2.2) (hq : ((vmQ t).2.1 j).1 = C ∧ ((vmQ t).2.1 j).2.1 = nm ∧ ((vmQ t).2.1 j).2.2.1 = ds) (hfin : ((vmQ t).2.1 j).2.2.2 = false ∨ ((kY k).name = "<init>" ∧ C = kOwn k)) (hty : ∀ M' : Mem, xval M' a j (xty t j) = .int (mI M' a j)) (hnf : narrow (xty t j) (.int v) = .int v ∧ fits (xty t j) (.int v) = true) (kk : V k (pc + 3) lv st nc ns (sI M a j v) Q X) : V k pc lv (.int v :: .ref a :: st) nc ns M Q X :=
  V_putx hd hl ht h1 h2 hj hq hfin (M' := sI M a j v) rfl off_sI (by rw [hty, on_sI]) (fun ad y h => by rw [show y = .int v from h]; exact hnf) kk
theorem V_putl {a t j : Nat} {index : Nat} {C nm ds : String} {v : Int64} (hd : decode (kCC k) pc = .ok (.putfield index, 3)) (hl : Cond.fieldLink (kOwn k) index C nm ds ∈ xTs) (ht : mK M a = t) (h1 : 1 ≤ t) (h2 : t ≤ 12) (hj : j < (vmQ t).2.2) (hq : ((vmQ t).2.1 j).1 = C ∧ ((vmQ t).2.1 j).2.1 = nm ∧ ((vmQ t).2.1 j).2.2.1 = ds) (hfin : ((vmQ t).2.1 j).2.2.2 = false ∨ ((kY k).name = "<init>" ∧ C = kOwn k)) (hty : xty t j = .long) (kk : V k (pc + 3) lv st nc ns (sL M a j v) Q X) : V k pc lv (.long v :: .ref a :: st) nc ns M Q X :=
  V_putx hd hl ht h1 h2 hj hq hfin (M' := sL M a j v) rfl off_sL (by rw [hty]; show Value.long _ = _; rw [on_sL]) (fun ad y h => by rw [show y = .long v from h, hty]; exact ⟨rfl, rfl⟩) kk
theorem V_putd {a t j : Nat} {index : Nat} {C nm ds : String} {v : UInt64} (hd : decode (kCC k) pc = .ok (.putfield index, 3)) (hl : Cond.fieldLink (kOwn k) index C nm ds ∈ xTs) (ht : mK M a = t) (h1 : 1 ≤ t) (h2 : t ≤ 12) (hj : j < (vmQ t).2.2) (hq : ((vmQ t).2.1 j).1 = C ∧ ((vmQ t).2.1 j).2.1 = nm ∧ ((vmQ t).2.1 j).2.2.1 = ds) (hfin : ((vmQ t).2.1 j).2.2.2 = false ∨ ((kY k).name = "<init>" ∧ C = kOwn k)) (hty : xty t j = .double) (kk : V k (pc + 3) lv st nc ns (sD M a j v) Q X) : V k pc lv (.double v :: .ref a :: st) nc ns M Q X :=
  V_putx hd hl ht h1 h2 hj hq hfin (M' := sD M a j v) rfl off_sD (by rw [hty]; show Value.double _ = _; rw [on_sD]) (fun ad y h => by obtain ⟨z, rfl, -⟩ := h; rw [hty]; exact ⟨rfl, rfl⟩) kk
theorem V_putr {a t j : Nat} {index : Nat} {C nm ds : String} {b : Nat} (hd : decode (kCC k) pc = .ok (.putfield index, 3)) (hl : Cond.fieldLink (kOwn k) index C nm ds ∈ xTs) (ht : mK M a = t) (h1 : 1 ≤ t) (h2 : t ≤ 12) (hj : j < (vmQ t).2.2) (hq : ((vmQ t).2.1 j).1 = C ∧ ((vmQ t).2.1 j).2.1 = nm ∧ ((vmQ t).2.1 j).2.2.1 = ds) (hfin : ((vmQ t).2.1 j).2.2.2 = false ∨ ((kY k).name = "<init>" ∧ C = kOwn k)) (hty : (∃ n, xty t j = .object n) ∨ ∃ t2, xty t j = .array t2) (kk : V k (pc + 3) lv st nc ns (sR M a j (some b)) Q X) : V k pc lv (.ref b :: .ref a :: st) nc ns M Q X :=
  V_putx hd hl ht h1 h2 hj hq hfin (M' := sR M a j (some b)) rfl off_sR (by rcases hty with ⟨n, e⟩ | ⟨n, e⟩ <;> (rw [e]; show oref _ = _; rw [on_sR]; rfl)) (fun ad y h => by obtain ⟨rfl, -⟩ := h; rcases hty with ⟨n, e⟩ | ⟨n, e⟩ <;> (rw [e]; exact ⟨rfl, rfl⟩)) kk

theorem xarr {D : xG} {U : State} {t : Nat} {cell : Cell} (hK : xKn D U) (h1 : 21 ≤ t) (h2 : t ≤ 27) (hc : cell.cls = D.1 t) (hv : ∀ k, cell.vm ≠ .statics k) : U.isArrayOf cell (xty t 0) := by
  obtain ⟨-, k9, hk9, comp, hkind⟩ := hK.2.1 t h1 h2 0 (fun _ => .null)
  exact ⟨fun z h => hv z h, k9, by rw [hc]; exact hk9, comp, hkind⟩

theorem V_iald {a : Nat} {j : Int32} (hd : decode (kCC k) pc = .ok (.iaload, 1)) (ht : mK M a = 21) (hin : vp_in j (mN M a)) (kk : V k (pc + 1) lv (.int (mI M a j.toNatClampNeg) :: st) nc ns M Q X) : V k pc lv (.int j :: .ref a :: st) nc ns M Q X := by
  intro p l e R s m args below meth c base D Z M0 ad0 mc ms ad H locs cells slots d ls rst hF hN hst
  obtain ⟨y0, r0, rfl, e0, hst1⟩ := xRvs_cons hst
  clear hst
  cases (show y0 = Value.int j from e0)
  obtain ⟨y1, r1, rfl, ⟨rfl, hka⟩, hst2⟩ := xRvs_cons hst1
  clear hst1
  obtain ⟨⟨cell, Vb, g1, g2, g3, g4, g5, g6⟩, hbs⟩ := hN.1.1 a hka
  rw [ht] at g2 g4 g5
  have hlt : j.toNatClampNeg < mN M a := Nat.not_le.mp fun q => hin (Or.inr q)
  have g := g4 _ hlt
  rw [xpos_arr (by omega)] at g
  exact W.iald (s := s.setDrawn d) hF.1 hF.2.1 g1 (xarr (U := s.setDrawn d) hF.2.2.2.2.2.2.2.2.2.2.1 (by omega) (by omega) g2 g3.2.1) g3.1 (by rw [(g5 (by omega)).1]; exact hin) g.1 rfl rfl hd (kk p l e R s m args below meth c base D Z M0 ad0 mc ms ad H locs cells slots d ls _ hF hN ⟨g.2, hst2⟩)
theorem V_cald {a : Nat} {j : Int32} (hd : decode (kCC k) pc = .ok (.caload, 1)) (ht : mK M a = 22) (hin : vp_in j (mN M a)) (kk : V k (pc + 1) lv (.int (mI M a j.toNatClampNeg) :: st) nc ns M Q X) : V k pc lv (.int j :: .ref a :: st) nc ns M Q X := by
  intro p l e R s m args below meth c base D Z M0 ad0 mc ms ad H locs cells slots d ls rst hF hN hst
  obtain ⟨y0, r0, rfl, e0, hst1⟩ := xRvs_cons hst
  clear hst
  cases (show y0 = Value.int j from e0)
  obtain ⟨y1, r1, rfl, ⟨rfl, hka⟩, hst2⟩ := xRvs_cons hst1
  clear hst1
  obtain ⟨⟨cell, Vb, g1, g2, g3, g4, g5, g6⟩, hbs⟩ := hN.1.1 a hka
  rw [ht] at g2 g4 g5
  have hlt : j.toNatClampNeg < mN M a := Nat.not_le.mp fun q => hin (Or.inr q)
  have g := g4 _ hlt
  rw [xpos_arr (by omega)] at g
  exact W.cald (s := s.setDrawn d) hF.1 hF.2.1 g1 (xarr (U := s.setDrawn d) hF.2.2.2.2.2.2.2.2.2.2.1 (by omega) (by omega) g2 g3.2.1) g3.1 (by rw [(g5 (by omega)).1]; exact hin) g.1 rfl rfl hd (kk p l e R s m args below meth c base D Z M0 ad0 mc ms ad H locs cells slots d ls _ hF hN ⟨g.2, hst2⟩)
theorem V_zald {a : Nat} {j : Int32} (hd : decode (kCC k) pc = .ok (.baload, 1)) (ht : mK M a = 23) (hin : vp_in j (mN M a)) (kk : V k (pc + 1) lv (.int (mI M a j.toNatClampNeg) :: st) nc ns M Q X) : V k pc lv (.int j :: .ref a :: st) nc ns M Q X := by
  intro p l e R s m args below meth c base D Z M0 ad0 mc ms ad H locs cells slots d ls rst hF hN hst
  obtain ⟨y0, r0, rfl, e0, hst1⟩ := xRvs_cons hst
  clear hst
  cases (show y0 = Value.int j from e0)
  obtain ⟨y1, r1, rfl, ⟨rfl, hka⟩, hst2⟩ := xRvs_cons hst1
  clear hst1
  obtain ⟨⟨cell, Vb, g1, g2, g3, g4, g5, g6⟩, hbs⟩ := hN.1.1 a hka
  rw [ht] at g2 g4 g5
  have hlt : j.toNatClampNeg < mN M a := Nat.not_le.mp fun q => hin (Or.inr q)
  have g := g4 _ hlt
  rw [xpos_arr (by omega)] at g
  exact W.zald (s := s.setDrawn d) hF.1 hF.2.1 g1 (xarr (U := s.setDrawn d) hF.2.2.2.2.2.2.2.2.2.2.1 (by omega) (by omega) g2 g3.2.1) g3.1 (by rw [(g5 (by omega)).1]; exact hin) g.1 rfl rfl hd (kk p l e R s m args below meth c base D Z M0 ad0 mc ms ad H locs cells slots d ls _ hF hN ⟨g.2, hst2⟩)
theorem V_lald {a : Nat} {j : Int32} (hd : decode (kCC k) pc = .ok (.laload, 1)) (ht : mK M a = 24) (hin : vp_in j (mN M a)) (kk : V k (pc + 1) lv (.long (mL M a j.toNatClampNeg) :: st) nc ns M Q X) : V k pc lv (.int j :: .ref a :: st) nc ns M Q X := by
  intro p l e R s m args below meth c base D Z M0 ad0 mc ms ad H locs cells slots d ls rst hF hN hst
  obtain ⟨y0, r0, rfl, e0, hst1⟩ := xRvs_cons hst
  clear hst
  cases (show y0 = Value.int j from e0)
  obtain ⟨y1, r1, rfl, ⟨rfl, hka⟩, hst2⟩ := xRvs_cons hst1
  clear hst1
  obtain ⟨⟨cell, Vb, g1, g2, g3, g4, g5, g6⟩, hbs⟩ := hN.1.1 a hka
  rw [ht] at g2 g4 g5
  have hlt : j.toNatClampNeg < mN M a := Nat.not_le.mp fun q => hin (Or.inr q)
  have g := g4 _ hlt
  rw [xpos_arr (by omega)] at g
  exact W.lald (s := s.setDrawn d) hF.1 hF.2.1 g1 (xarr (U := s.setDrawn d) hF.2.2.2.2.2.2.2.2.2.2.1 (by omega) (by omega) g2 g3.2.1) g3.1 (by rw [(g5 (by omega)).1]; exact hin) g.1 rfl rfl hd (kk p l e R s m args below meth c base D Z M0 ad0 mc ms ad H locs cells slots d ls _ hF hN ⟨g.2, hst2⟩)
theorem V_dald {a : Nat} {j : Int32} (hd : decode (kCC k) pc = .ok (.daload, 1)) (ht : mK M a = 25) (hin : vp_in j (mN M a)) (kk : V k (pc + 1) lv (.double (mD M a j.toNatClampNeg) :: st) nc ns M Q X) : V k pc lv (.int j :: .ref a :: st) nc ns M Q X := by
  intro p l e R s m args below meth c base D Z M0 ad0 mc ms ad H locs cells slots d ls rst hF hN hst
  obtain ⟨y0, r0, rfl, e0, hst1⟩ := xRvs_cons hst
  clear hst
  cases (show y0 = Value.int j from e0)
  obtain ⟨y1, r1, rfl, ⟨rfl, hka⟩, hst2⟩ := xRvs_cons hst1
  clear hst1
  obtain ⟨⟨cell, Vb, g1, g2, g3, g4, g5, g6⟩, hbs⟩ := hN.1.1 a hka
  rw [ht] at g2 g4 g5
  have hlt : j.toNatClampNeg < mN M a := Nat.not_le.mp fun q => hin (Or.inr q)
  have g := g4 _ hlt
  rw [xpos_arr (by omega)] at g
  exact W.dald (s := s.setDrawn d) hF.1 hF.2.1 g1 (xarr (U := s.setDrawn d) hF.2.2.2.2.2.2.2.2.2.2.1 (by omega) (by omega) g2 g3.2.1) g3.1 (by rw [(g5 (by omega)).1]; exact hin) g.1 rfl rfl hd (kk p l e R s m args below meth c base D Z M0 ad0 mc ms ad H locs cells slots d ls _ hF hN ⟨g.2, hst2⟩)
theorem V_sald {a : Nat} {j : Int32} (hd : decode (kCC k) pc = .ok (.iaload, 1)) (ht : mK M a = 27) (hin : vp_in j (mN M a)) (kk : V k (pc + 1) lv (.int (mI M a j.toNatClampNeg) :: st) nc ns M Q X) : V k pc lv (.int j :: .ref a :: st) nc ns M Q X := by
  intro p l e R s m args below meth c base D Z M0 ad0 mc ms ad H locs cells slots d ls rst hF hN hst
  obtain ⟨y0, r0, rfl, e0, hst1⟩ := xRvs_cons hst
  clear hst
  cases (show y0 = Value.int j from e0)
  obtain ⟨y1, r1, rfl, ⟨rfl, hka⟩, hst2⟩ := xRvs_cons hst1
  clear hst1
  obtain ⟨⟨cell, Vb, g1, g2, g3, g4, g5, g6⟩, hbs⟩ := hN.1.1 a hka
  rw [ht] at g2 g4 g5
  have hlt : j.toNatClampNeg < mN M a := Nat.not_le.mp fun q => hin (Or.inr q)
  have g := g4 _ hlt
  rw [xpos_arr (by omega)] at g
  exact W.iald (s := s.setDrawn d) hF.1 hF.2.1 g1 (xarr (U := s.setDrawn d) hF.2.2.2.2.2.2.2.2.2.2.1 (by omega) (by omega) g2 g3.2.1) g3.1 (by rw [(g5 (by omega)).1]; exact hin) g.1 rfl rfl hd (kk p l e R s m args below meth c base D Z M0 ad0 mc ms ad H locs cells slots d ls _ hF hN ⟨g.2, hst2⟩)
theorem V_aald {a b : Nat} {j : Int32} (hd : decode (kCC k) pc = .ok (.aaload, 1)) (ht : mK M a = 26) (hin : vp_in j (mN M a)) (hm : mR M a j.toNatClampNeg = some b) (kk : V k (pc + 1) lv (.ref b :: st) nc ns M Q X) : V k pc lv (.int j :: .ref a :: st) nc ns M Q X := by
  intro p l e R s m args below meth c base D Z M0 ad0 mc ms ad H locs cells slots d ls rst hF hN hst
  obtain ⟨y0, r0, rfl, e0, hst1⟩ := xRvs_cons hst
  clear hst
  cases (show y0 = Value.int j from e0)
  obtain ⟨y1, r1, rfl, ⟨rfl, hka⟩, hst2⟩ := xRvs_cons hst1
  clear hst1
  obtain ⟨⟨cell, Vb, g1, g2, g3, g4, g5, g6⟩, hbs⟩ := hN.1.1 a hka
  rw [ht] at g2 g4 g5
  have hlt : j.toNatClampNeg < mN M a := Nat.not_le.mp fun q => hin (Or.inr q)
  have g := g4 _ hlt
  rw [xpos_arr (by omega)] at g
  have gv : xRv ad M (.ref b) (Vb j.toNatClampNeg) := by have := g.2; rwa [show xval M a j.toNatClampNeg (xty 26 j.toNatClampNeg) = .ref b from (show oref (mR M a j.toNatClampNeg) = .ref b by rw [hm]; rfl)] at this
  exact W.aald (s := s.setDrawn d) hF.1 hF.2.1 g1 (xarr (U := s.setDrawn d) (t := 26) hF.2.2.2.2.2.2.2.2.2.2.1 (by omega) (by omega) g2 g3.2.1) rfl g3.1 (by rw [(g5 (by omega)).1]; exact hin) g.1 rfl rfl hd (kk p l e R s m args below meth c base D Z M0 ad0 mc ms ad H locs cells slots d ls _ hF hN ⟨gv, hst2⟩)
theorem V_iast {a : Nat} {j : Int32} {v : Int32} (hd : decode (kCC k) pc = .ok (.iastore, 1)) (ht : mK M a = 21) (hin : vp_in j (mN M a)) (kk : V k (pc + 1) lv st nc ns (sI M a j.toNatClampNeg v) Q X) : V k pc lv (.int v :: .int j :: .ref a :: st) nc ns M Q X := by
  intro p l e R s m args below meth c base D Z M0 ad0 mc ms ad H locs cells slots d ls rst hF hN hst
  obtain ⟨y0, r0, rfl, e0, hst1⟩ := xRvs_cons hst
  clear hst
  obtain ⟨y1, r1, rfl, e1, hst2⟩ := xRvs_cons hst1
  clear hst1
  cases (show y1 = Value.int j from e1)
  obtain ⟨y2, r2, rfl, ⟨rfl, hka⟩, hst3⟩ := xRvs_cons hst2
  clear hst2
  cases (show y0 = Value.int v from e0)
  obtain ⟨a1, a2, a3, a4, a5, a6, lvr, a7, a8⟩ := id hN
  obtain ⟨⟨cell, Vb, g1, g2, g3, g4, g5, g6⟩, hbs⟩ := a1.1 a hka
  have g5' := g5 (by omega)
  rw [ht] at g2
  have hlt : j.toNatClampNeg < mN M a := Nat.not_le.mp fun q => hin (Or.inr q)
  refine W.iast (s := s.setDrawn d) hF.1 hF.2.1 g1 (xarr (U := s.setDrawn d) (t := 21) hF.2.2.2.2.2.2.2.2.2.2.1 (by omega) (by omega) g2 g3.2.1) g3.1 (by rw [g5'.1]; exact hin) rfl rfl hd (fun H' z1 z2 z3 => ?_)
  exact kk p l e R s m args below meth c base D Z M0 ad0 mc ms ad H' _ cells slots d ls _ hF ⟨xRep_put (M' := sI M a j.toNatClampNeg v) (i := j.toNatClampNeg) (y := .int v) a1 hka hlt (fun i _ hne => by rw [ht, xpos_arr (by omega), xpos_arr (by omega)]; exact Ne.symm hne) rfl off_sI (by rw [ht]; show xRv ad M (.int (mI (sI M a j.toNatClampNeg v) a j.toNatClampNeg)) _; rw [on_sI]; exact rfl) g1 (by rw [ht, xpos_arr (by omega)]; exact z1) z3, a2.put z2 z3 (hbs (by omega)), a3, a4, a5, xExt_same (M' := sI M a j.toNatClampNeg v) a6 rfl, lvr, a7, xRl_same (M := M) (M' := sI M a j.toNatClampNeg v) rfl a8⟩ (xRvs_same (M := M) (M' := sI M a j.toNatClampNeg v) rfl hst3)
theorem V_cast {a : Nat} {j : Int32} {v : Int32} (hd : decode (kCC k) pc = .ok (.castore, 1)) (ht : mK M a = 22) (hin : vp_in j (mN M a)) (hn : narrow .char (.int v) = .int v) (kk : V k (pc + 1) lv st nc ns (sI M a j.toNatClampNeg v) Q X) : V k pc lv (.int v :: .int j :: .ref a :: st) nc ns M Q X := by
  intro p l e R s m args below meth c base D Z M0 ad0 mc ms ad H locs cells slots d ls rst hF hN hst
  obtain ⟨y0, r0, rfl, e0, hst1⟩ := xRvs_cons hst
  clear hst
  obtain ⟨y1, r1, rfl, e1, hst2⟩ := xRvs_cons hst1
  clear hst1
  cases (show y1 = Value.int j from e1)
  obtain ⟨y2, r2, rfl, ⟨rfl, hka⟩, hst3⟩ := xRvs_cons hst2
  clear hst2
  cases (show y0 = Value.int v from e0)
  obtain ⟨a1, a2, a3, a4, a5, a6, lvr, a7, a8⟩ := id hN
  obtain ⟨⟨cell, Vb, g1, g2, g3, g4, g5, g6⟩, hbs⟩ := a1.1 a hka
  have g5' := g5 (by omega)
  rw [ht] at g2
  have hlt : j.toNatClampNeg < mN M a := Nat.not_le.mp fun q => hin (Or.inr q)
  refine W.cast (s := s.setDrawn d) hF.1 hF.2.1 g1 (xarr (U := s.setDrawn d) (t := 22) hF.2.2.2.2.2.2.2.2.2.2.1 (by omega) (by omega) g2 g3.2.1) g3.1 (by rw [g5'.1]; exact hin) rfl rfl hd (fun H' z1 z2 z3 => ?_)
  rw [hn] at z1
  exact kk p l e R s m args below meth c base D Z M0 ad0 mc ms ad H' _ cells slots d ls _ hF ⟨xRep_put (M' := sI M a j.toNatClampNeg v) (i := j.toNatClampNeg) (y := .int v) a1 hka hlt (fun i _ hne => by rw [ht, xpos_arr (by omega), xpos_arr (by omega)]; exact Ne.symm hne) rfl off_sI (by rw [ht]; show xRv ad M (.int (mI (sI M a j.toNatClampNeg v) a j.toNatClampNeg)) _; rw [on_sI]; exact rfl) g1 (by rw [ht, xpos_arr (by omega)]; exact z1) z3, a2.put z2 z3 (hbs (by omega)), a3, a4, a5, xExt_same (M' := sI M a j.toNatClampNeg v) a6 rfl, lvr, a7, xRl_same (M := M) (M' := sI M a j.toNatClampNeg v) rfl a8⟩ (xRvs_same (M := M) (M' := sI M a j.toNatClampNeg v) rfl hst3)
theorem V_zast {a : Nat} {j : Int32} {v : Int32} (hd : decode (kCC k) pc = .ok (.bastore, 1)) (ht : mK M a = 23) (hin : vp_in j (mN M a)) (hn : narrow .boolean (.int v) = .int v) (kk : V k (pc + 1) lv st nc ns (sI M a j.toNatClampNeg v) Q X) : V k pc lv (.int v :: .int j :: .ref a :: st) nc ns M Q X := by
  intro p l e R s m args below meth c base D Z M0 ad0 mc ms ad H locs cells slots d ls rst hF hN hst
  obtain ⟨y0, r0, rfl, e0, hst1⟩ := xRvs_cons hst
  clear hst
  obtain ⟨y1, r1, rfl, e1, hst2⟩ := xRvs_cons hst1
  clear hst1
  cases (show y1 = Value.int j from e1)
  obtain ⟨y2, r2, rfl, ⟨rfl, hka⟩, hst3⟩ := xRvs_cons hst2
  clear hst2
  cases (show y0 = Value.int v from e0)
  obtain ⟨a1, a2, a3, a4, a5, a6, lvr, a7, a8⟩ := id hN
  obtain ⟨⟨cell, Vb, g1, g2, g3, g4, g5, g6⟩, hbs⟩ := a1.1 a hka
  have g5' := g5 (by omega)
  rw [ht] at g2
  have hlt : j.toNatClampNeg < mN M a := Nat.not_le.mp fun q => hin (Or.inr q)
  refine W.zast (s := s.setDrawn d) hF.1 hF.2.1 g1 (xarr (U := s.setDrawn d) (t := 23) hF.2.2.2.2.2.2.2.2.2.2.1 (by omega) (by omega) g2 g3.2.1) g3.1 (by rw [g5'.1]; exact hin) rfl rfl hd (fun H' z1 z2 z3 => ?_)
  rw [hn] at z1
  exact kk p l e R s m args below meth c base D Z M0 ad0 mc ms ad H' _ cells slots d ls _ hF ⟨xRep_put (M' := sI M a j.toNatClampNeg v) (i := j.toNatClampNeg) (y := .int v) a1 hka hlt (fun i _ hne => by rw [ht, xpos_arr (by omega), xpos_arr (by omega)]; exact Ne.symm hne) rfl off_sI (by rw [ht]; show xRv ad M (.int (mI (sI M a j.toNatClampNeg v) a j.toNatClampNeg)) _; rw [on_sI]; exact rfl) g1 (by rw [ht, xpos_arr (by omega)]; exact z1) z3, a2.put z2 z3 (hbs (by omega)), a3, a4, a5, xExt_same (M' := sI M a j.toNatClampNeg v) a6 rfl, lvr, a7, xRl_same (M := M) (M' := sI M a j.toNatClampNeg v) rfl a8⟩ (xRvs_same (M := M) (M' := sI M a j.toNatClampNeg v) rfl hst3)
theorem V_last {a : Nat} {j : Int32} {v : Int64} (hd : decode (kCC k) pc = .ok (.lastore, 1)) (ht : mK M a = 24) (hin : vp_in j (mN M a)) (kk : V k (pc + 1) lv st nc ns (sL M a j.toNatClampNeg v) Q X) : V k pc lv (.long v :: .int j :: .ref a :: st) nc ns M Q X := by
  intro p l e R s m args below meth c base D Z M0 ad0 mc ms ad H locs cells slots d ls rst hF hN hst
  obtain ⟨y0, r0, rfl, e0, hst1⟩ := xRvs_cons hst
  clear hst
  obtain ⟨y1, r1, rfl, e1, hst2⟩ := xRvs_cons hst1
  clear hst1
  cases (show y1 = Value.int j from e1)
  obtain ⟨y2, r2, rfl, ⟨rfl, hka⟩, hst3⟩ := xRvs_cons hst2
  clear hst2
  cases (show y0 = Value.long v from e0)
  obtain ⟨a1, a2, a3, a4, a5, a6, lvr, a7, a8⟩ := id hN
  obtain ⟨⟨cell, Vb, g1, g2, g3, g4, g5, g6⟩, hbs⟩ := a1.1 a hka
  have g5' := g5 (by omega)
  rw [ht] at g2
  have hlt : j.toNatClampNeg < mN M a := Nat.not_le.mp fun q => hin (Or.inr q)
  refine W.last (s := s.setDrawn d) hF.1 hF.2.1 g1 (xarr (U := s.setDrawn d) (t := 24) hF.2.2.2.2.2.2.2.2.2.2.1 (by omega) (by omega) g2 g3.2.1) g3.1 (by rw [g5'.1]; exact hin) rfl rfl hd (fun H' z1 z2 z3 => ?_)
  exact kk p l e R s m args below meth c base D Z M0 ad0 mc ms ad H' _ cells slots d ls _ hF ⟨xRep_put (M' := sL M a j.toNatClampNeg v) (i := j.toNatClampNeg) (y := .long v) a1 hka hlt (fun i _ hne => by rw [ht, xpos_arr (by omega), xpos_arr (by omega)]; exact Ne.symm hne) rfl off_sL (by rw [ht]; show xRv ad M (.long (mL (sL M a j.toNatClampNeg v) a j.toNatClampNeg)) _; rw [on_sL]; exact rfl) g1 (by rw [ht, xpos_arr (by omega)]; exact z1) z3, a2.put z2 z3 (hbs (by omega)), a3, a4, a5, xExt_same (M' := sL M a j.toNatClampNeg v) a6 rfl, lvr, a7, xRl_same (M := M) (M' := sL M a j.toNatClampNeg v) rfl a8⟩ (xRvs_same (M := M) (M' := sL M a j.toNatClampNeg v) rfl hst3)
theorem V_dast {a : Nat} {j : Int32} {v : UInt64} (hd : decode (kCC k) pc = .ok (.dastore, 1)) (ht : mK M a = 25) (hin : vp_in j (mN M a)) (kk : V k (pc + 1) lv st nc ns (sD M a j.toNatClampNeg v) Q X) : V k pc lv (.double v :: .int j :: .ref a :: st) nc ns M Q X := by
  intro p l e R s m args below meth c base D Z M0 ad0 mc ms ad H locs cells slots d ls rst hF hN hst
  obtain ⟨y0, r0, rfl, e0, hst1⟩ := xRvs_cons hst
  clear hst
  obtain ⟨y1, r1, rfl, e1, hst2⟩ := xRvs_cons hst1
  clear hst1
  cases (show y1 = Value.int j from e1)
  obtain ⟨y2, r2, rfl, ⟨rfl, hka⟩, hst3⟩ := xRvs_cons hst2
  clear hst2
  obtain ⟨w0, rfl, e0⟩ := e0
  obtain ⟨a1, a2, a3, a4, a5, a6, lvr, a7, a8⟩ := id hN
  obtain ⟨⟨cell, Vb, g1, g2, g3, g4, g5, g6⟩, hbs⟩ := a1.1 a hka
  have g5' := g5 (by omega)
  rw [ht] at g2
  have hlt : j.toNatClampNeg < mN M a := Nat.not_le.mp fun q => hin (Or.inr q)
  refine W.dast (s := s.setDrawn d) hF.1 hF.2.1 g1 (xarr (U := s.setDrawn d) (t := 25) hF.2.2.2.2.2.2.2.2.2.2.1 (by omega) (by omega) g2 g3.2.1) g3.1 (by rw [g5'.1]; exact hin) rfl rfl hd (fun H' z1 z2 z3 => ?_)
  exact kk p l e R s m args below meth c base D Z M0 ad0 mc ms ad H' _ cells slots d ls _ hF ⟨xRep_put (M' := sD M a j.toNatClampNeg v) (i := j.toNatClampNeg) (y := .double w0) a1 hka hlt (fun i _ hne => by rw [ht, xpos_arr (by omega), xpos_arr (by omega)]; exact Ne.symm hne) rfl off_sD (by rw [ht]; show xRv ad M (.double (mD (sD M a j.toNatClampNeg v) a j.toNatClampNeg)) _; rw [on_sD]; exact ⟨_, rfl, e0⟩) g1 (by rw [ht, xpos_arr (by omega)]; exact z1) z3, a2.put z2 z3 (hbs (by omega)), a3, a4, a5, xExt_same (M' := sD M a j.toNatClampNeg v) a6 rfl, lvr, a7, xRl_same (M := M) (M' := sD M a j.toNatClampNeg v) rfl a8⟩ (xRvs_same (M := M) (M' := sD M a j.toNatClampNeg v) rfl hst3)
theorem V_alen {a t : Nat} (hd : decode (kCC k) pc = .ok (.arraylength, 1)) (ht : mK M a = t) (h1 : 21 ≤ t) (kk : V k (pc + 1) lv (.int (nI (mN M a)) :: st) nc ns M Q X) : V k pc lv (.ref a :: st) nc ns M Q X := by
  intro p l e R s m args below meth c base D Z M0 ad0 mc ms ad H locs cells slots d ls rst hF hN hst
  obtain ⟨y0, r0, rfl, ⟨rfl, hka⟩, hst1⟩ := xRvs_cons hst
  clear hst
  obtain ⟨⟨cell, Vb, g1, g2, g3, g4, g5, g6⟩, hbs⟩ := hN.1.1 a hka
  have g5' := g5 (by omega)
  exact W.alen (s := s.setDrawn d) (n := nI (mN M a)) hF.1 hF.2.1 g1 (xarr (U := s.setDrawn d) hF.2.2.2.2.2.2.2.2.2.2.1 g5'.2.2.1 g5'.2.2.2 g2 g3.2.1) (by rw [g5'.1]; rfl) rfl rfl hd (kk p l e R s m args below meth c base D Z M0 ad0 mc ms ad H locs cells slots d ls _ hF hN ⟨rfl, hst1⟩)

theorem V_new {a t index : Nat} (hd : decode (kCC k) pc = .ok (.new index, 3)) (h1 : 1 ≤ t) (h2 : t ≤ 12) (hcl : Cond.classLink (kOwn k) index (vmQ t).1 ∈ xTs) (hin : Cond.instantiable (vmQ t).1 (vmQ t).2.2 ∈ xTs) (hini : Cond.initialized (vmQ t).1 ∈ xTs) (ha : mK M a = 0) (ha31 : a < 2147483648) (hnc : 1 ≤ nc) (hns : (vmQ t).2.2 ≤ ns)
    (kk : V k (pc + 3) lv (.ref a :: st) (nc - 1) (ns - (vmQ t).2.2) (sN M a t (vmQ t).2.2) Q X) : V k pc lv st nc ns M Q X := by
  intro p l e R s m args below meth c base D Z M0 ad0 mc ms ad H locs cells slots d ls rst hF hN hst
  obtain ⟨hx, hb, hml, hlk, hret, hnm, htb, hown, hts, hfl, hKn, hEv, hbase, hRf, hRl, hRc, hRs, hE⟩ := id hF
  obtain ⟨a1, a2, a3, a4, a5, a6, lvr, a7, a8⟩ := id hN
  have hts' := dr_words hts d
  have hKt := hKn.1 t h1 h2
  refine W.newcK (s := s.setDrawn d) hx hb hown (hts' _ hcl) (hts' _ hin) (hts' _ hini) rfl hd (by omega) (by omega) hKt.2.1 rfl fun H1 kC hkC e1 z1 o1 => ?_
  obtain ⟨cell9, r1, r2, r3, r4⟩ := u_born (xty t) hts (xlay_all t h1 h2) hKt hkC e1 (xparse t h1 h2)
  obtain ⟨hR', hE'⟩ := xRep_new (a := a) (t := t) (n := (vmQ t).2.2) (cell := cell9) a1 ha ha31 (Nat.le_trans hbase a2.1) (by omega) (by omega) r1 o1 r2 r3 (fun j hj => by rw [xpos_obj (by omega)]; exact r4 j hj) (fun z => by omega) (fun _ => ⟨h1, h2, rfl⟩) (fun j hj => by
    have e0 : ∀ ty, xval (sN M a t (vmQ t).2.2) a j ty = (match ty with | .long => .long 0 | .double => .double 0 | .object _ => .null | .array _ => .null | _ => .int 0) := fun ty => by cases ty <;> simp [xval, mI, mL, mD, mR, sN, clr, oref]
    rw [e0]
    have hfl : xty t j ≠ .float := by
      have : t = 1 ∨ t = 2 ∨ t = 3 ∨ t = 4 ∨ t = 5 ∨ t = 6 ∨ t = 7 ∨ t = 8 ∨ t = 9 ∨ t = 10 ∨ t = 11 ∨ t = 12 := by omega
      have all : ∀ t, t < 13 → ∀ j, j < 91 → xty t j ≠ .float := by decide +kernel
      have hj91 : j < 91 := by
        have : ∀ t, t < 13 → (vmQ t).2.2 ≤ 91 := by decide +kernel
        have := this t (by omega)
        omega
      exact all t (by omega) j hj91
    revert hfl
    cases xty t j <;> intro hfl <;> first | exact absurd rfl hfl | rfl | exact ⟨_, rfl, alq_num (by decide)⟩)
  exact kk p l e R s m args below meth c base D Z M0 ad0 mc ms _ H1 locs _ _ d ls _ hF ⟨hR', ⟨Nat.le_trans a2.1 (by omega), fun q g1 g2 => (o1 q (Nat.lt_of_lt_of_le g1 a2.1)).trans (a2.2.1 q g1 g2), a2.2.2⟩, a3, by omega, by omega, xExt_trans a6 hE', lvr, a7, xRl_ext hE' a8⟩ ⟨⟨by rw [adN_self], by simp [mK, mT, sN]; omega⟩, xRvs_ext hE' hst⟩
/-- a new array; t its tag -/
theorem V_newa {a t N : Nat} {atype : ArrayType} {n : Int32} (hd : decode (kCC k) pc = .ok (.newarray atype, 2)) (h1 : 21 ≤ t) (h2 : t ≤ 25) (hty : newarray.typeOf atype = xty t 0) (harr : Cond.arrayClass (newarray.typeOf atype) ∈ xTs) (ha : mK M a = 0) (ha31 : a < 2147483648) (hn : ¬ n < 0) (hNn : n.toNatClampNeg = N) (hbytes : N * componentBytes (newarray.typeOf atype) ≤ 536870912) (hnc : 1 ≤ nc) (hns : N ≤ ns)
    (kk : V k (pc + 2) lv (.ref a :: st) (nc - 1) (ns - N) (sN M a t N) Q X) : V k pc lv (.int n :: st) nc ns M Q X := by
  intro p l e R s m args below meth c base D Z M0 ad0 mc ms ad H locs cells slots d ls rst hF hN hst
  obtain ⟨y0, r0, rfl, e0, hst1⟩ := xRvs_cons hst
  clear hst
  cases (show y0 = Value.int n from e0)
  obtain ⟨hx, hb, hml, hlk, hret, hnm, htb, hown, hts, hfl, hKn, hEv, hbase, hRf, hRl, hRc, hRs, hE⟩ := id hF
  obtain ⟨a1, a2, a3, a4, a5, a6, lvr, a7, a8⟩ := id hN
  have hts' := dr_words hts d
  refine va_newaK (s := s.setDrawn d) hx hb (hts' _ harr) rfl hd rfl hn hNn hbytes (by omega) (by omega) rfl fun H1 cA f1 z1 o1 hAr hNm => ?_
  have hxt : ∀ j, xty t j = xty t 0 := fun j => by
    have : t = 21 ∨ t = 22 ∨ t = 23 ∨ t = 24 ∨ t = 25 := by omega
    rcases this with rfl | rfl | rfl | rfl | rfl <;> rfl
  have hcA : cA = D.1 t := by
    have h9 := hKn.2.2 t h1 (by omega)
    rw [← hty] at h9
    have h8 : (s.setDrawn d).vm.findClass ("[" ++ (newarray.typeOf atype).toString) = some cA := hNm
    have h7 : s.vm.findClass ("[" ++ (newarray.typeOf atype).toString) = some (D.1 t) := by cases atype <;> exact h9
    exact Option.some.inj (h8.symm.trans h7)
  have hN31 : N < 2 ^ 31 := by rw [← hNn]; have := n.toInt_lt; unfold Int32.toNatClampNeg; omega
  obtain ⟨hR', hE'⟩ := xRep_new (a := a) (t := t) (n := N) a1 ha ha31 (Nat.le_trans hbase a2.1) (by omega) (by omega) f1 o1 hcA rfl (fun j hj => by
      rw [xpos_arr (by omega), hxt j, ← hty]
      simp [arrV, hj]) (fun _ => ⟨by simp [arrV], hN31, h1, by omega⟩) (fun z => by omega) (fun j hj => by
    rw [hxt j]
    have : t = 21 ∨ t = 22 ∨ t = 23 ∨ t = 24 ∨ t = 25 := by omega
    have ei : mI (sN M a t N) a j = 0 := by simp [mI, sN, clr]
    have el : mL (sN M a t N) a j = 0 := by simp [mL, sN, clr]
    have ed : mD (sN M a t N) a j = 0 := by simp [mD, sN, clr]
    rcases this with rfl | rfl | rfl | rfl | rfl
    · show Value.int 0 = Value.int _; rw [ei]
    · show Value.int 0 = Value.int _; rw [ei]
    · show Value.int 0 = Value.int _; rw [ei]
    · show Value.long 0 = Value.long _; rw [el]
    · show ∃ v, Value.double 0 = Value.double v ∧ alq v (mD (sN M a 25 N) a j); rw [ed]; exact ⟨0, rfl, alq_num (by decide)⟩)
  exact kk p l e R s m args below meth c base D Z M0 ad0 mc ms _ H1 locs _ _ d ls _ hF ⟨hR', ⟨Nat.le_trans a2.1 (by omega), fun q g1 g2 => (o1 q (Nat.lt_of_lt_of_le g1 a2.1)).trans (a2.2.1 q g1 g2), a2.2.2⟩, a3, by omega, by omega, xExt_trans a6 hE', lvr, a7, xRl_ext hE' a8⟩ ⟨⟨by rw [adN_self], by simp [mK, mT, sN]; omega⟩, xRvs_ext hE' hst1⟩

end VMH
