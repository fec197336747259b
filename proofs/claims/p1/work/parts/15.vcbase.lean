/-! ===== what stands fast of the memory; rules by field; calls by bundle; loops (printed by a program) ===== -/
section VMG
theorem Lay.fsh {M : Mem} (h : Lay M) : Fsh M := h.2.2.2.2
theorem Kx.fsh {r : Nat} {M0 M : Mem} (h : Kx r M0 M) : Fsh M := h.1
theorem Lay.free {M : Mem} {a : Nat} (h : Lay M) (e : a = nx M) : mK M a = 0 := h.fsh a (by omega)
theorem Kx.free {r : Nat} {M0 M : Mem} {a : Nat} (h : Kx r M0 M) (e : a = nx M) : mK M a = 0 := h.1 a (by omega)
theorem Kx.refl {r : Nat} {M : Mem} (h : Fsh M) (hr : r ≤ nx M) : Kx r M M := ⟨h, Nat.le_refl _, fun _ _ => rfl, fun _ _ _ _ => rfl, hr⟩
theorem Lay.wI {M M1 : Mem} {a i : Nat} {v : Int32} (h : Lay M) (e : M1 = sI M a i v) : Lay M1 := e ▸ (show Lay (sI M a i v) from h)
theorem Lay.wL {M M1 : Mem} {a i : Nat} {v : Int64} (h : Lay M) (e : M1 = sL M a i v) : Lay M1 := e ▸ (show Lay (sL M a i v) from h)
theorem Lay.wD {M M1 : Mem} {a i : Nat} {v : UInt64} (h : Lay M) (e : M1 = sD M a i v) : Lay M1 := e ▸ (show Lay (sD M a i v) from h)
theorem Lay.wT {M M1 : Mem} {n : Nat} (h : Lay M) (e : M1 = tk M n) : Lay M1 := e ▸ (show Lay (tk M n) from h)
theorem Kx.wI {r : Nat} {M0 M M1 : Mem} {a i : Nat} {v : Int32} (h : Kx r M0 M) (e : M1 = sI M a i v) : Kx r M0 M1 := e ▸ (show Kx r M0 (sI M a i v) from h)
theorem Kx.wL {r : Nat} {M0 M M1 : Mem} {a i : Nat} {v : Int64} (h : Kx r M0 M) (e : M1 = sL M a i v) : Kx r M0 M1 := e ▸ (show Kx r M0 (sL M a i v) from h)
theorem Kx.wD {r : Nat} {M0 M M1 : Mem} {a i : Nat} {v : UInt64} (h : Kx r M0 M) (e : M1 = sD M a i v) : Kx r M0 M1 := e ▸ (show Kx r M0 (sD M a i v) from h)
theorem mT_sN_self {M : Mem} {a t n : Nat} : mT (sN M a t n) a = (t, n) := by simp [mT, sN]
theorem mT_sN_ne {M : Mem} {a t n b : Nat} (h : b ≠ a) : mT (sN M a t n) b = mT M b := by simp [mT, sN, h]
theorem mR_sN_ne {M : Mem} {a t n b j : Nat} (h : b ≠ a) : mR (sN M a t n) b j = mR M b j := by simp [mR, sN, clr, h]
theorem mR_sR_ne {M : Mem} {a i b j : Nat} {v : Option Nat} (h : ¬ (b = a ∧ j = i)) : mR (sR M a i v) b j = mR M b j := up2_off _ _ h
theorem Fsh.wN {M : Mem} {a t n : Nat} (h : Fsh M) (e : a = nx M) : Fsh (sN M a t n) := by
  intro b hb
  have hb' : a + 1 ≤ b := hb
  unfold mK
  rw [mT_sN_ne (by omega)]
  exact h b (by omega)
theorem Kx.wN {r : Nat} {M0 M M1 : Mem} {a t n : Nat} (h : Kx r M0 M) (ea : a = nx M) (_ : t ≠ 0) (e : M1 = sN M a t n) : Kx r M0 M1 := by
  subst e
  obtain ⟨h1, h2, h3, h4, h5⟩ := h
  have e1 : nx (sN M a t n) = a + 1 := rfl
  refine ⟨h1.wN ea, by omega, fun b hb => ?_, fun b j hb hr => ?_, h5⟩
  · rw [mT_sN_ne (by omega)]; exact h3 b hb
  · rw [mR_sN_ne (by omega)]; exact h4 b j hb hr
theorem Kx.wR0 {r : Nat} {M0 M M1 : Mem} {a i : Nat} {v : Option Nat} (h : Kx r M0 M) (ha : r ≤ a) (e : M1 = sR M a i v) : Kx r M0 M1 := by
  subst e
  obtain ⟨h1, h2, h3, h4, h5⟩ := h
  refine ⟨h1, h2, h3, fun b j hb hr => ?_, h5⟩
  rw [mR_sR_ne (fun q => by omega)]; exact h4 b j hb hr
theorem rTab_lt : ∀ e ∈ rTab, e.1 < 129 := by decide +kernel
theorem nTab_len : nTab.length + 1 = 129 := by decide +kernel
theorem Lay.ini {M M1 : Mem} {r : Nat} (h : Lay M) (hk : Kx r M M1) (hr : 129 ≤ r) : Lay M1 := by
  obtain ⟨h1, h2, h3, h4, h5⟩ := h
  obtain ⟨k1, k2, k3, k4, k5⟩ := hk
  refine ⟨fun i e he => ?_, fun i e he => ?_, ?_, by omega, k1⟩
  · have := (List.getElem?_eq_some_iff.mp he).1
    have e9 := nTab_len
    rw [k3 _ (by omega)]; exact h1 i e he
  · have := rTab_lt e (List.mem_of_getElem? he)
    rw [k4 _ _ (by omega) (by omega)]; exact h2 i e he
  · unfold mK at h3 ⊢; rw [k3 0 (by omega)]; exact h3
theorem Lay.jdk {M M1 : Mem} (h : Lay M) (hk : Kx (nx M) M M1) : Lay M1 := h.ini hk h.2.2.2.1
theorem Lay.wN {M M1 : Mem} {a t n : Nat} (h : Lay M) (ea : a = nx M) (ht : t ≠ 0) (e : M1 = sN M a t n) : Lay M1 := h.jdk ((Kx.refl h.fsh (Nat.le_refl _)).wN ea ht e)
theorem Lay.wRD {M M1 : Mem} {a i : Nat} {v : Option Nat} (h : Lay M) (ha : ∀ e ∈ rTab, ¬ (e.1 = a ∧ e.2.1 = i)) (e : M1 = sR M a i v) : Lay M1 := by
  subst e
  obtain ⟨h1, h2, h3, h4, h5⟩ := h
  exact ⟨h1, fun i e he => by rw [mR_sR_ne (ha e (List.mem_of_getElem? he))]; exact h2 i e he, h3, h4, h5⟩
theorem Lay.wRE {M M1 : Mem} {a i : Nat} {v : Option Nat} (h : Lay M) (ha : ∀ e ∈ rTab, e.1 ≠ a) (e : M1 = sR M a i v) : Lay M1 := h.wRD (fun x hx q => ha x hx q.1) e
theorem Kx.ini {r r1 : Nat} {M0 M M1 : Mem} (h : Kx r M0 M) (hk : Kx r1 M M1) (hr : r ≤ r1) : Kx r M0 M1 := by
  obtain ⟨h1, h2, h3, h4, h5⟩ := h
  obtain ⟨k1, k2, k3, k4, k5⟩ := hk
  exact ⟨k1, by omega, fun a ha => (k3 a (by omega)).trans (h3 a ha), fun a j ha har => (k4 a j (by omega) (by omega)).trans (h4 a j ha har), h5⟩
theorem Kx.jdk {r : Nat} {M0 M M1 : Mem} (h : Kx r M0 M) (hk : Kx (nx M) M M1) : Kx r M0 M1 := h.ini hk (by have := h.2.1; have := h.2.2.2.2; omega)
def QS {α : Type} (f : α → Option Value) (z : (α ⊕ String) × Mem) : xQ := fun r M' => ∃ v, z.1 = .inl v ∧ r = f v ∧ M' = z.2
def XS {α : Type} (z : (α ⊕ String) × Mem) : xX := fun E M' => z.1 = .inr E ∧ M' = z.2
theorem QSl {α : Type} {f : α → Option Value} {z : (α ⊕ String) × Mem} {v : α} (e : z.1 = .inl v) : ∀ r M', QS f z r M' → Qv (f v) z.2 r M' := by
  rintro r M' ⟨v', h1, h2, h3⟩
  cases e.symm.trans h1
  exact ⟨h2, h3⟩
theorem XSl {α : Type} {z : (α ⊕ String) × Mem} {v : α} (e : z.1 = .inl v) : ∀ E M', XS z E M' → xF E M' := by
  rintro E M' ⟨h1, h2⟩
  cases e.symm.trans h1
theorem QSr {α : Type} {f : α → Option Value} {z : (α ⊕ String) × Mem} {E : String} (e : z.1 = .inr E) : ∀ r M', QS f z r M' → qF r M' := by
  rintro r M' ⟨v', h1, h2, h3⟩
  cases e.symm.trans h1
theorem XSr {α : Type} {z : (α ⊕ String) × Mem} {E : String} (e : z.1 = .inr E) : ∀ E' M', XS z E' M' → Xv E z.2 E' M' := by
  rintro E' M' ⟨h1, h2⟩
  cases e.symm.trans h1
  exact ⟨rfl, h2⟩
theorem na_1 {n : Int32} (h : 0 ≤ n ∧ n ≤ 100000) : ¬ n < 0 := by
  have := h.1
  rw [Int32.lt_iff_toInt_lt]
  rw [Int32.le_iff_toInt_le] at this
  omega
theorem na_2 {n : Int32} {ty : FieldType} (h : 0 ≤ n ∧ n ≤ 100000) (hb : componentBytes ty ≤ 8 := by decide) : n.toNatClampNeg * componentBytes ty ≤ 536870912 := by
  obtain ⟨h1, h2⟩ := h
  rw [Int32.le_iff_toInt_le] at h1 h2
  have e : (100000 : Int32).toInt = 100000 := by decide
  have e0 : (0 : Int32).toInt = 0 := by decide
  have : n.toNatClampNeg ≤ 100000 := by unfold Int32.toNatClampNeg; omega
  calc n.toNatClampNeg * componentBytes ty ≤ 100000 * 8 := Nat.mul_le_mul this hb
    _ ≤ 536870912 := by decide
theorem nar_bo {v : Int32} (h : isBo v) : narrow .boolean (.int v) = .int v := by
  rcases h with rfl | rfl <;> rfl
theorem fit_bo {v : Int32} (h : isBo v) : fits .boolean (.int v) = true := by
  rcases h with rfl | rfl <;> rfl
theorem nar_ch {v : Int32} (h : isCh v) : narrow .char (.int v) = .int v := by
  obtain ⟨h1, h2⟩ := h
  rw [Int32.le_iff_toInt_le] at h1 h2
  have e : (65535 : Int32).toInt = 65535 := by decide
  have e0 : (0 : Int32).toInt = 0 := by decide
  rw [e] at h2; rw [e0] at h1
  show Value.int v.toUInt32.toUInt16.toUInt32.toInt32 = Value.int v
  congr 1
  have hb : v.toBitVec.toNat < 65536 := by
    have h3 : v.toInt = v.toBitVec.toInt := rfl
    have h4 := BitVec.toInt_eq_toNat_cond v.toBitVec
    have h5 := v.toBitVec.isLt
    split at h4 <;> omega
  have hu : v.toUInt32.toUInt16.toUInt32 = v.toUInt32 := by
    apply UInt32.toNat_inj.mp
    rw [UInt16.toNat_toUInt32, UInt32.toNat_toUInt16]
    exact Nat.mod_eq_of_lt hb
  rw [hu]
  rfl
theorem fit_ch {v : Int32} (h : isCh v) : fits .char (.int v) = true := by
  obtain ⟨h1, h2⟩ := h
  show (decide (0 ≤ v) && decide (v ≤ 65535)) = true
  simp [h1, h2]
theorem vp_lit {j : Int32} {n : Nat} (h : (decide (0 ≤ j.toInt) && decide (j.toNatClampNeg < n)) = true) : vp_in j n := by
  rw [Bool.and_eq_true, decide_eq_true_iff, decide_eq_true_iff] at h
  rintro (q | q)
  · rw [Int32.lt_iff_toInt_lt] at q
    have e0 : (0 : Int32).toInt = 0 := by decide
    omega
  · omega
theorem tab_ok {cs : List (Int32 × Nat)} {offs : Array Int} {lo : Int} {pc : Nat} (h : (List.range cs.length).all (fun i => match cs[i]? with
    | some q => decide (q.1.toInt = lo + (i : Int)) && decide (offs[i]? = some ((q.2 : Int) - (pc : Int)))
    | none => false) = true) : ∀ i, i < cs.length → ∃ q, cs[i]? = some q ∧ q.1.toInt = lo + (i : Int) ∧ offs[i]? = some ((q.2 : Int) - (pc : Int)) := by
  intro i hi
  have h1 := List.all_eq_true.mp h i (List.mem_range.mpr hi)
  rw [List.getElem?_eq_getElem hi] at h1 ⊢
  rw [Bool.and_eq_true, decide_eq_true_iff, decide_eq_true_iff] at h1
  exact ⟨_, rfl, h1⟩
theorem lk_1 {M : Mem} (h : Lay M) : mK M 1 = 11 := congrArg Prod.fst (h.1 0 (11, 6) rfl)
theorem lk_2 {M : Mem} (h : Lay M) : mK M 2 = 5 := congrArg Prod.fst (h.1 1 (5, 10) rfl)
theorem lk_3 {M : Mem} (h : Lay M) : mK M 3 = 21 := congrArg Prod.fst (h.1 2 (21, 8) rfl)
theorem ln_3 {M : Mem} (h : Lay M) : mN M 3 = 8 := congrArg Prod.snd (h.1 2 (21, 8) rfl)
theorem lk_4 {M : Mem} (h : Lay M) : mK M 4 = 21 := congrArg Prod.fst (h.1 3 (21, 8) rfl)
theorem ln_4 {M : Mem} (h : Lay M) : mN M 4 = 8 := congrArg Prod.snd (h.1 3 (21, 8) rfl)
theorem lk_5 {M : Mem} (h : Lay M) : mK M 5 = 21 := congrArg Prod.fst (h.1 4 (21, 8) rfl)
theorem ln_5 {M : Mem} (h : Lay M) : mN M 5 = 8 := congrArg Prod.snd (h.1 4 (21, 8) rfl)
theorem lk_6 {M : Mem} (h : Lay M) : mK M 6 = 22 := congrArg Prod.fst (h.1 5 (22, 320) rfl)
theorem ln_6 {M : Mem} (h : Lay M) : mN M 6 = 320 := congrArg Prod.snd (h.1 5 (22, 320) rfl)
theorem lk_7 {M : Mem} (h : Lay M) : mK M 7 = 21 := congrArg Prod.fst (h.1 6 (21, 320) rfl)
theorem ln_7 {M : Mem} (h : Lay M) : mN M 7 = 320 := congrArg Prod.snd (h.1 6 (21, 320) rfl)
theorem lk_8 {M : Mem} (h : Lay M) : mK M 8 = 21 := congrArg Prod.fst (h.1 7 (21, 8) rfl)
theorem ln_8 {M : Mem} (h : Lay M) : mN M 8 = 8 := congrArg Prod.snd (h.1 7 (21, 8) rfl)
theorem lk_9 {M : Mem} (h : Lay M) : mK M 9 = 21 := congrArg Prod.fst (h.1 8 (21, 5) rfl)
theorem ln_9 {M : Mem} (h : Lay M) : mN M 9 = 5 := congrArg Prod.snd (h.1 8 (21, 5) rfl)
theorem lk_10 {M : Mem} (h : Lay M) : mK M 10 = 21 := congrArg Prod.fst (h.1 9 (21, 30) rfl)
theorem ln_10 {M : Mem} (h : Lay M) : mN M 10 = 30 := congrArg Prod.snd (h.1 9 (21, 30) rfl)
theorem lk_11 {M : Mem} (h : Lay M) : mK M 11 = 7 := congrArg Prod.fst (h.1 10 (7, 7) rfl)
theorem lk_12 {M : Mem} (h : Lay M) : mK M 12 = 21 := congrArg Prod.fst (h.1 11 (21, 60) rfl)
theorem ln_12 {M : Mem} (h : Lay M) : mN M 12 = 60 := congrArg Prod.snd (h.1 11 (21, 60) rfl)
theorem lk_13 {M : Mem} (h : Lay M) : mK M 13 = 21 := congrArg Prod.fst (h.1 12 (21, 60) rfl)
theorem ln_13 {M : Mem} (h : Lay M) : mN M 13 = 60 := congrArg Prod.snd (h.1 12 (21, 60) rfl)
theorem lk_14 {M : Mem} (h : Lay M) : mK M 14 = 21 := congrArg Prod.fst (h.1 13 (21, 60) rfl)
theorem ln_14 {M : Mem} (h : Lay M) : mN M 14 = 60 := congrArg Prod.snd (h.1 13 (21, 60) rfl)
theorem lk_15 {M : Mem} (h : Lay M) : mK M 15 = 21 := congrArg Prod.fst (h.1 14 (21, 360) rfl)
theorem ln_15 {M : Mem} (h : Lay M) : mN M 15 = 360 := congrArg Prod.snd (h.1 14 (21, 360) rfl)
theorem lk_16 {M : Mem} (h : Lay M) : mK M 16 = 21 := congrArg Prod.fst (h.1 15 (21, 360) rfl)
theorem ln_16 {M : Mem} (h : Lay M) : mN M 16 = 360 := congrArg Prod.snd (h.1 15 (21, 360) rfl)
theorem lk_17 {M : Mem} (h : Lay M) : mK M 17 = 21 := congrArg Prod.fst (h.1 16 (21, 5) rfl)
theorem ln_17 {M : Mem} (h : Lay M) : mN M 17 = 5 := congrArg Prod.snd (h.1 16 (21, 5) rfl)
theorem lk_18 {M : Mem} (h : Lay M) : mK M 18 = 4 := congrArg Prod.fst (h.1 17 (4, 16) rfl)
theorem lk_19 {M : Mem} (h : Lay M) : mK M 19 = 8 := congrArg Prod.fst (h.1 18 (8, 4) rfl)
theorem lk_20 {M : Mem} (h : Lay M) : mK M 20 = 22 := congrArg Prod.fst (h.1 19 (22, 549) rfl)
theorem ln_20 {M : Mem} (h : Lay M) : mN M 20 = 549 := congrArg Prod.snd (h.1 19 (22, 549) rfl)
theorem lk_21 {M : Mem} (h : Lay M) : mK M 21 = 21 := congrArg Prod.fst (h.1 20 (21, 549) rfl)
theorem ln_21 {M : Mem} (h : Lay M) : mN M 21 = 549 := congrArg Prod.snd (h.1 20 (21, 549) rfl)
theorem lk_22 {M : Mem} (h : Lay M) : mK M 22 = 25 := congrArg Prod.fst (h.1 21 (25, 549) rfl)
theorem ln_22 {M : Mem} (h : Lay M) : mN M 22 = 549 := congrArg Prod.snd (h.1 21 (25, 549) rfl)
theorem lk_23 {M : Mem} (h : Lay M) : mK M 23 = 21 := congrArg Prod.fst (h.1 22 (21, 549) rfl)
theorem ln_23 {M : Mem} (h : Lay M) : mN M 23 = 549 := congrArg Prod.snd (h.1 22 (21, 549) rfl)
theorem lk_24 {M : Mem} (h : Lay M) : mK M 24 = 21 := congrArg Prod.fst (h.1 23 (21, 12) rfl)
theorem ln_24 {M : Mem} (h : Lay M) : mN M 24 = 12 := congrArg Prod.snd (h.1 23 (21, 12) rfl)
theorem lk_25 {M : Mem} (h : Lay M) : mK M 25 = 21 := congrArg Prod.fst (h.1 24 (21, 12) rfl)
theorem ln_25 {M : Mem} (h : Lay M) : mN M 25 = 12 := congrArg Prod.snd (h.1 24 (21, 12) rfl)
theorem lk_26 {M : Mem} (h : Lay M) : mK M 26 = 21 := congrArg Prod.fst (h.1 25 (21, 12) rfl)
theorem ln_26 {M : Mem} (h : Lay M) : mN M 26 = 12 := congrArg Prod.snd (h.1 25 (21, 12) rfl)
theorem lk_27 {M : Mem} (h : Lay M) : mK M 27 = 21 := congrArg Prod.fst (h.1 26 (21, 60) rfl)
theorem ln_27 {M : Mem} (h : Lay M) : mN M 27 = 60 := congrArg Prod.snd (h.1 26 (21, 60) rfl)
theorem lk_28 {M : Mem} (h : Lay M) : mK M 28 = 4 := congrArg Prod.fst (h.1 27 (4, 16) rfl)
theorem lk_29 {M : Mem} (h : Lay M) : mK M 29 = 8 := congrArg Prod.fst (h.1 28 (8, 4) rfl)
theorem lk_30 {M : Mem} (h : Lay M) : mK M 30 = 22 := congrArg Prod.fst (h.1 29 (22, 549) rfl)
theorem ln_30 {M : Mem} (h : Lay M) : mN M 30 = 549 := congrArg Prod.snd (h.1 29 (22, 549) rfl)
theorem lk_31 {M : Mem} (h : Lay M) : mK M 31 = 21 := congrArg Prod.fst (h.1 30 (21, 549) rfl)
theorem ln_31 {M : Mem} (h : Lay M) : mN M 31 = 549 := congrArg Prod.snd (h.1 30 (21, 549) rfl)
theorem lk_32 {M : Mem} (h : Lay M) : mK M 32 = 25 := congrArg Prod.fst (h.1 31 (25, 549) rfl)
theorem ln_32 {M : Mem} (h : Lay M) : mN M 32 = 549 := congrArg Prod.snd (h.1 31 (25, 549) rfl)
theorem lk_33 {M : Mem} (h : Lay M) : mK M 33 = 21 := congrArg Prod.fst (h.1 32 (21, 549) rfl)
theorem ln_33 {M : Mem} (h : Lay M) : mN M 33 = 549 := congrArg Prod.snd (h.1 32 (21, 549) rfl)
theorem lk_34 {M : Mem} (h : Lay M) : mK M 34 = 21 := congrArg Prod.fst (h.1 33 (21, 12) rfl)
theorem ln_34 {M : Mem} (h : Lay M) : mN M 34 = 12 := congrArg Prod.snd (h.1 33 (21, 12) rfl)
theorem lk_35 {M : Mem} (h : Lay M) : mK M 35 = 21 := congrArg Prod.fst (h.1 34 (21, 12) rfl)
theorem ln_35 {M : Mem} (h : Lay M) : mN M 35 = 12 := congrArg Prod.snd (h.1 34 (21, 12) rfl)
theorem lk_36 {M : Mem} (h : Lay M) : mK M 36 = 21 := congrArg Prod.fst (h.1 35 (21, 12) rfl)
theorem ln_36 {M : Mem} (h : Lay M) : mN M 36 = 12 := congrArg Prod.snd (h.1 35 (21, 12) rfl)
theorem lk_37 {M : Mem} (h : Lay M) : mK M 37 = 21 := congrArg Prod.fst (h.1 36 (21, 60) rfl)
theorem ln_37 {M : Mem} (h : Lay M) : mN M 37 = 60 := congrArg Prod.snd (h.1 36 (21, 60) rfl)
theorem lk_38 {M : Mem} (h : Lay M) : mK M 38 = 10 := congrArg Prod.fst (h.1 37 (10, 13) rfl)
theorem lk_39 {M : Mem} (h : Lay M) : mK M 39 = 1 := congrArg Prod.fst (h.1 38 (1, 4) rfl)
theorem lk_40 {M : Mem} (h : Lay M) : mK M 40 = 21 := congrArg Prod.fst (h.1 39 (21, 960) rfl)
theorem ln_40 {M : Mem} (h : Lay M) : mN M 40 = 960 := congrArg Prod.snd (h.1 39 (21, 960) rfl)
theorem lk_41 {M : Mem} (h : Lay M) : mK M 41 = 21 := congrArg Prod.fst (h.1 40 (21, 320) rfl)
theorem ln_41 {M : Mem} (h : Lay M) : mN M 41 = 320 := congrArg Prod.snd (h.1 40 (21, 320) rfl)
theorem lk_42 {M : Mem} (h : Lay M) : mK M 42 = 21 := congrArg Prod.fst (h.1 41 (21, 320) rfl)
theorem ln_42 {M : Mem} (h : Lay M) : mN M 42 = 320 := congrArg Prod.snd (h.1 41 (21, 320) rfl)
theorem lk_43 {M : Mem} (h : Lay M) : mK M 43 = 21 := congrArg Prod.fst (h.1 42 (21, 320) rfl)
theorem ln_43 {M : Mem} (h : Lay M) : mN M 43 = 320 := congrArg Prod.snd (h.1 42 (21, 320) rfl)
theorem lk_44 {M : Mem} (h : Lay M) : mK M 44 = 3 := congrArg Prod.fst (h.1 43 (3, 3) rfl)
theorem lk_45 {M : Mem} (h : Lay M) : mK M 45 = 21 := congrArg Prod.fst (h.1 44 (21, 320) rfl)
theorem ln_45 {M : Mem} (h : Lay M) : mN M 45 = 320 := congrArg Prod.snd (h.1 44 (21, 320) rfl)
theorem lk_46 {M : Mem} (h : Lay M) : mK M 46 = 21 := congrArg Prod.fst (h.1 45 (21, 320) rfl)
theorem ln_46 {M : Mem} (h : Lay M) : mN M 46 = 320 := congrArg Prod.snd (h.1 45 (21, 320) rfl)
theorem lk_47 {M : Mem} (h : Lay M) : mK M 47 = 21 := congrArg Prod.fst (h.1 46 (21, 320) rfl)
theorem ln_47 {M : Mem} (h : Lay M) : mN M 47 = 320 := congrArg Prod.snd (h.1 46 (21, 320) rfl)
theorem lk_48 {M : Mem} (h : Lay M) : mK M 48 = 6 := congrArg Prod.fst (h.1 47 (6, 16) rfl)
theorem lk_49 {M : Mem} (h : Lay M) : mK M 49 = 21 := congrArg Prod.fst (h.1 48 (21, 30) rfl)
theorem ln_49 {M : Mem} (h : Lay M) : mN M 49 = 30 := congrArg Prod.snd (h.1 48 (21, 30) rfl)
theorem lk_50 {M : Mem} (h : Lay M) : mK M 50 = 21 := congrArg Prod.fst (h.1 49 (21, 31) rfl)
theorem ln_50 {M : Mem} (h : Lay M) : mN M 50 = 31 := congrArg Prod.snd (h.1 49 (21, 31) rfl)
theorem lk_51 {M : Mem} (h : Lay M) : mK M 51 = 21 := congrArg Prod.fst (h.1 50 (21, 120) rfl)
theorem ln_51 {M : Mem} (h : Lay M) : mN M 51 = 120 := congrArg Prod.snd (h.1 50 (21, 120) rfl)
theorem lk_52 {M : Mem} (h : Lay M) : mK M 52 = 21 := congrArg Prod.fst (h.1 51 (21, 120) rfl)
theorem ln_52 {M : Mem} (h : Lay M) : mN M 52 = 120 := congrArg Prod.snd (h.1 51 (21, 120) rfl)
theorem lk_53 {M : Mem} (h : Lay M) : mK M 53 = 21 := congrArg Prod.fst (h.1 52 (21, 120) rfl)
theorem ln_53 {M : Mem} (h : Lay M) : mN M 53 = 120 := congrArg Prod.snd (h.1 52 (21, 120) rfl)
theorem lk_54 {M : Mem} (h : Lay M) : mK M 54 = 21 := congrArg Prod.fst (h.1 53 (21, 120) rfl)
theorem ln_54 {M : Mem} (h : Lay M) : mN M 54 = 120 := congrArg Prod.snd (h.1 53 (21, 120) rfl)
theorem lk_55 {M : Mem} (h : Lay M) : mK M 55 = 21 := congrArg Prod.fst (h.1 54 (21, 378) rfl)
theorem ln_55 {M : Mem} (h : Lay M) : mN M 55 = 378 := congrArg Prod.snd (h.1 54 (21, 378) rfl)
theorem lk_56 {M : Mem} (h : Lay M) : mK M 56 = 9 := congrArg Prod.fst (h.1 55 (9, 17) rfl)
theorem lk_57 {M : Mem} (h : Lay M) : mK M 57 = 21 := congrArg Prod.fst (h.1 56 (21, 0) rfl)
theorem ln_57 {M : Mem} (h : Lay M) : mN M 57 = 0 := congrArg Prod.snd (h.1 56 (21, 0) rfl)
theorem lk_58 {M : Mem} (h : Lay M) : mK M 58 = 21 := congrArg Prod.fst (h.1 57 (21, 1) rfl)
theorem ln_58 {M : Mem} (h : Lay M) : mN M 58 = 1 := congrArg Prod.snd (h.1 57 (21, 1) rfl)
theorem lk_59 {M : Mem} (h : Lay M) : mK M 59 = 21 := congrArg Prod.fst (h.1 58 (21, 0) rfl)
theorem ln_59 {M : Mem} (h : Lay M) : mN M 59 = 0 := congrArg Prod.snd (h.1 58 (21, 0) rfl)
theorem lk_60 {M : Mem} (h : Lay M) : mK M 60 = 21 := congrArg Prod.fst (h.1 59 (21, 0) rfl)
theorem ln_60 {M : Mem} (h : Lay M) : mN M 60 = 0 := congrArg Prod.snd (h.1 59 (21, 0) rfl)
theorem lk_61 {M : Mem} (h : Lay M) : mK M 61 = 21 := congrArg Prod.fst (h.1 60 (21, 0) rfl)
theorem ln_61 {M : Mem} (h : Lay M) : mN M 61 = 0 := congrArg Prod.snd (h.1 60 (21, 0) rfl)
theorem lk_62 {M : Mem} (h : Lay M) : mK M 62 = 21 := congrArg Prod.fst (h.1 61 (21, 0) rfl)
theorem ln_62 {M : Mem} (h : Lay M) : mN M 62 = 0 := congrArg Prod.snd (h.1 61 (21, 0) rfl)
theorem lk_63 {M : Mem} (h : Lay M) : mK M 63 = 21 := congrArg Prod.fst (h.1 62 (21, 0) rfl)
theorem ln_63 {M : Mem} (h : Lay M) : mN M 63 = 0 := congrArg Prod.snd (h.1 62 (21, 0) rfl)
theorem lk_64 {M : Mem} (h : Lay M) : mK M 64 = 21 := congrArg Prod.fst (h.1 63 (21, 0) rfl)
theorem ln_64 {M : Mem} (h : Lay M) : mN M 64 = 0 := congrArg Prod.snd (h.1 63 (21, 0) rfl)
theorem lk_65 {M : Mem} (h : Lay M) : mK M 65 = 21 := congrArg Prod.fst (h.1 64 (21, 0) rfl)
theorem ln_65 {M : Mem} (h : Lay M) : mN M 65 = 0 := congrArg Prod.snd (h.1 64 (21, 0) rfl)
theorem lk_66 {M : Mem} (h : Lay M) : mK M 66 = 21 := congrArg Prod.fst (h.1 65 (21, 0) rfl)
theorem ln_66 {M : Mem} (h : Lay M) : mN M 66 = 0 := congrArg Prod.snd (h.1 65 (21, 0) rfl)
theorem lk_67 {M : Mem} (h : Lay M) : mK M 67 = 2 := congrArg Prod.fst (h.1 66 (2, 6) rfl)
theorem lk_68 {M : Mem} (h : Lay M) : mK M 68 = 26 := congrArg Prod.fst (h.1 67 (26, 20) rfl)
theorem ln_68 {M : Mem} (h : Lay M) : mN M 68 = 20 := congrArg Prod.snd (h.1 67 (26, 20) rfl)
theorem lk_69 {M : Mem} (h : Lay M) : mK M 69 = 12 := congrArg Prod.fst (h.1 68 (12, 91) rfl)
theorem lk_70 {M : Mem} (h : Lay M) : mK M 70 = 21 := congrArg Prod.fst (h.1 69 (21, 8) rfl)
theorem ln_70 {M : Mem} (h : Lay M) : mN M 70 = 8 := congrArg Prod.snd (h.1 69 (21, 8) rfl)
theorem lk_71 {M : Mem} (h : Lay M) : mK M 71 = 21 := congrArg Prod.fst (h.1 70 (21, 8) rfl)
theorem ln_71 {M : Mem} (h : Lay M) : mN M 71 = 8 := congrArg Prod.snd (h.1 70 (21, 8) rfl)
theorem lk_72 {M : Mem} (h : Lay M) : mK M 72 = 22 := congrArg Prod.fst (h.1 71 (22, 320) rfl)
theorem ln_72 {M : Mem} (h : Lay M) : mN M 72 = 320 := congrArg Prod.snd (h.1 71 (22, 320) rfl)
theorem lk_73 {M : Mem} (h : Lay M) : mK M 73 = 21 := congrArg Prod.fst (h.1 72 (21, 320) rfl)
theorem ln_73 {M : Mem} (h : Lay M) : mN M 73 = 320 := congrArg Prod.snd (h.1 72 (21, 320) rfl)
theorem lk_74 {M : Mem} (h : Lay M) : mK M 74 = 21 := congrArg Prod.fst (h.1 73 (21, 8) rfl)
theorem ln_74 {M : Mem} (h : Lay M) : mN M 74 = 8 := congrArg Prod.snd (h.1 73 (21, 8) rfl)
theorem lk_75 {M : Mem} (h : Lay M) : mK M 75 = 21 := congrArg Prod.fst (h.1 74 (21, 8) rfl)
theorem ln_75 {M : Mem} (h : Lay M) : mN M 75 = 8 := congrArg Prod.snd (h.1 74 (21, 8) rfl)
theorem lk_76 {M : Mem} (h : Lay M) : mK M 76 = 21 := congrArg Prod.fst (h.1 75 (21, 5) rfl)
theorem ln_76 {M : Mem} (h : Lay M) : mN M 76 = 5 := congrArg Prod.snd (h.1 75 (21, 5) rfl)
theorem lk_77 {M : Mem} (h : Lay M) : mK M 77 = 21 := congrArg Prod.fst (h.1 76 (21, 30) rfl)
theorem ln_77 {M : Mem} (h : Lay M) : mN M 77 = 30 := congrArg Prod.snd (h.1 76 (21, 30) rfl)
theorem lk_78 {M : Mem} (h : Lay M) : mK M 78 = 21 := congrArg Prod.fst (h.1 77 (21, 5) rfl)
theorem ln_78 {M : Mem} (h : Lay M) : mN M 78 = 5 := congrArg Prod.snd (h.1 77 (21, 5) rfl)
theorem lk_79 {M : Mem} (h : Lay M) : mK M 79 = 21 := congrArg Prod.fst (h.1 78 (21, 60) rfl)
theorem ln_79 {M : Mem} (h : Lay M) : mN M 79 = 60 := congrArg Prod.snd (h.1 78 (21, 60) rfl)
theorem lk_80 {M : Mem} (h : Lay M) : mK M 80 = 21 := congrArg Prod.fst (h.1 79 (21, 60) rfl)
theorem ln_80 {M : Mem} (h : Lay M) : mN M 80 = 60 := congrArg Prod.snd (h.1 79 (21, 60) rfl)
theorem lk_81 {M : Mem} (h : Lay M) : mK M 81 = 21 := congrArg Prod.fst (h.1 80 (21, 360) rfl)
theorem ln_81 {M : Mem} (h : Lay M) : mN M 81 = 360 := congrArg Prod.snd (h.1 80 (21, 360) rfl)
theorem lk_82 {M : Mem} (h : Lay M) : mK M 82 = 21 := congrArg Prod.fst (h.1 81 (21, 360) rfl)
theorem ln_82 {M : Mem} (h : Lay M) : mN M 82 = 360 := congrArg Prod.snd (h.1 81 (21, 360) rfl)
theorem lk_83 {M : Mem} (h : Lay M) : mK M 83 = 21 := congrArg Prod.fst (h.1 82 (21, 320) rfl)
theorem ln_83 {M : Mem} (h : Lay M) : mN M 83 = 320 := congrArg Prod.snd (h.1 82 (21, 320) rfl)
theorem lk_84 {M : Mem} (h : Lay M) : mK M 84 = 21 := congrArg Prod.fst (h.1 83 (21, 960) rfl)
theorem ln_84 {M : Mem} (h : Lay M) : mN M 84 = 960 := congrArg Prod.snd (h.1 83 (21, 960) rfl)
theorem lk_85 {M : Mem} (h : Lay M) : mK M 85 = 21 := congrArg Prod.fst (h.1 84 (21, 320) rfl)
theorem ln_85 {M : Mem} (h : Lay M) : mN M 85 = 320 := congrArg Prod.snd (h.1 84 (21, 320) rfl)
theorem lk_86 {M : Mem} (h : Lay M) : mK M 86 = 21 := congrArg Prod.fst (h.1 85 (21, 320) rfl)
theorem ln_86 {M : Mem} (h : Lay M) : mN M 86 = 320 := congrArg Prod.snd (h.1 85 (21, 320) rfl)
theorem lk_87 {M : Mem} (h : Lay M) : mK M 87 = 21 := congrArg Prod.fst (h.1 86 (21, 320) rfl)
theorem ln_87 {M : Mem} (h : Lay M) : mN M 87 = 320 := congrArg Prod.snd (h.1 86 (21, 320) rfl)
theorem lk_88 {M : Mem} (h : Lay M) : mK M 88 = 21 := congrArg Prod.fst (h.1 87 (21, 320) rfl)
theorem ln_88 {M : Mem} (h : Lay M) : mN M 88 = 320 := congrArg Prod.snd (h.1 87 (21, 320) rfl)
theorem lk_89 {M : Mem} (h : Lay M) : mK M 89 = 23 := congrArg Prod.fst (h.1 88 (23, 20) rfl)
theorem ln_89 {M : Mem} (h : Lay M) : mN M 89 = 20 := congrArg Prod.snd (h.1 88 (23, 20) rfl)
theorem lk_90 {M : Mem} (h : Lay M) : mK M 90 = 21 := congrArg Prod.fst (h.1 89 (21, 20) rfl)
theorem ln_90 {M : Mem} (h : Lay M) : mN M 90 = 20 := congrArg Prod.snd (h.1 89 (21, 20) rfl)
theorem lk_91 {M : Mem} (h : Lay M) : mK M 91 = 21 := congrArg Prod.fst (h.1 90 (21, 600) rfl)
theorem ln_91 {M : Mem} (h : Lay M) : mN M 91 = 600 := congrArg Prod.snd (h.1 90 (21, 600) rfl)
theorem lk_92 {M : Mem} (h : Lay M) : mK M 92 = 21 := congrArg Prod.fst (h.1 91 (21, 20) rfl)
theorem ln_92 {M : Mem} (h : Lay M) : mN M 92 = 20 := congrArg Prod.snd (h.1 91 (21, 20) rfl)
theorem lk_93 {M : Mem} (h : Lay M) : mK M 93 = 21 := congrArg Prod.fst (h.1 92 (21, 20) rfl)
theorem ln_93 {M : Mem} (h : Lay M) : mN M 93 = 20 := congrArg Prod.snd (h.1 92 (21, 20) rfl)
theorem lk_94 {M : Mem} (h : Lay M) : mK M 94 = 21 := congrArg Prod.fst (h.1 93 (21, 20) rfl)
theorem ln_94 {M : Mem} (h : Lay M) : mN M 94 = 20 := congrArg Prod.snd (h.1 93 (21, 20) rfl)
theorem lk_95 {M : Mem} (h : Lay M) : mK M 95 = 21 := congrArg Prod.fst (h.1 94 (21, 20) rfl)
theorem ln_95 {M : Mem} (h : Lay M) : mN M 95 = 20 := congrArg Prod.snd (h.1 94 (21, 20) rfl)
theorem lk_96 {M : Mem} (h : Lay M) : mK M 96 = 21 := congrArg Prod.fst (h.1 95 (21, 20) rfl)
theorem ln_96 {M : Mem} (h : Lay M) : mN M 96 = 20 := congrArg Prod.snd (h.1 95 (21, 20) rfl)
theorem lk_97 {M : Mem} (h : Lay M) : mK M 97 = 22 := congrArg Prod.fst (h.1 96 (22, 2400) rfl)
theorem ln_97 {M : Mem} (h : Lay M) : mN M 97 = 2400 := congrArg Prod.snd (h.1 96 (22, 2400) rfl)
theorem lk_98 {M : Mem} (h : Lay M) : mK M 98 = 21 := congrArg Prod.fst (h.1 97 (21, 2400) rfl)
theorem ln_98 {M : Mem} (h : Lay M) : mN M 98 = 2400 := congrArg Prod.snd (h.1 97 (21, 2400) rfl)
theorem lk_99 {M : Mem} (h : Lay M) : mK M 99 = 21 := congrArg Prod.fst (h.1 98 (21, 2400) rfl)
theorem ln_99 {M : Mem} (h : Lay M) : mN M 99 = 2400 := congrArg Prod.snd (h.1 98 (21, 2400) rfl)
theorem lk_100 {M : Mem} (h : Lay M) : mK M 100 = 21 := congrArg Prod.fst (h.1 99 (21, 2400) rfl)
theorem ln_100 {M : Mem} (h : Lay M) : mN M 100 = 2400 := congrArg Prod.snd (h.1 99 (21, 2400) rfl)
theorem lk_101 {M : Mem} (h : Lay M) : mK M 101 = 21 := congrArg Prod.fst (h.1 100 (21, 2400) rfl)
theorem ln_101 {M : Mem} (h : Lay M) : mN M 101 = 2400 := congrArg Prod.snd (h.1 100 (21, 2400) rfl)
theorem lk_102 {M : Mem} (h : Lay M) : mK M 102 = 21 := congrArg Prod.fst (h.1 101 (21, 2400) rfl)
theorem ln_102 {M : Mem} (h : Lay M) : mN M 102 = 2400 := congrArg Prod.snd (h.1 101 (21, 2400) rfl)
theorem lk_103 {M : Mem} (h : Lay M) : mK M 103 = 21 := congrArg Prod.fst (h.1 102 (21, 2400) rfl)
theorem ln_103 {M : Mem} (h : Lay M) : mN M 103 = 2400 := congrArg Prod.snd (h.1 102 (21, 2400) rfl)
theorem lk_104 {M : Mem} (h : Lay M) : mK M 104 = 21 := congrArg Prod.fst (h.1 103 (21, 2400) rfl)
theorem ln_104 {M : Mem} (h : Lay M) : mN M 104 = 2400 := congrArg Prod.snd (h.1 103 (21, 2400) rfl)
theorem lk_105 {M : Mem} (h : Lay M) : mK M 105 = 22 := congrArg Prod.fst (h.1 104 (22, 168) rfl)
theorem ln_105 {M : Mem} (h : Lay M) : mN M 105 = 168 := congrArg Prod.snd (h.1 104 (22, 168) rfl)
theorem lk_106 {M : Mem} (h : Lay M) : mK M 106 = 21 := congrArg Prod.fst (h.1 105 (21, 168) rfl)
theorem ln_106 {M : Mem} (h : Lay M) : mN M 106 = 168 := congrArg Prod.snd (h.1 105 (21, 168) rfl)
theorem lk_107 {M : Mem} (h : Lay M) : mK M 107 = 25 := congrArg Prod.fst (h.1 106 (25, 168) rfl)
theorem ln_107 {M : Mem} (h : Lay M) : mN M 107 = 168 := congrArg Prod.snd (h.1 106 (25, 168) rfl)
theorem lk_108 {M : Mem} (h : Lay M) : mK M 108 = 21 := congrArg Prod.fst (h.1 107 (21, 168) rfl)
theorem ln_108 {M : Mem} (h : Lay M) : mN M 108 = 168 := congrArg Prod.snd (h.1 107 (21, 168) rfl)
theorem lk_109 {M : Mem} (h : Lay M) : mK M 109 = 21 := congrArg Prod.fst (h.1 108 (21, 12) rfl)
theorem ln_109 {M : Mem} (h : Lay M) : mN M 109 = 12 := congrArg Prod.snd (h.1 108 (21, 12) rfl)
theorem lk_110 {M : Mem} (h : Lay M) : mK M 110 = 21 := congrArg Prod.fst (h.1 109 (21, 12) rfl)
theorem ln_110 {M : Mem} (h : Lay M) : mN M 110 = 12 := congrArg Prod.snd (h.1 109 (21, 12) rfl)
theorem lk_111 {M : Mem} (h : Lay M) : mK M 111 = 21 := congrArg Prod.fst (h.1 110 (21, 12) rfl)
theorem ln_111 {M : Mem} (h : Lay M) : mN M 111 = 12 := congrArg Prod.snd (h.1 110 (21, 12) rfl)
theorem lk_112 {M : Mem} (h : Lay M) : mK M 112 = 21 := congrArg Prod.fst (h.1 111 (21, 60) rfl)
theorem ln_112 {M : Mem} (h : Lay M) : mN M 112 = 60 := congrArg Prod.snd (h.1 111 (21, 60) rfl)
theorem lk_113 {M : Mem} (h : Lay M) : mK M 113 = 22 := congrArg Prod.fst (h.1 112 (22, 360) rfl)
theorem ln_113 {M : Mem} (h : Lay M) : mN M 113 = 360 := congrArg Prod.snd (h.1 112 (22, 360) rfl)
theorem lk_114 {M : Mem} (h : Lay M) : mK M 114 = 21 := congrArg Prod.fst (h.1 113 (21, 360) rfl)
theorem ln_114 {M : Mem} (h : Lay M) : mN M 114 = 360 := congrArg Prod.snd (h.1 113 (21, 360) rfl)
theorem lk_115 {M : Mem} (h : Lay M) : mK M 115 = 25 := congrArg Prod.fst (h.1 114 (25, 360) rfl)
theorem ln_115 {M : Mem} (h : Lay M) : mN M 115 = 360 := congrArg Prod.snd (h.1 114 (25, 360) rfl)
theorem lk_116 {M : Mem} (h : Lay M) : mK M 116 = 22 := congrArg Prod.fst (h.1 115 (22, 20) rfl)
theorem ln_116 {M : Mem} (h : Lay M) : mN M 116 = 20 := congrArg Prod.snd (h.1 115 (22, 20) rfl)
theorem lk_117 {M : Mem} (h : Lay M) : mK M 117 = 24 := congrArg Prod.fst (h.1 116 (24, 20) rfl)
theorem ln_117 {M : Mem} (h : Lay M) : mN M 117 = 20 := congrArg Prod.snd (h.1 116 (24, 20) rfl)
theorem lk_118 {M : Mem} (h : Lay M) : mK M 118 = 21 := congrArg Prod.fst (h.1 117 (21, 30) rfl)
theorem ln_118 {M : Mem} (h : Lay M) : mN M 118 = 30 := congrArg Prod.snd (h.1 117 (21, 30) rfl)
theorem lk_119 {M : Mem} (h : Lay M) : mK M 119 = 22 := congrArg Prod.fst (h.1 118 (22, 120) rfl)
theorem ln_119 {M : Mem} (h : Lay M) : mN M 119 = 120 := congrArg Prod.snd (h.1 118 (22, 120) rfl)
theorem lk_120 {M : Mem} (h : Lay M) : mK M 120 = 21 := congrArg Prod.fst (h.1 119 (21, 120) rfl)
theorem ln_120 {M : Mem} (h : Lay M) : mN M 120 = 120 := congrArg Prod.snd (h.1 119 (21, 120) rfl)
theorem lk_121 {M : Mem} (h : Lay M) : mK M 121 = 21 := congrArg Prod.fst (h.1 120 (21, 120) rfl)
theorem ln_121 {M : Mem} (h : Lay M) : mN M 121 = 120 := congrArg Prod.snd (h.1 120 (21, 120) rfl)
theorem lk_122 {M : Mem} (h : Lay M) : mK M 122 = 21 := congrArg Prod.fst (h.1 121 (21, 120) rfl)
theorem ln_122 {M : Mem} (h : Lay M) : mN M 122 = 120 := congrArg Prod.snd (h.1 121 (21, 120) rfl)
theorem lk_123 {M : Mem} (h : Lay M) : mK M 123 = 22 := congrArg Prod.fst (h.1 122 (22, 600) rfl)
theorem ln_123 {M : Mem} (h : Lay M) : mN M 123 = 600 := congrArg Prod.snd (h.1 122 (22, 600) rfl)
theorem lk_124 {M : Mem} (h : Lay M) : mK M 124 = 23 := congrArg Prod.fst (h.1 123 (23, 600) rfl)
theorem ln_124 {M : Mem} (h : Lay M) : mN M 124 = 600 := congrArg Prod.snd (h.1 123 (23, 600) rfl)
theorem lk_125 {M : Mem} (h : Lay M) : mK M 125 = 21 := congrArg Prod.fst (h.1 124 (21, 600) rfl)
theorem ln_125 {M : Mem} (h : Lay M) : mN M 125 = 600 := congrArg Prod.snd (h.1 124 (21, 600) rfl)
theorem lk_126 {M : Mem} (h : Lay M) : mK M 126 = 21 := congrArg Prod.fst (h.1 125 (21, 600) rfl)
theorem ln_126 {M : Mem} (h : Lay M) : mN M 126 = 600 := congrArg Prod.snd (h.1 125 (21, 600) rfl)
theorem lk_127 {M : Mem} (h : Lay M) : mK M 127 = 24 := congrArg Prod.fst (h.1 126 (24, 1) rfl)
theorem ln_127 {M : Mem} (h : Lay M) : mN M 127 = 1 := congrArg Prod.snd (h.1 126 (24, 1) rfl)
theorem lk_128 {M : Mem} (h : Lay M) : mK M 128 = 25 := congrArg Prod.fst (h.1 127 (25, 1) rfl)
theorem ln_128 {M : Mem} (h : Lay M) : mN M 128 = 1 := congrArg Prod.snd (h.1 127 (25, 1) rfl)
theorem lk_0 {M : Mem} (h : Lay M) : mK M 0 = 27 := h.2.2.1
theorem lr_1_0 {M : Mem} (h : Lay M) : mR M 1 0 = some 2 := h.2.1 0 (1, 0, 2) rfl
theorem lr_1_1 {M : Mem} (h : Lay M) : mR M 1 1 = some 11 := h.2.1 1 (1, 1, 11) rfl
theorem lr_1_2 {M : Mem} (h : Lay M) : mR M 1 2 = some 18 := h.2.1 2 (1, 2, 18) rfl
theorem lr_1_3 {M : Mem} (h : Lay M) : mR M 1 3 = some 28 := h.2.1 3 (1, 3, 28) rfl
theorem lr_1_4 {M : Mem} (h : Lay M) : mR M 1 4 = some 38 := h.2.1 4 (1, 4, 38) rfl
theorem lr_2_0 {M : Mem} (h : Lay M) : mR M 2 0 = some 3 := h.2.1 5 (2, 0, 3) rfl
theorem lr_2_1 {M : Mem} (h : Lay M) : mR M 2 1 = some 4 := h.2.1 6 (2, 1, 4) rfl
theorem lr_2_2 {M : Mem} (h : Lay M) : mR M 2 2 = some 5 := h.2.1 7 (2, 2, 5) rfl
theorem lr_2_3 {M : Mem} (h : Lay M) : mR M 2 3 = some 6 := h.2.1 8 (2, 3, 6) rfl
theorem lr_2_4 {M : Mem} (h : Lay M) : mR M 2 4 = some 7 := h.2.1 9 (2, 4, 7) rfl
theorem lr_2_5 {M : Mem} (h : Lay M) : mR M 2 5 = some 8 := h.2.1 10 (2, 5, 8) rfl
theorem lr_2_6 {M : Mem} (h : Lay M) : mR M 2 6 = some 9 := h.2.1 11 (2, 6, 9) rfl
theorem lr_2_7 {M : Mem} (h : Lay M) : mR M 2 7 = some 10 := h.2.1 12 (2, 7, 10) rfl
theorem lr_11_0 {M : Mem} (h : Lay M) : mR M 11 0 = some 12 := h.2.1 13 (11, 0, 12) rfl
theorem lr_11_1 {M : Mem} (h : Lay M) : mR M 11 1 = some 13 := h.2.1 14 (11, 1, 13) rfl
theorem lr_11_2 {M : Mem} (h : Lay M) : mR M 11 2 = some 14 := h.2.1 15 (11, 2, 14) rfl
theorem lr_11_3 {M : Mem} (h : Lay M) : mR M 11 3 = some 15 := h.2.1 16 (11, 3, 15) rfl
theorem lr_11_4 {M : Mem} (h : Lay M) : mR M 11 4 = some 16 := h.2.1 17 (11, 4, 16) rfl
theorem lr_11_5 {M : Mem} (h : Lay M) : mR M 11 5 = some 17 := h.2.1 18 (11, 5, 17) rfl
theorem lr_18_0 {M : Mem} (h : Lay M) : mR M 18 0 = some 2 := h.2.1 19 (18, 0, 2) rfl
theorem lr_18_1 {M : Mem} (h : Lay M) : mR M 18 1 = some 11 := h.2.1 20 (18, 1, 11) rfl
theorem lr_18_2 {M : Mem} (h : Lay M) : mR M 18 2 = some 19 := h.2.1 21 (18, 2, 19) rfl
theorem lr_18_3 {M : Mem} (h : Lay M) : mR M 18 3 = some 24 := h.2.1 22 (18, 3, 24) rfl
theorem lr_18_4 {M : Mem} (h : Lay M) : mR M 18 4 = some 25 := h.2.1 23 (18, 4, 25) rfl
theorem lr_18_5 {M : Mem} (h : Lay M) : mR M 18 5 = some 26 := h.2.1 24 (18, 5, 26) rfl
theorem lr_18_6 {M : Mem} (h : Lay M) : mR M 18 6 = some 27 := h.2.1 25 (18, 6, 27) rfl
theorem lr_19_0 {M : Mem} (h : Lay M) : mR M 19 0 = some 20 := h.2.1 26 (19, 0, 20) rfl
theorem lr_19_1 {M : Mem} (h : Lay M) : mR M 19 1 = some 21 := h.2.1 27 (19, 1, 21) rfl
theorem lr_19_2 {M : Mem} (h : Lay M) : mR M 19 2 = some 22 := h.2.1 28 (19, 2, 22) rfl
theorem lr_19_3 {M : Mem} (h : Lay M) : mR M 19 3 = some 23 := h.2.1 29 (19, 3, 23) rfl
theorem lr_28_0 {M : Mem} (h : Lay M) : mR M 28 0 = some 2 := h.2.1 30 (28, 0, 2) rfl
theorem lr_28_1 {M : Mem} (h : Lay M) : mR M 28 1 = some 11 := h.2.1 31 (28, 1, 11) rfl
theorem lr_28_2 {M : Mem} (h : Lay M) : mR M 28 2 = some 29 := h.2.1 32 (28, 2, 29) rfl
theorem lr_28_3 {M : Mem} (h : Lay M) : mR M 28 3 = some 34 := h.2.1 33 (28, 3, 34) rfl
theorem lr_28_4 {M : Mem} (h : Lay M) : mR M 28 4 = some 35 := h.2.1 34 (28, 4, 35) rfl
theorem lr_28_5 {M : Mem} (h : Lay M) : mR M 28 5 = some 36 := h.2.1 35 (28, 5, 36) rfl
theorem lr_28_6 {M : Mem} (h : Lay M) : mR M 28 6 = some 37 := h.2.1 36 (28, 6, 37) rfl
theorem lr_29_0 {M : Mem} (h : Lay M) : mR M 29 0 = some 30 := h.2.1 37 (29, 0, 30) rfl
theorem lr_29_1 {M : Mem} (h : Lay M) : mR M 29 1 = some 31 := h.2.1 38 (29, 1, 31) rfl
theorem lr_29_2 {M : Mem} (h : Lay M) : mR M 29 2 = some 32 := h.2.1 39 (29, 2, 32) rfl
theorem lr_29_3 {M : Mem} (h : Lay M) : mR M 29 3 = some 33 := h.2.1 40 (29, 3, 33) rfl
theorem lr_38_0 {M : Mem} (h : Lay M) : mR M 38 0 = some 18 := h.2.1 41 (38, 0, 18) rfl
theorem lr_38_1 {M : Mem} (h : Lay M) : mR M 38 1 = some 39 := h.2.1 42 (38, 1, 39) rfl
theorem lr_38_2 {M : Mem} (h : Lay M) : mR M 38 2 = some 44 := h.2.1 43 (38, 2, 44) rfl
theorem lr_38_3 {M : Mem} (h : Lay M) : mR M 38 3 = some 48 := h.2.1 44 (38, 3, 48) rfl
theorem lr_38_4 {M : Mem} (h : Lay M) : mR M 38 4 = some 67 := h.2.1 45 (38, 4, 67) rfl
theorem lr_39_0 {M : Mem} (h : Lay M) : mR M 39 0 = some 40 := h.2.1 46 (39, 0, 40) rfl
theorem lr_39_1 {M : Mem} (h : Lay M) : mR M 39 1 = some 41 := h.2.1 47 (39, 1, 41) rfl
theorem lr_39_2 {M : Mem} (h : Lay M) : mR M 39 2 = some 42 := h.2.1 48 (39, 2, 42) rfl
theorem lr_39_3 {M : Mem} (h : Lay M) : mR M 39 3 = some 43 := h.2.1 49 (39, 3, 43) rfl
theorem lr_44_0 {M : Mem} (h : Lay M) : mR M 44 0 = some 45 := h.2.1 50 (44, 0, 45) rfl
theorem lr_44_1 {M : Mem} (h : Lay M) : mR M 44 1 = some 46 := h.2.1 51 (44, 1, 46) rfl
theorem lr_44_2 {M : Mem} (h : Lay M) : mR M 44 2 = some 47 := h.2.1 52 (44, 2, 47) rfl
theorem lr_48_0 {M : Mem} (h : Lay M) : mR M 48 0 = some 49 := h.2.1 53 (48, 0, 49) rfl
theorem lr_48_1 {M : Mem} (h : Lay M) : mR M 48 1 = some 50 := h.2.1 54 (48, 1, 50) rfl
theorem lr_48_2 {M : Mem} (h : Lay M) : mR M 48 2 = some 51 := h.2.1 55 (48, 2, 51) rfl
theorem lr_48_3 {M : Mem} (h : Lay M) : mR M 48 3 = some 52 := h.2.1 56 (48, 3, 52) rfl
theorem lr_48_4 {M : Mem} (h : Lay M) : mR M 48 4 = some 53 := h.2.1 57 (48, 4, 53) rfl
theorem lr_48_5 {M : Mem} (h : Lay M) : mR M 48 5 = some 54 := h.2.1 58 (48, 5, 54) rfl
theorem lr_48_6 {M : Mem} (h : Lay M) : mR M 48 6 = some 55 := h.2.1 59 (48, 6, 55) rfl
theorem lr_67_0 {M : Mem} (h : Lay M) : mR M 67 0 = some 2 := h.2.1 60 (67, 0, 2) rfl
theorem lr_67_1 {M : Mem} (h : Lay M) : mR M 67 1 = some 44 := h.2.1 61 (67, 1, 44) rfl
theorem lr_67_2 {M : Mem} (h : Lay M) : mR M 67 2 = some 68 := h.2.1 62 (67, 2, 68) rfl
theorem lr_69_2 {M : Mem} (h : Lay M) : mR M 69 2 = some 70 := h.2.1 63 (69, 2, 70) rfl
theorem lr_69_3 {M : Mem} (h : Lay M) : mR M 69 3 = some 71 := h.2.1 64 (69, 3, 71) rfl
theorem lr_69_4 {M : Mem} (h : Lay M) : mR M 69 4 = some 72 := h.2.1 65 (69, 4, 72) rfl
theorem lr_69_5 {M : Mem} (h : Lay M) : mR M 69 5 = some 73 := h.2.1 66 (69, 5, 73) rfl
theorem lr_69_6 {M : Mem} (h : Lay M) : mR M 69 6 = some 74 := h.2.1 67 (69, 6, 74) rfl
theorem lr_69_7 {M : Mem} (h : Lay M) : mR M 69 7 = some 75 := h.2.1 68 (69, 7, 75) rfl
theorem lr_69_9 {M : Mem} (h : Lay M) : mR M 69 9 = some 76 := h.2.1 69 (69, 9, 76) rfl
theorem lr_69_10 {M : Mem} (h : Lay M) : mR M 69 10 = some 77 := h.2.1 70 (69, 10, 77) rfl
theorem lr_69_11 {M : Mem} (h : Lay M) : mR M 69 11 = some 78 := h.2.1 71 (69, 11, 78) rfl
theorem lr_69_13 {M : Mem} (h : Lay M) : mR M 69 13 = some 79 := h.2.1 72 (69, 13, 79) rfl
theorem lr_69_14 {M : Mem} (h : Lay M) : mR M 69 14 = some 80 := h.2.1 73 (69, 14, 80) rfl
theorem lr_69_15 {M : Mem} (h : Lay M) : mR M 69 15 = some 81 := h.2.1 74 (69, 15, 81) rfl
theorem lr_69_16 {M : Mem} (h : Lay M) : mR M 69 16 = some 82 := h.2.1 75 (69, 16, 82) rfl
theorem lr_69_17 {M : Mem} (h : Lay M) : mR M 69 17 = some 83 := h.2.1 76 (69, 17, 83) rfl
theorem lr_69_18 {M : Mem} (h : Lay M) : mR M 69 18 = some 84 := h.2.1 77 (69, 18, 84) rfl
theorem lr_69_19 {M : Mem} (h : Lay M) : mR M 69 19 = some 85 := h.2.1 78 (69, 19, 85) rfl
theorem lr_69_20 {M : Mem} (h : Lay M) : mR M 69 20 = some 86 := h.2.1 79 (69, 20, 86) rfl
theorem lr_69_21 {M : Mem} (h : Lay M) : mR M 69 21 = some 87 := h.2.1 80 (69, 21, 87) rfl
theorem lr_69_22 {M : Mem} (h : Lay M) : mR M 69 22 = some 88 := h.2.1 81 (69, 22, 88) rfl
theorem lr_69_27 {M : Mem} (h : Lay M) : mR M 69 27 = some 89 := h.2.1 82 (69, 27, 89) rfl
theorem lr_69_28 {M : Mem} (h : Lay M) : mR M 69 28 = some 90 := h.2.1 83 (69, 28, 90) rfl
theorem lr_69_29 {M : Mem} (h : Lay M) : mR M 69 29 = some 91 := h.2.1 84 (69, 29, 91) rfl
theorem lr_69_30 {M : Mem} (h : Lay M) : mR M 69 30 = some 92 := h.2.1 85 (69, 30, 92) rfl
theorem lr_69_31 {M : Mem} (h : Lay M) : mR M 69 31 = some 93 := h.2.1 86 (69, 31, 93) rfl
theorem lr_69_32 {M : Mem} (h : Lay M) : mR M 69 32 = some 94 := h.2.1 87 (69, 32, 94) rfl
theorem lr_69_33 {M : Mem} (h : Lay M) : mR M 69 33 = some 95 := h.2.1 88 (69, 33, 95) rfl
theorem lr_69_34 {M : Mem} (h : Lay M) : mR M 69 34 = some 96 := h.2.1 89 (69, 34, 96) rfl
theorem lr_69_36 {M : Mem} (h : Lay M) : mR M 69 36 = some 97 := h.2.1 90 (69, 36, 97) rfl
theorem lr_69_37 {M : Mem} (h : Lay M) : mR M 69 37 = some 98 := h.2.1 91 (69, 37, 98) rfl
theorem lr_69_38 {M : Mem} (h : Lay M) : mR M 69 38 = some 99 := h.2.1 92 (69, 38, 99) rfl
theorem lr_69_39 {M : Mem} (h : Lay M) : mR M 69 39 = some 100 := h.2.1 93 (69, 39, 100) rfl
theorem lr_69_40 {M : Mem} (h : Lay M) : mR M 69 40 = some 101 := h.2.1 94 (69, 40, 101) rfl
theorem lr_69_41 {M : Mem} (h : Lay M) : mR M 69 41 = some 102 := h.2.1 95 (69, 41, 102) rfl
theorem lr_69_42 {M : Mem} (h : Lay M) : mR M 69 42 = some 103 := h.2.1 96 (69, 42, 103) rfl
theorem lr_69_43 {M : Mem} (h : Lay M) : mR M 69 43 = some 104 := h.2.1 97 (69, 43, 104) rfl
theorem lr_69_44 {M : Mem} (h : Lay M) : mR M 69 44 = some 105 := h.2.1 98 (69, 44, 105) rfl
theorem lr_69_45 {M : Mem} (h : Lay M) : mR M 69 45 = some 106 := h.2.1 99 (69, 45, 106) rfl
theorem lr_69_46 {M : Mem} (h : Lay M) : mR M 69 46 = some 107 := h.2.1 100 (69, 46, 107) rfl
theorem lr_69_47 {M : Mem} (h : Lay M) : mR M 69 47 = some 108 := h.2.1 101 (69, 47, 108) rfl
theorem lr_69_49 {M : Mem} (h : Lay M) : mR M 69 49 = some 109 := h.2.1 102 (69, 49, 109) rfl
theorem lr_69_50 {M : Mem} (h : Lay M) : mR M 69 50 = some 110 := h.2.1 103 (69, 50, 110) rfl
theorem lr_69_51 {M : Mem} (h : Lay M) : mR M 69 51 = some 111 := h.2.1 104 (69, 51, 111) rfl
theorem lr_69_53 {M : Mem} (h : Lay M) : mR M 69 53 = some 112 := h.2.1 105 (69, 53, 112) rfl
theorem lr_69_54 {M : Mem} (h : Lay M) : mR M 69 54 = some 113 := h.2.1 106 (69, 54, 113) rfl
theorem lr_69_55 {M : Mem} (h : Lay M) : mR M 69 55 = some 114 := h.2.1 107 (69, 55, 114) rfl
theorem lr_69_56 {M : Mem} (h : Lay M) : mR M 69 56 = some 115 := h.2.1 108 (69, 56, 115) rfl
theorem lr_69_60 {M : Mem} (h : Lay M) : mR M 69 60 = some 116 := h.2.1 109 (69, 60, 116) rfl
theorem lr_69_61 {M : Mem} (h : Lay M) : mR M 69 61 = some 117 := h.2.1 110 (69, 61, 117) rfl
theorem lr_69_77 {M : Mem} (h : Lay M) : mR M 69 77 = some 118 := h.2.1 111 (69, 77, 118) rfl
theorem lr_69_79 {M : Mem} (h : Lay M) : mR M 69 79 = some 119 := h.2.1 112 (69, 79, 119) rfl
theorem lr_69_80 {M : Mem} (h : Lay M) : mR M 69 80 = some 120 := h.2.1 113 (69, 80, 120) rfl
theorem lr_69_81 {M : Mem} (h : Lay M) : mR M 69 81 = some 121 := h.2.1 114 (69, 81, 121) rfl
theorem lr_69_82 {M : Mem} (h : Lay M) : mR M 69 82 = some 122 := h.2.1 115 (69, 82, 122) rfl
theorem lr_69_84 {M : Mem} (h : Lay M) : mR M 69 84 = some 123 := h.2.1 116 (69, 84, 123) rfl
theorem lr_69_85 {M : Mem} (h : Lay M) : mR M 69 85 = some 124 := h.2.1 117 (69, 85, 124) rfl
theorem lr_69_86 {M : Mem} (h : Lay M) : mR M 69 86 = some 125 := h.2.1 118 (69, 86, 125) rfl
theorem lr_69_87 {M : Mem} (h : Lay M) : mR M 69 87 = some 126 := h.2.1 119 (69, 87, 126) rfl
theorem lo_0 {M : Mem} {o : Nat} (h : Lay M) (ho : o = 18 ∨ o = 28) : mK M o = 4 := by
  rcases ho with rfl | rfl
  · exact lk_18 h
  · exact lk_28 h
theorem lor_0_0 {M : Mem} {o : Nat} (h : Lay M) (ho : o = 18 ∨ o = 28) : mR M o 0 = some (2) := by
  rcases ho with rfl | rfl
  · exact lr_18_0 h
  · exact lr_28_0 h
theorem lor_0_1 {M : Mem} {o : Nat} (h : Lay M) (ho : o = 18 ∨ o = 28) : mR M o 1 = some (11) := by
  rcases ho with rfl | rfl
  · exact lr_18_1 h
  · exact lr_28_1 h
theorem lor_0_2 {M : Mem} {o : Nat} (h : Lay M) (ho : o = 18 ∨ o = 28) : mR M o 2 = some (o + 1) := by
  rcases ho with rfl | rfl
  · exact lr_18_2 h
  · exact lr_28_2 h
theorem lor_0_3 {M : Mem} {o : Nat} (h : Lay M) (ho : o = 18 ∨ o = 28) : mR M o 3 = some (o + 6) := by
  rcases ho with rfl | rfl
  · exact lr_18_3 h
  · exact lr_28_3 h
theorem lor_0_4 {M : Mem} {o : Nat} (h : Lay M) (ho : o = 18 ∨ o = 28) : mR M o 4 = some (o + 7) := by
  rcases ho with rfl | rfl
  · exact lr_18_4 h
  · exact lr_28_4 h
theorem lor_0_5 {M : Mem} {o : Nat} (h : Lay M) (ho : o = 18 ∨ o = 28) : mR M o 5 = some (o + 8) := by
  rcases ho with rfl | rfl
  · exact lr_18_5 h
  · exact lr_28_5 h
theorem lor_0_6 {M : Mem} {o : Nat} (h : Lay M) (ho : o = 18 ∨ o = 28) : mR M o 6 = some (o + 9) := by
  rcases ho with rfl | rfl
  · exact lr_18_6 h
  · exact lr_28_6 h
theorem lo_1 {M : Mem} {o : Nat} (h : Lay M) (ho : o = 18 ∨ o = 28) : mK M (o + 1) = 8 := by
  rcases ho with rfl | rfl
  · exact lk_19 h
  · exact lk_29 h
theorem lor_1_0 {M : Mem} {o : Nat} (h : Lay M) (ho : o = 18 ∨ o = 28) : mR M (o + 1) 0 = some (o + 2) := by
  rcases ho with rfl | rfl
  · exact lr_19_0 h
  · exact lr_29_0 h
theorem lor_1_1 {M : Mem} {o : Nat} (h : Lay M) (ho : o = 18 ∨ o = 28) : mR M (o + 1) 1 = some (o + 3) := by
  rcases ho with rfl | rfl
  · exact lr_19_1 h
  · exact lr_29_1 h
theorem lor_1_2 {M : Mem} {o : Nat} (h : Lay M) (ho : o = 18 ∨ o = 28) : mR M (o + 1) 2 = some (o + 4) := by
  rcases ho with rfl | rfl
  · exact lr_19_2 h
  · exact lr_29_2 h
theorem lor_1_3 {M : Mem} {o : Nat} (h : Lay M) (ho : o = 18 ∨ o = 28) : mR M (o + 1) 3 = some (o + 5) := by
  rcases ho with rfl | rfl
  · exact lr_19_3 h
  · exact lr_29_3 h
theorem lo_2 {M : Mem} {o : Nat} (h : Lay M) (ho : o = 18 ∨ o = 28) : mK M (o + 2) = 22 := by
  rcases ho with rfl | rfl
  · exact lk_20 h
  · exact lk_30 h
theorem lon_2 {M : Mem} {o : Nat} (h : Lay M) (ho : o = 18 ∨ o = 28) : mN M (o + 2) = 549 := by
  rcases ho with rfl | rfl
  · exact ln_20 h
  · exact ln_30 h
theorem lo_3 {M : Mem} {o : Nat} (h : Lay M) (ho : o = 18 ∨ o = 28) : mK M (o + 3) = 21 := by
  rcases ho with rfl | rfl
  · exact lk_21 h
  · exact lk_31 h
theorem lon_3 {M : Mem} {o : Nat} (h : Lay M) (ho : o = 18 ∨ o = 28) : mN M (o + 3) = 549 := by
  rcases ho with rfl | rfl
  · exact ln_21 h
  · exact ln_31 h
theorem lo_4 {M : Mem} {o : Nat} (h : Lay M) (ho : o = 18 ∨ o = 28) : mK M (o + 4) = 25 := by
  rcases ho with rfl | rfl
  · exact lk_22 h
  · exact lk_32 h
theorem lon_4 {M : Mem} {o : Nat} (h : Lay M) (ho : o = 18 ∨ o = 28) : mN M (o + 4) = 549 := by
  rcases ho with rfl | rfl
  · exact ln_22 h
  · exact ln_32 h
theorem lo_5 {M : Mem} {o : Nat} (h : Lay M) (ho : o = 18 ∨ o = 28) : mK M (o + 5) = 21 := by
  rcases ho with rfl | rfl
  · exact lk_23 h
  · exact lk_33 h
theorem lon_5 {M : Mem} {o : Nat} (h : Lay M) (ho : o = 18 ∨ o = 28) : mN M (o + 5) = 549 := by
  rcases ho with rfl | rfl
  · exact ln_23 h
  · exact ln_33 h
theorem lo_6 {M : Mem} {o : Nat} (h : Lay M) (ho : o = 18 ∨ o = 28) : mK M (o + 6) = 21 := by
  rcases ho with rfl | rfl
  · exact lk_24 h
  · exact lk_34 h
theorem lon_6 {M : Mem} {o : Nat} (h : Lay M) (ho : o = 18 ∨ o = 28) : mN M (o + 6) = 12 := by
  rcases ho with rfl | rfl
  · exact ln_24 h
  · exact ln_34 h
theorem lo_7 {M : Mem} {o : Nat} (h : Lay M) (ho : o = 18 ∨ o = 28) : mK M (o + 7) = 21 := by
  rcases ho with rfl | rfl
  · exact lk_25 h
  · exact lk_35 h
theorem lon_7 {M : Mem} {o : Nat} (h : Lay M) (ho : o = 18 ∨ o = 28) : mN M (o + 7) = 12 := by
  rcases ho with rfl | rfl
  · exact ln_25 h
  · exact ln_35 h
theorem lo_8 {M : Mem} {o : Nat} (h : Lay M) (ho : o = 18 ∨ o = 28) : mK M (o + 8) = 21 := by
  rcases ho with rfl | rfl
  · exact lk_26 h
  · exact lk_36 h
theorem lon_8 {M : Mem} {o : Nat} (h : Lay M) (ho : o = 18 ∨ o = 28) : mN M (o + 8) = 12 := by
  rcases ho with rfl | rfl
  · exact ln_26 h
  · exact ln_36 h
theorem lo_9 {M : Mem} {o : Nat} (h : Lay M) (ho : o = 18 ∨ o = 28) : mK M (o + 9) = 21 := by
  rcases ho with rfl | rfl
  · exact lk_27 h
  · exact lk_37 h
theorem lon_9 {M : Mem} {o : Nat} (h : Lay M) (ho : o = 18 ∨ o = 28) : mN M (o + 9) = 60 := by
  rcases ho with rfl | rfl
  · exact ln_27 h
  · exact ln_37 h
def FX (t j : Nat) (C nm ds : String) (f : Mem → Nat → Value) : Prop := (1 ≤ t ∧ t ≤ 12 ∧ j < (vmQ t).2.2 ∧ ((vmQ t).2.1 j).1 = C ∧ ((vmQ t).2.1 j).2.1 = nm ∧ ((vmQ t).2.1 j).2.2.1 = ds) ∧ ∀ (M : Mem) a, xval M a j (xty t j) = f M a
variable {P : Mem → Prop} {k : MI} {pc : Nat} {lv : List (Nat × Value)} {st : List Value} {M z : Mem} {Q : xQ} {X : xX}
theorem Z_geti {a t j index : Nat} {C nm ds : String} (hd : decode (kCC k) pc = .ok (.getfield index, 3)) (hl : Cond.fieldLink (kOwn k) index C nm ds ∈ xTs) (ht : mK M a = t) (hf : FX t j C nm ds (fun M a => .int (mI M a j))) (kk : VV P k (pc + 3) lv (.int (mI M a j) :: st) M z Q X) : VV P k pc lv (.ref a :: st) M z Q X := Y_getf hd hl ht hf.1.1 hf.1.2.1 hf.1.2.2.1 hf.1.2.2.2 (hf.2 M a) kk
theorem Z_getl {a t j index : Nat} {C nm ds : String} (hd : decode (kCC k) pc = .ok (.getfield index, 3)) (hl : Cond.fieldLink (kOwn k) index C nm ds ∈ xTs) (ht : mK M a = t) (hf : FX t j C nm ds (fun M a => .long (mL M a j))) (kk : VV P k (pc + 3) lv (.long (mL M a j) :: st) M z Q X) : VV P k pc lv (.ref a :: st) M z Q X := Y_getf hd hl ht hf.1.1 hf.1.2.1 hf.1.2.2.1 hf.1.2.2.2 (hf.2 M a) kk
theorem Z_getd {a t j index : Nat} {C nm ds : String} (hd : decode (kCC k) pc = .ok (.getfield index, 3)) (hl : Cond.fieldLink (kOwn k) index C nm ds ∈ xTs) (ht : mK M a = t) (hf : FX t j C nm ds (fun M a => .double (mD M a j))) (kk : VV P k (pc + 3) lv (.double (mD M a j) :: st) M z Q X) : VV P k pc lv (.ref a :: st) M z Q X := Y_getf hd hl ht hf.1.1 hf.1.2.1 hf.1.2.2.1 hf.1.2.2.2 (hf.2 M a) kk
theorem Z_getr {a b t j index : Nat} {C nm ds : String} (hd : decode (kCC k) pc = .ok (.getfield index, 3)) (hl : Cond.fieldLink (kOwn k) index C nm ds ∈ xTs) (ht : mK M a = t) (hf : FX t j C nm ds (fun M a => oref (mR M a j))) (hm : mR M a j = some b) (kk : VV P k (pc + 3) lv (.ref b :: st) M z Q X) : VV P k pc lv (.ref a :: st) M z Q X := Y_getf hd hl ht hf.1.1 hf.1.2.1 hf.1.2.2.1 hf.1.2.2.2 (by have e := hf.2 M a; dsimp only at e; rw [e, hm]; rfl) kk
theorem Z_puti {a t j index : Nat} {C nm ds : String} {v : Int32} (hd : decode (kCC k) pc = .ok (.putfield index, 3)) (hl : Cond.fieldLink (kOwn k) index C nm ds ∈ xTs) (ht : mK M a = t) (hf : FX t j C nm ds (fun M a => .int (mI M a j))) (hfin : ((vmQ t).2.1 j).2.2.2 = false ∨ ((kY k).name = "<init>" ∧ C = kOwn k)) (hty : xty t j = .int) (kk : VV P k (pc + 3) lv st (sI M a j v) z Q X) : VV P k pc lv (.int v :: .ref a :: st) M z Q X := Y_puti hd hl ht hf.1.1 hf.1.2.1 hf.1.2.2.1 hf.1.2.2.2 hfin (fun M' => hf.2 M' a) (by rw [hty]; exact ⟨rfl, rfl⟩) kk
theorem Z_putc {a t j index : Nat} {C nm ds : String} {v : Int32} (hd : decode (kCC k) pc = .ok (.putfield index, 3)) (hl : Cond.fieldLink (kOwn k) index C nm ds ∈ xTs) (ht : mK M a = t) (hf : FX t j C nm ds (fun M a => .int (mI M a j))) (hfin : ((vmQ t).2.1 j).2.2.2 = false ∨ ((kY k).name = "<init>" ∧ C = kOwn k)) (hty : xty t j = .char) (hn : isCh v) (kk : VV P k (pc + 3) lv st (sI M a j v) z Q X) : VV P k pc lv (.int v :: .ref a :: st) M z Q X := Y_puti hd hl ht hf.1.1 hf.1.2.1 hf.1.2.2.1 hf.1.2.2.2 hfin (fun M' => hf.2 M' a) (by rw [hty]; exact ⟨nar_ch hn, fit_ch hn⟩) kk
theorem Z_putz {a t j index : Nat} {C nm ds : String} {v : Int32} (hd : decode (kCC k) pc = .ok (.putfield index, 3)) (hl : Cond.fieldLink (kOwn k) index C nm ds ∈ xTs) (ht : mK M a = t) (hf : FX t j C nm ds (fun M a => .int (mI M a j))) (hfin : ((vmQ t).2.1 j).2.2.2 = false ∨ ((kY k).name = "<init>" ∧ C = kOwn k)) (hty : xty t j = .boolean) (hn : isBo v) (kk : VV P k (pc + 3) lv st (sI M a j v) z Q X) : VV P k pc lv (.int v :: .ref a :: st) M z Q X := Y_puti hd hl ht hf.1.1 hf.1.2.1 hf.1.2.2.1 hf.1.2.2.2 hfin (fun M' => hf.2 M' a) (by rw [hty]; exact ⟨nar_bo hn, fit_bo hn⟩) kk
theorem Z_putl {a t j index : Nat} {C nm ds : String} {v : Int64} (hd : decode (kCC k) pc = .ok (.putfield index, 3)) (hl : Cond.fieldLink (kOwn k) index C nm ds ∈ xTs) (ht : mK M a = t) (hf : FX t j C nm ds (fun M a => .long (mL M a j))) (hfin : ((vmQ t).2.1 j).2.2.2 = false ∨ ((kY k).name = "<init>" ∧ C = kOwn k)) (hty : xty t j = .long) (kk : VV P k (pc + 3) lv st (sL M a j v) z Q X) : VV P k pc lv (.long v :: .ref a :: st) M z Q X := Y_putl hd hl ht hf.1.1 hf.1.2.1 hf.1.2.2.1 hf.1.2.2.2 hfin hty kk
theorem Z_putd {a t j index : Nat} {C nm ds : String} {v : UInt64} (hd : decode (kCC k) pc = .ok (.putfield index, 3)) (hl : Cond.fieldLink (kOwn k) index C nm ds ∈ xTs) (ht : mK M a = t) (hf : FX t j C nm ds (fun M a => .double (mD M a j))) (hfin : ((vmQ t).2.1 j).2.2.2 = false ∨ ((kY k).name = "<init>" ∧ C = kOwn k)) (hty : xty t j = .double) (kk : VV P k (pc + 3) lv st (sD M a j v) z Q X) : VV P k pc lv (.double v :: .ref a :: st) M z Q X := Y_putd hd hl ht hf.1.1 hf.1.2.1 hf.1.2.2.1 hf.1.2.2.2 hfin hty kk
theorem Z_putr {a b t j index : Nat} {C nm ds : String} (hd : decode (kCC k) pc = .ok (.putfield index, 3)) (hl : Cond.fieldLink (kOwn k) index C nm ds ∈ xTs) (ht : mK M a = t) (hf : FX t j C nm ds (fun M a => oref (mR M a j))) (hfin : ((vmQ t).2.1 j).2.2.2 = false ∨ ((kY k).name = "<init>" ∧ C = kOwn k)) (hty : (∃ n, xty t j = .object n) ∨ ∃ t2, xty t j = .array t2) (kk : VV P k (pc + 3) lv st (sR M a j (some b)) z Q X) : VV P k pc lv (.ref b :: .ref a :: st) M z Q X := Y_putr hd hl ht hf.1.1 hf.1.2.1 hf.1.2.2.1 hf.1.2.2.2 hfin hty kk
def kIV (k' : MI) (n : Nat) : Prop := Cond.instanceMethod (kY k') ∈ xTs ∧ Cond.selects (kY k').cls (kY k') (kY k') ∈ xTs ∧ kHd k' ∈ xTs ∧ kHH k' = [] ∧ Cond.initialized (kY k').cls ∈ xTs ∧ kOK k' n
def kII (k' : MI) (n : Nat) : Prop := Cond.instanceMethod (kY k') ∈ xTs ∧ kHd k' ∈ xTs ∧ kHH k' = [] ∧ kRet k' = none ∧ Cond.initialized (kY k').cls ∈ xTs ∧ kOK k' n ∧ (kY k').name = "<init>"
def kIS (k' : MI) (n : Nat) : Prop := Cond.static (kY k') ∈ xTs ∧ kHd k' ∈ xTs ∧ Cond.initialized (kY k').cls ∈ xTs ∧ kOK k' n
theorem hd_of {k' : MI} (hh : kHH k' = []) (h : Cond.code (kY k') (kCC k') (kNL k') (kRet k') ∈ xTs) : kHd k' ∈ xTs := by rw [kHd_of (hh := hh)]; exact h
theorem hdw_of {k' : MI} (hh : kHH k' ≠ []) (h : Cond.codeWith (kY k') (kCC k') (kNL k') (kRet k') (kHH k') ∈ xTs) : kHd k' ∈ xTs := by unfold kHd; rw [if_neg hh]; exact h
theorem C_V0o {k' : MI} {a t index : Nat} {M1 : Mem} {P' : Mem → Prop} (hd : decode (kCC k) pc = .ok (.invokevirtual index, 3)) (hl : Cond.methodLink (kOwn k) index (kY k') ∈ xTs) (hb : kIV k' 0) (ht : mK M a = t) (ht1 : 1 ≤ t ∧ t ≤ 12) (hC : (vmQ t).1 = (kY k').cls) (hcat : (st.map fun v => v.category).sum ≤ 8) (hdep : kDep k' + 1 ≤ kDep k) (hloc : 8 + (kNL k' + 11) + kLoc k' ≤ kLoc k) (hv : CC P' k' (.ref a :: []) M M1 (Qv none M1) xF) (kk : VV P k (pc + 3) lv st M1 z Q X) : VV P k pc lv (.ref a :: st) M z Q X := Y_callV0 hd hl hb.1 hb.2.1 hb.2.2.1 hb.2.2.2.1 hb.2.2.2.2.1 hb.2.2.2.2.2 ht ht1 hC hcat hdep hloc hv kk
theorem C_V0r {k' : MI} {a t index : Nat} {M1 : Mem} {P' : Mem → Prop} (hd : decode (kCC k) pc = .ok (.invokevirtual index, 3)) (hl : Cond.methodLink (kOwn k) index (kY k') ∈ xTs) (hb : kIV k' 0) (ht : mK M a = t) (ht1 : 1 ≤ t ∧ t ≤ 12) (hC : (vmQ t).1 = (kY k').cls) (hcat : (st.map fun v => v.category).sum ≤ 8) (hdep : kDep k' + 1 ≤ kDep k) (hloc : 8 + (kNL k' + 11) + kLoc k' ≤ kLoc k) {v : Value} (hv : CC P' k' (.ref a :: []) M M1 (Qv (some v) M1) xF) (kk : VV P k (pc + 3) lv (v :: st) M1 z Q X) : VV P k pc lv (.ref a :: st) M z Q X := Y_callV0 hd hl hb.1 hb.2.1 hb.2.2.1 hb.2.2.2.1 hb.2.2.2.2.1 hb.2.2.2.2.2 ht ht1 hC hcat hdep hloc hv kk
theorem C_V0x {k' : MI} {a t index : Nat} {M1 : Mem} {P' : Mem → Prop} (hd : decode (kCC k) pc = .ok (.invokevirtual index, 3)) (hl : Cond.methodLink (kOwn k) index (kY k') ∈ xTs) (hb : kIV k' 0) (ht : mK M a = t) (ht1 : 1 ≤ t ∧ t ≤ 12) (hC : (vmQ t).1 = (kY k').cls) (hcat : (st.map fun v => v.category).sum ≤ 8) (hdep : kDep k' + 1 ≤ kDep k) (hloc : 8 + (kNL k' + 11) + kLoc k' ≤ kLoc k) {E : String} (hv : CC P' k' (.ref a :: []) M M1 qF (Xv E M1)) (kk : VVT P k pc lv E M1 z Q X) : VV P k pc lv (.ref a :: st) M z Q X := Y_callV0x hd hl hb.1 hb.2.1 hb.2.2.1 hb.2.2.2.1 hb.2.2.2.2.1 hb.2.2.2.2.2 ht ht1 hC hcat hdep hloc hv kk
theorem C_I0o {k' : MI} {a index : Nat} {M1 : Mem} {P' : Mem → Prop} (hd : decode (kCC k) pc = .ok (.invokespecial index, 3)) (hl : Cond.methodLink (kOwn k) index (kY k') ∈ xTs) (hb : kII k' 0) (hcat : (st.map fun v => v.category).sum ≤ 8) (hdep : kDep k' + 1 ≤ kDep k) (hloc : 8 + (kNL k' + 11) + kLoc k' ≤ kLoc k) (hv : CC P' k' (.ref a :: []) M M1 (Qv none M1) xF) (kk : VV P k (pc + 3) lv st M1 z Q X) : VV P k pc lv (.ref a :: st) M z Q X := Y_callI0 hd hl hb.1 hb.2.1 hb.2.2.1 hb.2.2.2.1 hb.2.2.2.2.1 hb.2.2.2.2.2.1 hb.2.2.2.2.2.2 hcat hdep hloc hv kk
theorem C_I0r {k' : MI} {a index : Nat} {M1 : Mem} {P' : Mem → Prop} (hd : decode (kCC k) pc = .ok (.invokespecial index, 3)) (hl : Cond.methodLink (kOwn k) index (kY k') ∈ xTs) (hb : kII k' 0) (hcat : (st.map fun v => v.category).sum ≤ 8) (hdep : kDep k' + 1 ≤ kDep k) (hloc : 8 + (kNL k' + 11) + kLoc k' ≤ kLoc k) {v : Value} (hv : CC P' k' (.ref a :: []) M M1 (Qv (some v) M1) xF) (kk : VV P k (pc + 3) lv (v :: st) M1 z Q X) : VV P k pc lv (.ref a :: st) M z Q X := Y_callI0 hd hl hb.1 hb.2.1 hb.2.2.1 hb.2.2.2.1 hb.2.2.2.2.1 hb.2.2.2.2.2.1 hb.2.2.2.2.2.2 hcat hdep hloc hv kk
theorem C_I0x {k' : MI} {a index : Nat} {M1 : Mem} {P' : Mem → Prop} (hd : decode (kCC k) pc = .ok (.invokespecial index, 3)) (hl : Cond.methodLink (kOwn k) index (kY k') ∈ xTs) (hb : kII k' 0) (hcat : (st.map fun v => v.category).sum ≤ 8) (hdep : kDep k' + 1 ≤ kDep k) (hloc : 8 + (kNL k' + 11) + kLoc k' ≤ kLoc k) {E : String} (hv : CC P' k' (.ref a :: []) M M1 qF (Xv E M1)) (kk : VVT P k pc lv E M1 z Q X) : VV P k pc lv (.ref a :: st) M z Q X := Y_callI0x hd hl hb.1 hb.2.1 hb.2.2.1 hb.2.2.2.1 hb.2.2.2.2.1 hb.2.2.2.2.2.1 hb.2.2.2.2.2.2 hcat hdep hloc hv kk
theorem C_S0o {k' : MI} {index : Nat} {M1 : Mem} {P' : Mem → Prop} (hd : decode (kCC k) pc = .ok (.invokestatic index, 3)) (hl : Cond.methodLink (kOwn k) index (kY k') ∈ xTs) (hb : kIS k' 0) (hcat : (st.map fun v => v.category).sum ≤ 8) (hdep : kDep k' + 1 ≤ kDep k) (hloc : 8 + (kNL k' + 11) + kLoc k' ≤ kLoc k) (hv : CC P' k' ([]) M M1 (Qv none M1) xF) (kk : VV P k (pc + 3) lv st M1 z Q X) : VV P k pc lv (st) M z Q X := Y_callS0 hd hl hb.1 hb.2.1 hb.2.2.1 hb.2.2.2 hcat hdep hloc hv kk
theorem C_S0r {k' : MI} {index : Nat} {M1 : Mem} {P' : Mem → Prop} (hd : decode (kCC k) pc = .ok (.invokestatic index, 3)) (hl : Cond.methodLink (kOwn k) index (kY k') ∈ xTs) (hb : kIS k' 0) (hcat : (st.map fun v => v.category).sum ≤ 8) (hdep : kDep k' + 1 ≤ kDep k) (hloc : 8 + (kNL k' + 11) + kLoc k' ≤ kLoc k) {v : Value} (hv : CC P' k' ([]) M M1 (Qv (some v) M1) xF) (kk : VV P k (pc + 3) lv (v :: st) M1 z Q X) : VV P k pc lv (st) M z Q X := Y_callS0 hd hl hb.1 hb.2.1 hb.2.2.1 hb.2.2.2 hcat hdep hloc hv kk
theorem C_S0x {k' : MI} {index : Nat} {M1 : Mem} {P' : Mem → Prop} (hd : decode (kCC k) pc = .ok (.invokestatic index, 3)) (hl : Cond.methodLink (kOwn k) index (kY k') ∈ xTs) (hb : kIS k' 0) (hcat : (st.map fun v => v.category).sum ≤ 8) (hdep : kDep k' + 1 ≤ kDep k) (hloc : 8 + (kNL k' + 11) + kLoc k' ≤ kLoc k) {E : String} (hv : CC P' k' ([]) M M1 qF (Xv E M1)) (kk : VVT P k pc lv E M1 z Q X) : VV P k pc lv (st) M z Q X := Y_callS0x hd hl hb.1 hb.2.1 hb.2.2.1 hb.2.2.2 hcat hdep hloc hv kk
theorem C_N0o {k' : MI} {index : Nat} {M1 : Mem} {P' : Mem → Prop} (hd : decode (kCC k) pc = .ok (.invokestatic index, 3)) {host : String} (hl : Cond.methodLinkNest (kOwn k) index (kY k') host ∈ xT2) (hb : kIS k' 0) (hcat : (st.map fun v => v.category).sum ≤ 8) (hdep : kDep k' + 1 ≤ kDep k) (hloc : 8 + (kNL k' + 11) + kLoc k' ≤ kLoc k) (hv : CC P' k' ([]) M M1 (Qv none M1) xF) (kk : VV P k (pc + 3) lv st M1 z Q X) : VV P k pc lv (st) M z Q X := Y_callN0 hd hl hb.1 hb.2.1 hb.2.2.1 hb.2.2.2 hcat hdep hloc hv kk
theorem C_N0r {k' : MI} {index : Nat} {M1 : Mem} {P' : Mem → Prop} (hd : decode (kCC k) pc = .ok (.invokestatic index, 3)) {host : String} (hl : Cond.methodLinkNest (kOwn k) index (kY k') host ∈ xT2) (hb : kIS k' 0) (hcat : (st.map fun v => v.category).sum ≤ 8) (hdep : kDep k' + 1 ≤ kDep k) (hloc : 8 + (kNL k' + 11) + kLoc k' ≤ kLoc k) {v : Value} (hv : CC P' k' ([]) M M1 (Qv (some v) M1) xF) (kk : VV P k (pc + 3) lv (v :: st) M1 z Q X) : VV P k pc lv (st) M z Q X := Y_callN0 hd hl hb.1 hb.2.1 hb.2.2.1 hb.2.2.2 hcat hdep hloc hv kk
theorem C_N0x {k' : MI} {index : Nat} {M1 : Mem} {P' : Mem → Prop} (hd : decode (kCC k) pc = .ok (.invokestatic index, 3)) {host : String} (hl : Cond.methodLinkNest (kOwn k) index (kY k') host ∈ xT2) (hb : kIS k' 0) (hcat : (st.map fun v => v.category).sum ≤ 8) (hdep : kDep k' + 1 ≤ kDep k) (hloc : 8 + (kNL k' + 11) + kLoc k' ≤ kLoc k) {E : String} (hv : CC P' k' ([]) M M1 qF (Xv E M1)) (kk : VVT P k pc lv E M1 z Q X) : VV P k pc lv (st) M z Q X := Y_callN0x hd hl hb.1 hb.2.1 hb.2.2.1 hb.2.2.2 hcat hdep hloc hv kk
theorem C_V1o {k' : MI} {a t index : Nat} {b1 : Value} {M1 : Mem} {P' : Mem → Prop} (hd : decode (kCC k) pc = .ok (.invokevirtual index, 3)) (hl : Cond.methodLink (kOwn k) index (kY k') ∈ xTs) (hb : kIV k' 1) (ht : mK M a = t) (ht1 : 1 ≤ t ∧ t ≤ 12) (hC : (vmQ t).1 = (kY k').cls) (hcat : (st.map fun v => v.category).sum ≤ 8) (hdep : kDep k' + 1 ≤ kDep k) (hloc : 8 + (kNL k' + 11) + kLoc k' ≤ kLoc k) (hv : CC P' k' (.ref a :: [b1]) M M1 (Qv none M1) xF) (kk : VV P k (pc + 3) lv st M1 z Q X) : VV P k pc lv (b1 :: .ref a :: st) M z Q X := Y_callV1 hd hl hb.1 hb.2.1 hb.2.2.1 hb.2.2.2.1 hb.2.2.2.2.1 hb.2.2.2.2.2 ht ht1 hC hcat hdep hloc hv kk
theorem C_V1r {k' : MI} {a t index : Nat} {b1 : Value} {M1 : Mem} {P' : Mem → Prop} (hd : decode (kCC k) pc = .ok (.invokevirtual index, 3)) (hl : Cond.methodLink (kOwn k) index (kY k') ∈ xTs) (hb : kIV k' 1) (ht : mK M a = t) (ht1 : 1 ≤ t ∧ t ≤ 12) (hC : (vmQ t).1 = (kY k').cls) (hcat : (st.map fun v => v.category).sum ≤ 8) (hdep : kDep k' + 1 ≤ kDep k) (hloc : 8 + (kNL k' + 11) + kLoc k' ≤ kLoc k) {v : Value} (hv : CC P' k' (.ref a :: [b1]) M M1 (Qv (some v) M1) xF) (kk : VV P k (pc + 3) lv (v :: st) M1 z Q X) : VV P k pc lv (b1 :: .ref a :: st) M z Q X := Y_callV1 hd hl hb.1 hb.2.1 hb.2.2.1 hb.2.2.2.1 hb.2.2.2.2.1 hb.2.2.2.2.2 ht ht1 hC hcat hdep hloc hv kk
theorem C_V1x {k' : MI} {a t index : Nat} {b1 : Value} {M1 : Mem} {P' : Mem → Prop} (hd : decode (kCC k) pc = .ok (.invokevirtual index, 3)) (hl : Cond.methodLink (kOwn k) index (kY k') ∈ xTs) (hb : kIV k' 1) (ht : mK M a = t) (ht1 : 1 ≤ t ∧ t ≤ 12) (hC : (vmQ t).1 = (kY k').cls) (hcat : (st.map fun v => v.category).sum ≤ 8) (hdep : kDep k' + 1 ≤ kDep k) (hloc : 8 + (kNL k' + 11) + kLoc k' ≤ kLoc k) {E : String} (hv : CC P' k' (.ref a :: [b1]) M M1 qF (Xv E M1)) (kk : VVT P k pc lv E M1 z Q X) : VV P k pc lv (b1 :: .ref a :: st) M z Q X := Y_callV1x hd hl hb.1 hb.2.1 hb.2.2.1 hb.2.2.2.1 hb.2.2.2.2.1 hb.2.2.2.2.2 ht ht1 hC hcat hdep hloc hv kk
theorem C_I1o {k' : MI} {a index : Nat} {b1 : Value} {M1 : Mem} {P' : Mem → Prop} (hd : decode (kCC k) pc = .ok (.invokespecial index, 3)) (hl : Cond.methodLink (kOwn k) index (kY k') ∈ xTs) (hb : kII k' 1) (hcat : (st.map fun v => v.category).sum ≤ 8) (hdep : kDep k' + 1 ≤ kDep k) (hloc : 8 + (kNL k' + 11) + kLoc k' ≤ kLoc k) (hv : CC P' k' (.ref a :: [b1]) M M1 (Qv none M1) xF) (kk : VV P k (pc + 3) lv st M1 z Q X) : VV P k pc lv (b1 :: .ref a :: st) M z Q X := Y_callI1 hd hl hb.1 hb.2.1 hb.2.2.1 hb.2.2.2.1 hb.2.2.2.2.1 hb.2.2.2.2.2.1 hb.2.2.2.2.2.2 hcat hdep hloc hv kk
theorem C_I1r {k' : MI} {a index : Nat} {b1 : Value} {M1 : Mem} {P' : Mem → Prop} (hd : decode (kCC k) pc = .ok (.invokespecial index, 3)) (hl : Cond.methodLink (kOwn k) index (kY k') ∈ xTs) (hb : kII k' 1) (hcat : (st.map fun v => v.category).sum ≤ 8) (hdep : kDep k' + 1 ≤ kDep k) (hloc : 8 + (kNL k' + 11) + kLoc k' ≤ kLoc k) {v : Value} (hv : CC P' k' (.ref a :: [b1]) M M1 (Qv (some v) M1) xF) (kk : VV P k (pc + 3) lv (v :: st) M1 z Q X) : VV P k pc lv (b1 :: .ref a :: st) M z Q X := Y_callI1 hd hl hb.1 hb.2.1 hb.2.2.1 hb.2.2.2.1 hb.2.2.2.2.1 hb.2.2.2.2.2.1 hb.2.2.2.2.2.2 hcat hdep hloc hv kk
theorem C_I1x {k' : MI} {a index : Nat} {b1 : Value} {M1 : Mem} {P' : Mem → Prop} (hd : decode (kCC k) pc = .ok (.invokespecial index, 3)) (hl : Cond.methodLink (kOwn k) index (kY k') ∈ xTs) (hb : kII k' 1) (hcat : (st.map fun v => v.category).sum ≤ 8) (hdep : kDep k' + 1 ≤ kDep k) (hloc : 8 + (kNL k' + 11) + kLoc k' ≤ kLoc k) {E : String} (hv : CC P' k' (.ref a :: [b1]) M M1 qF (Xv E M1)) (kk : VVT P k pc lv E M1 z Q X) : VV P k pc lv (b1 :: .ref a :: st) M z Q X := Y_callI1x hd hl hb.1 hb.2.1 hb.2.2.1 hb.2.2.2.1 hb.2.2.2.2.1 hb.2.2.2.2.2.1 hb.2.2.2.2.2.2 hcat hdep hloc hv kk
theorem C_S1o {k' : MI} {index : Nat} {b1 : Value} {M1 : Mem} {P' : Mem → Prop} (hd : decode (kCC k) pc = .ok (.invokestatic index, 3)) (hl : Cond.methodLink (kOwn k) index (kY k') ∈ xTs) (hb : kIS k' 1) (hcat : (st.map fun v => v.category).sum ≤ 8) (hdep : kDep k' + 1 ≤ kDep k) (hloc : 8 + (kNL k' + 11) + kLoc k' ≤ kLoc k) (hv : CC P' k' ([b1]) M M1 (Qv none M1) xF) (kk : VV P k (pc + 3) lv st M1 z Q X) : VV P k pc lv (b1 :: st) M z Q X := Y_callS1 hd hl hb.1 hb.2.1 hb.2.2.1 hb.2.2.2 hcat hdep hloc hv kk
theorem C_S1r {k' : MI} {index : Nat} {b1 : Value} {M1 : Mem} {P' : Mem → Prop} (hd : decode (kCC k) pc = .ok (.invokestatic index, 3)) (hl : Cond.methodLink (kOwn k) index (kY k') ∈ xTs) (hb : kIS k' 1) (hcat : (st.map fun v => v.category).sum ≤ 8) (hdep : kDep k' + 1 ≤ kDep k) (hloc : 8 + (kNL k' + 11) + kLoc k' ≤ kLoc k) {v : Value} (hv : CC P' k' ([b1]) M M1 (Qv (some v) M1) xF) (kk : VV P k (pc + 3) lv (v :: st) M1 z Q X) : VV P k pc lv (b1 :: st) M z Q X := Y_callS1 hd hl hb.1 hb.2.1 hb.2.2.1 hb.2.2.2 hcat hdep hloc hv kk
theorem C_S1x {k' : MI} {index : Nat} {b1 : Value} {M1 : Mem} {P' : Mem → Prop} (hd : decode (kCC k) pc = .ok (.invokestatic index, 3)) (hl : Cond.methodLink (kOwn k) index (kY k') ∈ xTs) (hb : kIS k' 1) (hcat : (st.map fun v => v.category).sum ≤ 8) (hdep : kDep k' + 1 ≤ kDep k) (hloc : 8 + (kNL k' + 11) + kLoc k' ≤ kLoc k) {E : String} (hv : CC P' k' ([b1]) M M1 qF (Xv E M1)) (kk : VVT P k pc lv E M1 z Q X) : VV P k pc lv (b1 :: st) M z Q X := Y_callS1x hd hl hb.1 hb.2.1 hb.2.2.1 hb.2.2.2 hcat hdep hloc hv kk
theorem C_N1o {k' : MI} {index : Nat} {b1 : Value} {M1 : Mem} {P' : Mem → Prop} (hd : decode (kCC k) pc = .ok (.invokestatic index, 3)) {host : String} (hl : Cond.methodLinkNest (kOwn k) index (kY k') host ∈ xT2) (hb : kIS k' 1) (hcat : (st.map fun v => v.category).sum ≤ 8) (hdep : kDep k' + 1 ≤ kDep k) (hloc : 8 + (kNL k' + 11) + kLoc k' ≤ kLoc k) (hv : CC P' k' ([b1]) M M1 (Qv none M1) xF) (kk : VV P k (pc + 3) lv st M1 z Q X) : VV P k pc lv (b1 :: st) M z Q X := Y_callN1 hd hl hb.1 hb.2.1 hb.2.2.1 hb.2.2.2 hcat hdep hloc hv kk
theorem C_N1r {k' : MI} {index : Nat} {b1 : Value} {M1 : Mem} {P' : Mem → Prop} (hd : decode (kCC k) pc = .ok (.invokestatic index, 3)) {host : String} (hl : Cond.methodLinkNest (kOwn k) index (kY k') host ∈ xT2) (hb : kIS k' 1) (hcat : (st.map fun v => v.category).sum ≤ 8) (hdep : kDep k' + 1 ≤ kDep k) (hloc : 8 + (kNL k' + 11) + kLoc k' ≤ kLoc k) {v : Value} (hv : CC P' k' ([b1]) M M1 (Qv (some v) M1) xF) (kk : VV P k (pc + 3) lv (v :: st) M1 z Q X) : VV P k pc lv (b1 :: st) M z Q X := Y_callN1 hd hl hb.1 hb.2.1 hb.2.2.1 hb.2.2.2 hcat hdep hloc hv kk
theorem C_N1x {k' : MI} {index : Nat} {b1 : Value} {M1 : Mem} {P' : Mem → Prop} (hd : decode (kCC k) pc = .ok (.invokestatic index, 3)) {host : String} (hl : Cond.methodLinkNest (kOwn k) index (kY k') host ∈ xT2) (hb : kIS k' 1) (hcat : (st.map fun v => v.category).sum ≤ 8) (hdep : kDep k' + 1 ≤ kDep k) (hloc : 8 + (kNL k' + 11) + kLoc k' ≤ kLoc k) {E : String} (hv : CC P' k' ([b1]) M M1 qF (Xv E M1)) (kk : VVT P k pc lv E M1 z Q X) : VV P k pc lv (b1 :: st) M z Q X := Y_callN1x hd hl hb.1 hb.2.1 hb.2.2.1 hb.2.2.2 hcat hdep hloc hv kk
theorem C_V2o {k' : MI} {a t index : Nat} {b1 b2 : Value} {M1 : Mem} {P' : Mem → Prop} (hd : decode (kCC k) pc = .ok (.invokevirtual index, 3)) (hl : Cond.methodLink (kOwn k) index (kY k') ∈ xTs) (hb : kIV k' 2) (ht : mK M a = t) (ht1 : 1 ≤ t ∧ t ≤ 12) (hC : (vmQ t).1 = (kY k').cls) (hcat : (st.map fun v => v.category).sum ≤ 8) (hdep : kDep k' + 1 ≤ kDep k) (hloc : 8 + (kNL k' + 11) + kLoc k' ≤ kLoc k) (hv : CC P' k' (.ref a :: [b1, b2]) M M1 (Qv none M1) xF) (kk : VV P k (pc + 3) lv st M1 z Q X) : VV P k pc lv (b2 :: b1 :: .ref a :: st) M z Q X := Y_callV2 hd hl hb.1 hb.2.1 hb.2.2.1 hb.2.2.2.1 hb.2.2.2.2.1 hb.2.2.2.2.2 ht ht1 hC hcat hdep hloc hv kk
theorem C_V2r {k' : MI} {a t index : Nat} {b1 b2 : Value} {M1 : Mem} {P' : Mem → Prop} (hd : decode (kCC k) pc = .ok (.invokevirtual index, 3)) (hl : Cond.methodLink (kOwn k) index (kY k') ∈ xTs) (hb : kIV k' 2) (ht : mK M a = t) (ht1 : 1 ≤ t ∧ t ≤ 12) (hC : (vmQ t).1 = (kY k').cls) (hcat : (st.map fun v => v.category).sum ≤ 8) (hdep : kDep k' + 1 ≤ kDep k) (hloc : 8 + (kNL k' + 11) + kLoc k' ≤ kLoc k) {v : Value} (hv : CC P' k' (.ref a :: [b1, b2]) M M1 (Qv (some v) M1) xF) (kk : VV P k (pc + 3) lv (v :: st) M1 z Q X) : VV P k pc lv (b2 :: b1 :: .ref a :: st) M z Q X := Y_callV2 hd hl hb.1 hb.2.1 hb.2.2.1 hb.2.2.2.1 hb.2.2.2.2.1 hb.2.2.2.2.2 ht ht1 hC hcat hdep hloc hv kk
theorem C_V2x {k' : MI} {a t index : Nat} {b1 b2 : Value} {M1 : Mem} {P' : Mem → Prop} (hd : decode (kCC k) pc = .ok (.invokevirtual index, 3)) (hl : Cond.methodLink (kOwn k) index (kY k') ∈ xTs) (hb : kIV k' 2) (ht : mK M a = t) (ht1 : 1 ≤ t ∧ t ≤ 12) (hC : (vmQ t).1 = (kY k').cls) (hcat : (st.map fun v => v.category).sum ≤ 8) (hdep : kDep k' + 1 ≤ kDep k) (hloc : 8 + (kNL k' + 11) + kLoc k' ≤ kLoc k) {E : String} (hv : CC P' k' (.ref a :: [b1, b2]) M M1 qF (Xv E M1)) (kk : VVT P k pc lv E M1 z Q X) : VV P k pc lv (b2 :: b1 :: .ref a :: st) M z Q X := Y_callV2x hd hl hb.1 hb.2.1 hb.2.2.1 hb.2.2.2.1 hb.2.2.2.2.1 hb.2.2.2.2.2 ht ht1 hC hcat hdep hloc hv kk
theorem C_I2o {k' : MI} {a index : Nat} {b1 b2 : Value} {M1 : Mem} {P' : Mem → Prop} (hd : decode (kCC k) pc = .ok (.invokespecial index, 3)) (hl : Cond.methodLink (kOwn k) index (kY k') ∈ xTs) (hb : kII k' 2) (hcat : (st.map fun v => v.category).sum ≤ 8) (hdep : kDep k' + 1 ≤ kDep k) (hloc : 8 + (kNL k' + 11) + kLoc k' ≤ kLoc k) (hv : CC P' k' (.ref a :: [b1, b2]) M M1 (Qv none M1) xF) (kk : VV P k (pc + 3) lv st M1 z Q X) : VV P k pc lv (b2 :: b1 :: .ref a :: st) M z Q X := Y_callI2 hd hl hb.1 hb.2.1 hb.2.2.1 hb.2.2.2.1 hb.2.2.2.2.1 hb.2.2.2.2.2.1 hb.2.2.2.2.2.2 hcat hdep hloc hv kk
theorem C_I2r {k' : MI} {a index : Nat} {b1 b2 : Value} {M1 : Mem} {P' : Mem → Prop} (hd : decode (kCC k) pc = .ok (.invokespecial index, 3)) (hl : Cond.methodLink (kOwn k) index (kY k') ∈ xTs) (hb : kII k' 2) (hcat : (st.map fun v => v.category).sum ≤ 8) (hdep : kDep k' + 1 ≤ kDep k) (hloc : 8 + (kNL k' + 11) + kLoc k' ≤ kLoc k) {v : Value} (hv : CC P' k' (.ref a :: [b1, b2]) M M1 (Qv (some v) M1) xF) (kk : VV P k (pc + 3) lv (v :: st) M1 z Q X) : VV P k pc lv (b2 :: b1 :: .ref a :: st) M z Q X := Y_callI2 hd hl hb.1 hb.2.1 hb.2.2.1 hb.2.2.2.1 hb.2.2.2.2.1 hb.2.2.2.2.2.1 hb.2.2.2.2.2.2 hcat hdep hloc hv kk
theorem C_I2x {k' : MI} {a index : Nat} {b1 b2 : Value} {M1 : Mem} {P' : Mem → Prop} (hd : decode (kCC k) pc = .ok (.invokespecial index, 3)) (hl : Cond.methodLink (kOwn k) index (kY k') ∈ xTs) (hb : kII k' 2) (hcat : (st.map fun v => v.category).sum ≤ 8) (hdep : kDep k' + 1 ≤ kDep k) (hloc : 8 + (kNL k' + 11) + kLoc k' ≤ kLoc k) {E : String} (hv : CC P' k' (.ref a :: [b1, b2]) M M1 qF (Xv E M1)) (kk : VVT P k pc lv E M1 z Q X) : VV P k pc lv (b2 :: b1 :: .ref a :: st) M z Q X := Y_callI2x hd hl hb.1 hb.2.1 hb.2.2.1 hb.2.2.2.1 hb.2.2.2.2.1 hb.2.2.2.2.2.1 hb.2.2.2.2.2.2 hcat hdep hloc hv kk
theorem C_S2o {k' : MI} {index : Nat} {b1 b2 : Value} {M1 : Mem} {P' : Mem → Prop} (hd : decode (kCC k) pc = .ok (.invokestatic index, 3)) (hl : Cond.methodLink (kOwn k) index (kY k') ∈ xTs) (hb : kIS k' 2) (hcat : (st.map fun v => v.category).sum ≤ 8) (hdep : kDep k' + 1 ≤ kDep k) (hloc : 8 + (kNL k' + 11) + kLoc k' ≤ kLoc k) (hv : CC P' k' ([b1, b2]) M M1 (Qv none M1) xF) (kk : VV P k (pc + 3) lv st M1 z Q X) : VV P k pc lv (b2 :: b1 :: st) M z Q X := Y_callS2 hd hl hb.1 hb.2.1 hb.2.2.1 hb.2.2.2 hcat hdep hloc hv kk
theorem C_S2r {k' : MI} {index : Nat} {b1 b2 : Value} {M1 : Mem} {P' : Mem → Prop} (hd : decode (kCC k) pc = .ok (.invokestatic index, 3)) (hl : Cond.methodLink (kOwn k) index (kY k') ∈ xTs) (hb : kIS k' 2) (hcat : (st.map fun v => v.category).sum ≤ 8) (hdep : kDep k' + 1 ≤ kDep k) (hloc : 8 + (kNL k' + 11) + kLoc k' ≤ kLoc k) {v : Value} (hv : CC P' k' ([b1, b2]) M M1 (Qv (some v) M1) xF) (kk : VV P k (pc + 3) lv (v :: st) M1 z Q X) : VV P k pc lv (b2 :: b1 :: st) M z Q X := Y_callS2 hd hl hb.1 hb.2.1 hb.2.2.1 hb.2.2.2 hcat hdep hloc hv kk
theorem C_S2x {k' : MI} {index : Nat} {b1 b2 : Value} {M1 : Mem} {P' : Mem → Prop} (hd : decode (kCC k) pc = .ok (.invokestatic index, 3)) (hl : Cond.methodLink (kOwn k) index (kY k') ∈ xTs) (hb : kIS k' 2) (hcat : (st.map fun v => v.category).sum ≤ 8) (hdep : kDep k' + 1 ≤ kDep k) (hloc : 8 + (kNL k' + 11) + kLoc k' ≤ kLoc k) {E : String} (hv : CC P' k' ([b1, b2]) M M1 qF (Xv E M1)) (kk : VVT P k pc lv E M1 z Q X) : VV P k pc lv (b2 :: b1 :: st) M z Q X := Y_callS2x hd hl hb.1 hb.2.1 hb.2.2.1 hb.2.2.2 hcat hdep hloc hv kk
theorem C_N2o {k' : MI} {index : Nat} {b1 b2 : Value} {M1 : Mem} {P' : Mem → Prop} (hd : decode (kCC k) pc = .ok (.invokestatic index, 3)) {host : String} (hl : Cond.methodLinkNest (kOwn k) index (kY k') host ∈ xT2) (hb : kIS k' 2) (hcat : (st.map fun v => v.category).sum ≤ 8) (hdep : kDep k' + 1 ≤ kDep k) (hloc : 8 + (kNL k' + 11) + kLoc k' ≤ kLoc k) (hv : CC P' k' ([b1, b2]) M M1 (Qv none M1) xF) (kk : VV P k (pc + 3) lv st M1 z Q X) : VV P k pc lv (b2 :: b1 :: st) M z Q X := Y_callN2 hd hl hb.1 hb.2.1 hb.2.2.1 hb.2.2.2 hcat hdep hloc hv kk
theorem C_N2r {k' : MI} {index : Nat} {b1 b2 : Value} {M1 : Mem} {P' : Mem → Prop} (hd : decode (kCC k) pc = .ok (.invokestatic index, 3)) {host : String} (hl : Cond.methodLinkNest (kOwn k) index (kY k') host ∈ xT2) (hb : kIS k' 2) (hcat : (st.map fun v => v.category).sum ≤ 8) (hdep : kDep k' + 1 ≤ kDep k) (hloc : 8 + (kNL k' + 11) + kLoc k' ≤ kLoc k) {v : Value} (hv : CC P' k' ([b1, b2]) M M1 (Qv (some v) M1) xF) (kk : VV P k (pc + 3) lv (v :: st) M1 z Q X) : VV P k pc lv (b2 :: b1 :: st) M z Q X := Y_callN2 hd hl hb.1 hb.2.1 hb.2.2.1 hb.2.2.2 hcat hdep hloc hv kk
theorem C_N2x {k' : MI} {index : Nat} {b1 b2 : Value} {M1 : Mem} {P' : Mem → Prop} (hd : decode (kCC k) pc = .ok (.invokestatic index, 3)) {host : String} (hl : Cond.methodLinkNest (kOwn k) index (kY k') host ∈ xT2) (hb : kIS k' 2) (hcat : (st.map fun v => v.category).sum ≤ 8) (hdep : kDep k' + 1 ≤ kDep k) (hloc : 8 + (kNL k' + 11) + kLoc k' ≤ kLoc k) {E : String} (hv : CC P' k' ([b1, b2]) M M1 qF (Xv E M1)) (kk : VVT P k pc lv E M1 z Q X) : VV P k pc lv (b2 :: b1 :: st) M z Q X := Y_callN2x hd hl hb.1 hb.2.1 hb.2.2.1 hb.2.2.2 hcat hdep hloc hv kk
theorem C_V3o {k' : MI} {a t index : Nat} {b1 b2 b3 : Value} {M1 : Mem} {P' : Mem → Prop} (hd : decode (kCC k) pc = .ok (.invokevirtual index, 3)) (hl : Cond.methodLink (kOwn k) index (kY k') ∈ xTs) (hb : kIV k' 3) (ht : mK M a = t) (ht1 : 1 ≤ t ∧ t ≤ 12) (hC : (vmQ t).1 = (kY k').cls) (hcat : (st.map fun v => v.category).sum ≤ 8) (hdep : kDep k' + 1 ≤ kDep k) (hloc : 8 + (kNL k' + 11) + kLoc k' ≤ kLoc k) (hv : CC P' k' (.ref a :: [b1, b2, b3]) M M1 (Qv none M1) xF) (kk : VV P k (pc + 3) lv st M1 z Q X) : VV P k pc lv (b3 :: b2 :: b1 :: .ref a :: st) M z Q X := Y_callV3 hd hl hb.1 hb.2.1 hb.2.2.1 hb.2.2.2.1 hb.2.2.2.2.1 hb.2.2.2.2.2 ht ht1 hC hcat hdep hloc hv kk
theorem C_V3r {k' : MI} {a t index : Nat} {b1 b2 b3 : Value} {M1 : Mem} {P' : Mem → Prop} (hd : decode (kCC k) pc = .ok (.invokevirtual index, 3)) (hl : Cond.methodLink (kOwn k) index (kY k') ∈ xTs) (hb : kIV k' 3) (ht : mK M a = t) (ht1 : 1 ≤ t ∧ t ≤ 12) (hC : (vmQ t).1 = (kY k').cls) (hcat : (st.map fun v => v.category).sum ≤ 8) (hdep : kDep k' + 1 ≤ kDep k) (hloc : 8 + (kNL k' + 11) + kLoc k' ≤ kLoc k) {v : Value} (hv : CC P' k' (.ref a :: [b1, b2, b3]) M M1 (Qv (some v) M1) xF) (kk : VV P k (pc + 3) lv (v :: st) M1 z Q X) : VV P k pc lv (b3 :: b2 :: b1 :: .ref a :: st) M z Q X := Y_callV3 hd hl hb.1 hb.2.1 hb.2.2.1 hb.2.2.2.1 hb.2.2.2.2.1 hb.2.2.2.2.2 ht ht1 hC hcat hdep hloc hv kk
theorem C_V3x {k' : MI} {a t index : Nat} {b1 b2 b3 : Value} {M1 : Mem} {P' : Mem → Prop} (hd : decode (kCC k) pc = .ok (.invokevirtual index, 3)) (hl : Cond.methodLink (kOwn k) index (kY k') ∈ xTs) (hb : kIV k' 3) (ht : mK M a = t) (ht1 : 1 ≤ t ∧ t ≤ 12) (hC : (vmQ t).1 = (kY k').cls) (hcat : (st.map fun v => v.category).sum ≤ 8) (hdep : kDep k' + 1 ≤ kDep k) (hloc : 8 + (kNL k' + 11) + kLoc k' ≤ kLoc k) {E : String} (hv : CC P' k' (.ref a :: [b1, b2, b3]) M M1 qF (Xv E M1)) (kk : VVT P k pc lv E M1 z Q X) : VV P k pc lv (b3 :: b2 :: b1 :: .ref a :: st) M z Q X := Y_callV3x hd hl hb.1 hb.2.1 hb.2.2.1 hb.2.2.2.1 hb.2.2.2.2.1 hb.2.2.2.2.2 ht ht1 hC hcat hdep hloc hv kk
theorem C_I3o {k' : MI} {a index : Nat} {b1 b2 b3 : Value} {M1 : Mem} {P' : Mem → Prop} (hd : decode (kCC k) pc = .ok (.invokespecial index, 3)) (hl : Cond.methodLink (kOwn k) index (kY k') ∈ xTs) (hb : kII k' 3) (hcat : (st.map fun v => v.category).sum ≤ 8) (hdep : kDep k' + 1 ≤ kDep k) (hloc : 8 + (kNL k' + 11) + kLoc k' ≤ kLoc k) (hv : CC P' k' (.ref a :: [b1, b2, b3]) M M1 (Qv none M1) xF) (kk : VV P k (pc + 3) lv st M1 z Q X) : VV P k pc lv (b3 :: b2 :: b1 :: .ref a :: st) M z Q X := Y_callI3 hd hl hb.1 hb.2.1 hb.2.2.1 hb.2.2.2.1 hb.2.2.2.2.1 hb.2.2.2.2.2.1 hb.2.2.2.2.2.2 hcat hdep hloc hv kk
theorem C_I3r {k' : MI} {a index : Nat} {b1 b2 b3 : Value} {M1 : Mem} {P' : Mem → Prop} (hd : decode (kCC k) pc = .ok (.invokespecial index, 3)) (hl : Cond.methodLink (kOwn k) index (kY k') ∈ xTs) (hb : kII k' 3) (hcat : (st.map fun v => v.category).sum ≤ 8) (hdep : kDep k' + 1 ≤ kDep k) (hloc : 8 + (kNL k' + 11) + kLoc k' ≤ kLoc k) {v : Value} (hv : CC P' k' (.ref a :: [b1, b2, b3]) M M1 (Qv (some v) M1) xF) (kk : VV P k (pc + 3) lv (v :: st) M1 z Q X) : VV P k pc lv (b3 :: b2 :: b1 :: .ref a :: st) M z Q X := Y_callI3 hd hl hb.1 hb.2.1 hb.2.2.1 hb.2.2.2.1 hb.2.2.2.2.1 hb.2.2.2.2.2.1 hb.2.2.2.2.2.2 hcat hdep hloc hv kk
theorem C_I3x {k' : MI} {a index : Nat} {b1 b2 b3 : Value} {M1 : Mem} {P' : Mem → Prop} (hd : decode (kCC k) pc = .ok (.invokespecial index, 3)) (hl : Cond.methodLink (kOwn k) index (kY k') ∈ xTs) (hb : kII k' 3) (hcat : (st.map fun v => v.category).sum ≤ 8) (hdep : kDep k' + 1 ≤ kDep k) (hloc : 8 + (kNL k' + 11) + kLoc k' ≤ kLoc k) {E : String} (hv : CC P' k' (.ref a :: [b1, b2, b3]) M M1 qF (Xv E M1)) (kk : VVT P k pc lv E M1 z Q X) : VV P k pc lv (b3 :: b2 :: b1 :: .ref a :: st) M z Q X := Y_callI3x hd hl hb.1 hb.2.1 hb.2.2.1 hb.2.2.2.1 hb.2.2.2.2.1 hb.2.2.2.2.2.1 hb.2.2.2.2.2.2 hcat hdep hloc hv kk
theorem C_S3o {k' : MI} {index : Nat} {b1 b2 b3 : Value} {M1 : Mem} {P' : Mem → Prop} (hd : decode (kCC k) pc = .ok (.invokestatic index, 3)) (hl : Cond.methodLink (kOwn k) index (kY k') ∈ xTs) (hb : kIS k' 3) (hcat : (st.map fun v => v.category).sum ≤ 8) (hdep : kDep k' + 1 ≤ kDep k) (hloc : 8 + (kNL k' + 11) + kLoc k' ≤ kLoc k) (hv : CC P' k' ([b1, b2, b3]) M M1 (Qv none M1) xF) (kk : VV P k (pc + 3) lv st M1 z Q X) : VV P k pc lv (b3 :: b2 :: b1 :: st) M z Q X := Y_callS3 hd hl hb.1 hb.2.1 hb.2.2.1 hb.2.2.2 hcat hdep hloc hv kk
theorem C_S3r {k' : MI} {index : Nat} {b1 b2 b3 : Value} {M1 : Mem} {P' : Mem → Prop} (hd : decode (kCC k) pc = .ok (.invokestatic index, 3)) (hl : Cond.methodLink (kOwn k) index (kY k') ∈ xTs) (hb : kIS k' 3) (hcat : (st.map fun v => v.category).sum ≤ 8) (hdep : kDep k' + 1 ≤ kDep k) (hloc : 8 + (kNL k' + 11) + kLoc k' ≤ kLoc k) {v : Value} (hv : CC P' k' ([b1, b2, b3]) M M1 (Qv (some v) M1) xF) (kk : VV P k (pc + 3) lv (v :: st) M1 z Q X) : VV P k pc lv (b3 :: b2 :: b1 :: st) M z Q X := Y_callS3 hd hl hb.1 hb.2.1 hb.2.2.1 hb.2.2.2 hcat hdep hloc hv kk
theorem C_S3x {k' : MI} {index : Nat} {b1 b2 b3 : Value} {M1 : Mem} {P' : Mem → Prop} (hd : decode (kCC k) pc = .ok (.invokestatic index, 3)) (hl : Cond.methodLink (kOwn k) index (kY k') ∈ xTs) (hb : kIS k' 3) (hcat : (st.map fun v => v.category).sum ≤ 8) (hdep : kDep k' + 1 ≤ kDep k) (hloc : 8 + (kNL k' + 11) + kLoc k' ≤ kLoc k) {E : String} (hv : CC P' k' ([b1, b2, b3]) M M1 qF (Xv E M1)) (kk : VVT P k pc lv E M1 z Q X) : VV P k pc lv (b3 :: b2 :: b1 :: st) M z Q X := Y_callS3x hd hl hb.1 hb.2.1 hb.2.2.1 hb.2.2.2 hcat hdep hloc hv kk
theorem C_N3o {k' : MI} {index : Nat} {b1 b2 b3 : Value} {M1 : Mem} {P' : Mem → Prop} (hd : decode (kCC k) pc = .ok (.invokestatic index, 3)) {host : String} (hl : Cond.methodLinkNest (kOwn k) index (kY k') host ∈ xT2) (hb : kIS k' 3) (hcat : (st.map fun v => v.category).sum ≤ 8) (hdep : kDep k' + 1 ≤ kDep k) (hloc : 8 + (kNL k' + 11) + kLoc k' ≤ kLoc k) (hv : CC P' k' ([b1, b2, b3]) M M1 (Qv none M1) xF) (kk : VV P k (pc + 3) lv st M1 z Q X) : VV P k pc lv (b3 :: b2 :: b1 :: st) M z Q X := Y_callN3 hd hl hb.1 hb.2.1 hb.2.2.1 hb.2.2.2 hcat hdep hloc hv kk
theorem C_N3r {k' : MI} {index : Nat} {b1 b2 b3 : Value} {M1 : Mem} {P' : Mem → Prop} (hd : decode (kCC k) pc = .ok (.invokestatic index, 3)) {host : String} (hl : Cond.methodLinkNest (kOwn k) index (kY k') host ∈ xT2) (hb : kIS k' 3) (hcat : (st.map fun v => v.category).sum ≤ 8) (hdep : kDep k' + 1 ≤ kDep k) (hloc : 8 + (kNL k' + 11) + kLoc k' ≤ kLoc k) {v : Value} (hv : CC P' k' ([b1, b2, b3]) M M1 (Qv (some v) M1) xF) (kk : VV P k (pc + 3) lv (v :: st) M1 z Q X) : VV P k pc lv (b3 :: b2 :: b1 :: st) M z Q X := Y_callN3 hd hl hb.1 hb.2.1 hb.2.2.1 hb.2.2.2 hcat hdep hloc hv kk
theorem C_N3x {k' : MI} {index : Nat} {b1 b2 b3 : Value} {M1 : Mem} {P' : Mem → Prop} (hd : decode (kCC k) pc = .ok (.invokestatic index, 3)) {host : String} (hl : Cond.methodLinkNest (kOwn k) index (kY k') host ∈ xT2) (hb : kIS k' 3) (hcat : (st.map fun v => v.category).sum ≤ 8) (hdep : kDep k' + 1 ≤ kDep k) (hloc : 8 + (kNL k' + 11) + kLoc k' ≤ kLoc k) {E : String} (hv : CC P' k' ([b1, b2, b3]) M M1 qF (Xv E M1)) (kk : VVT P k pc lv E M1 z Q X) : VV P k pc lv (b3 :: b2 :: b1 :: st) M z Q X := Y_callN3x hd hl hb.1 hb.2.1 hb.2.2.1 hb.2.2.2 hcat hdep hloc hv kk
theorem C_V4o {k' : MI} {a t index : Nat} {b1 b2 b3 b4 : Value} {M1 : Mem} {P' : Mem → Prop} (hd : decode (kCC k) pc = .ok (.invokevirtual index, 3)) (hl : Cond.methodLink (kOwn k) index (kY k') ∈ xTs) (hb : kIV k' 4) (ht : mK M a = t) (ht1 : 1 ≤ t ∧ t ≤ 12) (hC : (vmQ t).1 = (kY k').cls) (hcat : (st.map fun v => v.category).sum ≤ 8) (hdep : kDep k' + 1 ≤ kDep k) (hloc : 8 + (kNL k' + 11) + kLoc k' ≤ kLoc k) (hv : CC P' k' (.ref a :: [b1, b2, b3, b4]) M M1 (Qv none M1) xF) (kk : VV P k (pc + 3) lv st M1 z Q X) : VV P k pc lv (b4 :: b3 :: b2 :: b1 :: .ref a :: st) M z Q X := Y_callV4 hd hl hb.1 hb.2.1 hb.2.2.1 hb.2.2.2.1 hb.2.2.2.2.1 hb.2.2.2.2.2 ht ht1 hC hcat hdep hloc hv kk
theorem C_V4r {k' : MI} {a t index : Nat} {b1 b2 b3 b4 : Value} {M1 : Mem} {P' : Mem → Prop} (hd : decode (kCC k) pc = .ok (.invokevirtual index, 3)) (hl : Cond.methodLink (kOwn k) index (kY k') ∈ xTs) (hb : kIV k' 4) (ht : mK M a = t) (ht1 : 1 ≤ t ∧ t ≤ 12) (hC : (vmQ t).1 = (kY k').cls) (hcat : (st.map fun v => v.category).sum ≤ 8) (hdep : kDep k' + 1 ≤ kDep k) (hloc : 8 + (kNL k' + 11) + kLoc k' ≤ kLoc k) {v : Value} (hv : CC P' k' (.ref a :: [b1, b2, b3, b4]) M M1 (Qv (some v) M1) xF) (kk : VV P k (pc + 3) lv (v :: st) M1 z Q X) : VV P k pc lv (b4 :: b3 :: b2 :: b1 :: .ref a :: st) M z Q X := Y_callV4 hd hl hb.1 hb.2.1 hb.2.2.1 hb.2.2.2.1 hb.2.2.2.2.1 hb.2.2.2.2.2 ht ht1 hC hcat hdep hloc hv kk
theorem C_V4x {k' : MI} {a t index : Nat} {b1 b2 b3 b4 : Value} {M1 : Mem} {P' : Mem → Prop} (hd : decode (kCC k) pc = .ok (.invokevirtual index, 3)) (hl : Cond.methodLink (kOwn k) index (kY k') ∈ xTs) (hb : kIV k' 4) (ht : mK M a = t) (ht1 : 1 ≤ t ∧ t ≤ 12) (hC : (vmQ t).1 = (kY k').cls) (hcat : (st.map fun v => v.category).sum ≤ 8) (hdep : kDep k' + 1 ≤ kDep k) (hloc : 8 + (kNL k' + 11) + kLoc k' ≤ kLoc k) {E : String} (hv : CC P' k' (.ref a :: [b1, b2, b3, b4]) M M1 qF (Xv E M1)) (kk : VVT P k pc lv E M1 z Q X) : VV P k pc lv (b4 :: b3 :: b2 :: b1 :: .ref a :: st) M z Q X := Y_callV4x hd hl hb.1 hb.2.1 hb.2.2.1 hb.2.2.2.1 hb.2.2.2.2.1 hb.2.2.2.2.2 ht ht1 hC hcat hdep hloc hv kk
theorem C_I4o {k' : MI} {a index : Nat} {b1 b2 b3 b4 : Value} {M1 : Mem} {P' : Mem → Prop} (hd : decode (kCC k) pc = .ok (.invokespecial index, 3)) (hl : Cond.methodLink (kOwn k) index (kY k') ∈ xTs) (hb : kII k' 4) (hcat : (st.map fun v => v.category).sum ≤ 8) (hdep : kDep k' + 1 ≤ kDep k) (hloc : 8 + (kNL k' + 11) + kLoc k' ≤ kLoc k) (hv : CC P' k' (.ref a :: [b1, b2, b3, b4]) M M1 (Qv none M1) xF) (kk : VV P k (pc + 3) lv st M1 z Q X) : VV P k pc lv (b4 :: b3 :: b2 :: b1 :: .ref a :: st) M z Q X := Y_callI4 hd hl hb.1 hb.2.1 hb.2.2.1 hb.2.2.2.1 hb.2.2.2.2.1 hb.2.2.2.2.2.1 hb.2.2.2.2.2.2 hcat hdep hloc hv kk
theorem C_I4r {k' : MI} {a index : Nat} {b1 b2 b3 b4 : Value} {M1 : Mem} {P' : Mem → Prop} (hd : decode (kCC k) pc = .ok (.invokespecial index, 3)) (hl : Cond.methodLink (kOwn k) index (kY k') ∈ xTs) (hb : kII k' 4) (hcat : (st.map fun v => v.category).sum ≤ 8) (hdep : kDep k' + 1 ≤ kDep k) (hloc : 8 + (kNL k' + 11) + kLoc k' ≤ kLoc k) {v : Value} (hv : CC P' k' (.ref a :: [b1, b2, b3, b4]) M M1 (Qv (some v) M1) xF) (kk : VV P k (pc + 3) lv (v :: st) M1 z Q X) : VV P k pc lv (b4 :: b3 :: b2 :: b1 :: .ref a :: st) M z Q X := Y_callI4 hd hl hb.1 hb.2.1 hb.2.2.1 hb.2.2.2.1 hb.2.2.2.2.1 hb.2.2.2.2.2.1 hb.2.2.2.2.2.2 hcat hdep hloc hv kk
theorem C_I4x {k' : MI} {a index : Nat} {b1 b2 b3 b4 : Value} {M1 : Mem} {P' : Mem → Prop} (hd : decode (kCC k) pc = .ok (.invokespecial index, 3)) (hl : Cond.methodLink (kOwn k) index (kY k') ∈ xTs) (hb : kII k' 4) (hcat : (st.map fun v => v.category).sum ≤ 8) (hdep : kDep k' + 1 ≤ kDep k) (hloc : 8 + (kNL k' + 11) + kLoc k' ≤ kLoc k) {E : String} (hv : CC P' k' (.ref a :: [b1, b2, b3, b4]) M M1 qF (Xv E M1)) (kk : VVT P k pc lv E M1 z Q X) : VV P k pc lv (b4 :: b3 :: b2 :: b1 :: .ref a :: st) M z Q X := Y_callI4x hd hl hb.1 hb.2.1 hb.2.2.1 hb.2.2.2.1 hb.2.2.2.2.1 hb.2.2.2.2.2.1 hb.2.2.2.2.2.2 hcat hdep hloc hv kk
theorem C_S4o {k' : MI} {index : Nat} {b1 b2 b3 b4 : Value} {M1 : Mem} {P' : Mem → Prop} (hd : decode (kCC k) pc = .ok (.invokestatic index, 3)) (hl : Cond.methodLink (kOwn k) index (kY k') ∈ xTs) (hb : kIS k' 4) (hcat : (st.map fun v => v.category).sum ≤ 8) (hdep : kDep k' + 1 ≤ kDep k) (hloc : 8 + (kNL k' + 11) + kLoc k' ≤ kLoc k) (hv : CC P' k' ([b1, b2, b3, b4]) M M1 (Qv none M1) xF) (kk : VV P k (pc + 3) lv st M1 z Q X) : VV P k pc lv (b4 :: b3 :: b2 :: b1 :: st) M z Q X := Y_callS4 hd hl hb.1 hb.2.1 hb.2.2.1 hb.2.2.2 hcat hdep hloc hv kk
theorem C_S4r {k' : MI} {index : Nat} {b1 b2 b3 b4 : Value} {M1 : Mem} {P' : Mem → Prop} (hd : decode (kCC k) pc = .ok (.invokestatic index, 3)) (hl : Cond.methodLink (kOwn k) index (kY k') ∈ xTs) (hb : kIS k' 4) (hcat : (st.map fun v => v.category).sum ≤ 8) (hdep : kDep k' + 1 ≤ kDep k) (hloc : 8 + (kNL k' + 11) + kLoc k' ≤ kLoc k) {v : Value} (hv : CC P' k' ([b1, b2, b3, b4]) M M1 (Qv (some v) M1) xF) (kk : VV P k (pc + 3) lv (v :: st) M1 z Q X) : VV P k pc lv (b4 :: b3 :: b2 :: b1 :: st) M z Q X := Y_callS4 hd hl hb.1 hb.2.1 hb.2.2.1 hb.2.2.2 hcat hdep hloc hv kk
theorem C_S4x {k' : MI} {index : Nat} {b1 b2 b3 b4 : Value} {M1 : Mem} {P' : Mem → Prop} (hd : decode (kCC k) pc = .ok (.invokestatic index, 3)) (hl : Cond.methodLink (kOwn k) index (kY k') ∈ xTs) (hb : kIS k' 4) (hcat : (st.map fun v => v.category).sum ≤ 8) (hdep : kDep k' + 1 ≤ kDep k) (hloc : 8 + (kNL k' + 11) + kLoc k' ≤ kLoc k) {E : String} (hv : CC P' k' ([b1, b2, b3, b4]) M M1 qF (Xv E M1)) (kk : VVT P k pc lv E M1 z Q X) : VV P k pc lv (b4 :: b3 :: b2 :: b1 :: st) M z Q X := Y_callS4x hd hl hb.1 hb.2.1 hb.2.2.1 hb.2.2.2 hcat hdep hloc hv kk
theorem C_V5o {k' : MI} {a t index : Nat} {b1 b2 b3 b4 b5 : Value} {M1 : Mem} {P' : Mem → Prop} (hd : decode (kCC k) pc = .ok (.invokevirtual index, 3)) (hl : Cond.methodLink (kOwn k) index (kY k') ∈ xTs) (hb : kIV k' 5) (ht : mK M a = t) (ht1 : 1 ≤ t ∧ t ≤ 12) (hC : (vmQ t).1 = (kY k').cls) (hcat : (st.map fun v => v.category).sum ≤ 8) (hdep : kDep k' + 1 ≤ kDep k) (hloc : 8 + (kNL k' + 11) + kLoc k' ≤ kLoc k) (hv : CC P' k' (.ref a :: [b1, b2, b3, b4, b5]) M M1 (Qv none M1) xF) (kk : VV P k (pc + 3) lv st M1 z Q X) : VV P k pc lv (b5 :: b4 :: b3 :: b2 :: b1 :: .ref a :: st) M z Q X := Y_callV5 hd hl hb.1 hb.2.1 hb.2.2.1 hb.2.2.2.1 hb.2.2.2.2.1 hb.2.2.2.2.2 ht ht1 hC hcat hdep hloc hv kk
theorem C_V5r {k' : MI} {a t index : Nat} {b1 b2 b3 b4 b5 : Value} {M1 : Mem} {P' : Mem → Prop} (hd : decode (kCC k) pc = .ok (.invokevirtual index, 3)) (hl : Cond.methodLink (kOwn k) index (kY k') ∈ xTs) (hb : kIV k' 5) (ht : mK M a = t) (ht1 : 1 ≤ t ∧ t ≤ 12) (hC : (vmQ t).1 = (kY k').cls) (hcat : (st.map fun v => v.category).sum ≤ 8) (hdep : kDep k' + 1 ≤ kDep k) (hloc : 8 + (kNL k' + 11) + kLoc k' ≤ kLoc k) {v : Value} (hv : CC P' k' (.ref a :: [b1, b2, b3, b4, b5]) M M1 (Qv (some v) M1) xF) (kk : VV P k (pc + 3) lv (v :: st) M1 z Q X) : VV P k pc lv (b5 :: b4 :: b3 :: b2 :: b1 :: .ref a :: st) M z Q X := Y_callV5 hd hl hb.1 hb.2.1 hb.2.2.1 hb.2.2.2.1 hb.2.2.2.2.1 hb.2.2.2.2.2 ht ht1 hC hcat hdep hloc hv kk
theorem C_V5x {k' : MI} {a t index : Nat} {b1 b2 b3 b4 b5 : Value} {M1 : Mem} {P' : Mem → Prop} (hd : decode (kCC k) pc = .ok (.invokevirtual index, 3)) (hl : Cond.methodLink (kOwn k) index (kY k') ∈ xTs) (hb : kIV k' 5) (ht : mK M a = t) (ht1 : 1 ≤ t ∧ t ≤ 12) (hC : (vmQ t).1 = (kY k').cls) (hcat : (st.map fun v => v.category).sum ≤ 8) (hdep : kDep k' + 1 ≤ kDep k) (hloc : 8 + (kNL k' + 11) + kLoc k' ≤ kLoc k) {E : String} (hv : CC P' k' (.ref a :: [b1, b2, b3, b4, b5]) M M1 qF (Xv E M1)) (kk : VVT P k pc lv E M1 z Q X) : VV P k pc lv (b5 :: b4 :: b3 :: b2 :: b1 :: .ref a :: st) M z Q X := Y_callV5x hd hl hb.1 hb.2.1 hb.2.2.1 hb.2.2.2.1 hb.2.2.2.2.1 hb.2.2.2.2.2 ht ht1 hC hcat hdep hloc hv kk
theorem C_I5o {k' : MI} {a index : Nat} {b1 b2 b3 b4 b5 : Value} {M1 : Mem} {P' : Mem → Prop} (hd : decode (kCC k) pc = .ok (.invokespecial index, 3)) (hl : Cond.methodLink (kOwn k) index (kY k') ∈ xTs) (hb : kII k' 5) (hcat : (st.map fun v => v.category).sum ≤ 8) (hdep : kDep k' + 1 ≤ kDep k) (hloc : 8 + (kNL k' + 11) + kLoc k' ≤ kLoc k) (hv : CC P' k' (.ref a :: [b1, b2, b3, b4, b5]) M M1 (Qv none M1) xF) (kk : VV P k (pc + 3) lv st M1 z Q X) : VV P k pc lv (b5 :: b4 :: b3 :: b2 :: b1 :: .ref a :: st) M z Q X := Y_callI5 hd hl hb.1 hb.2.1 hb.2.2.1 hb.2.2.2.1 hb.2.2.2.2.1 hb.2.2.2.2.2.1 hb.2.2.2.2.2.2 hcat hdep hloc hv kk
theorem C_I5r {k' : MI} {a index : Nat} {b1 b2 b3 b4 b5 : Value} {M1 : Mem} {P' : Mem → Prop} (hd : decode (kCC k) pc = .ok (.invokespecial index, 3)) (hl : Cond.methodLink (kOwn k) index (kY k') ∈ xTs) (hb : kII k' 5) (hcat : (st.map fun v => v.category).sum ≤ 8) (hdep : kDep k' + 1 ≤ kDep k) (hloc : 8 + (kNL k' + 11) + kLoc k' ≤ kLoc k) {v : Value} (hv : CC P' k' (.ref a :: [b1, b2, b3, b4, b5]) M M1 (Qv (some v) M1) xF) (kk : VV P k (pc + 3) lv (v :: st) M1 z Q X) : VV P k pc lv (b5 :: b4 :: b3 :: b2 :: b1 :: .ref a :: st) M z Q X := Y_callI5 hd hl hb.1 hb.2.1 hb.2.2.1 hb.2.2.2.1 hb.2.2.2.2.1 hb.2.2.2.2.2.1 hb.2.2.2.2.2.2 hcat hdep hloc hv kk
theorem C_I5x {k' : MI} {a index : Nat} {b1 b2 b3 b4 b5 : Value} {M1 : Mem} {P' : Mem → Prop} (hd : decode (kCC k) pc = .ok (.invokespecial index, 3)) (hl : Cond.methodLink (kOwn k) index (kY k') ∈ xTs) (hb : kII k' 5) (hcat : (st.map fun v => v.category).sum ≤ 8) (hdep : kDep k' + 1 ≤ kDep k) (hloc : 8 + (kNL k' + 11) + kLoc k' ≤ kLoc k) {E : String} (hv : CC P' k' (.ref a :: [b1, b2, b3, b4, b5]) M M1 qF (Xv E M1)) (kk : VVT P k pc lv E M1 z Q X) : VV P k pc lv (b5 :: b4 :: b3 :: b2 :: b1 :: .ref a :: st) M z Q X := Y_callI5x hd hl hb.1 hb.2.1 hb.2.2.1 hb.2.2.2.1 hb.2.2.2.2.1 hb.2.2.2.2.2.1 hb.2.2.2.2.2.2 hcat hdep hloc hv kk
theorem C_S5o {k' : MI} {index : Nat} {b1 b2 b3 b4 b5 : Value} {M1 : Mem} {P' : Mem → Prop} (hd : decode (kCC k) pc = .ok (.invokestatic index, 3)) (hl : Cond.methodLink (kOwn k) index (kY k') ∈ xTs) (hb : kIS k' 5) (hcat : (st.map fun v => v.category).sum ≤ 8) (hdep : kDep k' + 1 ≤ kDep k) (hloc : 8 + (kNL k' + 11) + kLoc k' ≤ kLoc k) (hv : CC P' k' ([b1, b2, b3, b4, b5]) M M1 (Qv none M1) xF) (kk : VV P k (pc + 3) lv st M1 z Q X) : VV P k pc lv (b5 :: b4 :: b3 :: b2 :: b1 :: st) M z Q X := Y_callS5 hd hl hb.1 hb.2.1 hb.2.2.1 hb.2.2.2 hcat hdep hloc hv kk
theorem C_S5r {k' : MI} {index : Nat} {b1 b2 b3 b4 b5 : Value} {M1 : Mem} {P' : Mem → Prop} (hd : decode (kCC k) pc = .ok (.invokestatic index, 3)) (hl : Cond.methodLink (kOwn k) index (kY k') ∈ xTs) (hb : kIS k' 5) (hcat : (st.map fun v => v.category).sum ≤ 8) (hdep : kDep k' + 1 ≤ kDep k) (hloc : 8 + (kNL k' + 11) + kLoc k' ≤ kLoc k) {v : Value} (hv : CC P' k' ([b1, b2, b3, b4, b5]) M M1 (Qv (some v) M1) xF) (kk : VV P k (pc + 3) lv (v :: st) M1 z Q X) : VV P k pc lv (b5 :: b4 :: b3 :: b2 :: b1 :: st) M z Q X := Y_callS5 hd hl hb.1 hb.2.1 hb.2.2.1 hb.2.2.2 hcat hdep hloc hv kk
theorem C_S5x {k' : MI} {index : Nat} {b1 b2 b3 b4 b5 : Value} {M1 : Mem} {P' : Mem → Prop} (hd : decode (kCC k) pc = .ok (.invokestatic index, 3)) (hl : Cond.methodLink (kOwn k) index (kY k') ∈ xTs) (hb : kIS k' 5) (hcat : (st.map fun v => v.category).sum ≤ 8) (hdep : kDep k' + 1 ≤ kDep k) (hloc : 8 + (kNL k' + 11) + kLoc k' ≤ kLoc k) {E : String} (hv : CC P' k' ([b1, b2, b3, b4, b5]) M M1 qF (Xv E M1)) (kk : VVT P k pc lv E M1 z Q X) : VV P k pc lv (b5 :: b4 :: b3 :: b2 :: b1 :: st) M z Q X := Y_callS5x hd hl hb.1 hb.2.1 hb.2.2.1 hb.2.2.2 hcat hdep hloc hv kk
theorem fr_1_0 : FX 1 0 "Tracewheel$Caches" "keys" "[I" (fun M a => oref (mR M a 0)) := ⟨⟨by decide, by decide, by decide, rfl, rfl, rfl⟩, fun _ _ => rfl⟩
theorem fr_1_1 : FX 1 1 "Tracewheel$Caches" "sizes" "[I" (fun M a => oref (mR M a 1)) := ⟨⟨by decide, by decide, by decide, rfl, rfl, rfl⟩, fun _ _ => rfl⟩
theorem fr_1_2 : FX 1 2 "Tracewheel$Caches" "hitCounts" "[I" (fun M a => oref (mR M a 2)) := ⟨⟨by decide, by decide, by decide, rfl, rfl, rfl⟩, fun _ _ => rfl⟩
theorem fr_1_3 : FX 1 3 "Tracewheel$Caches" "missCounts" "[I" (fun M a => oref (mR M a 3)) := ⟨⟨by decide, by decide, by decide, rfl, rfl, rfl⟩, fun _ _ => rfl⟩
theorem fr_2_0 : FX 2 0 "Tracewheel$Forest" "program" "LTracewheel$Program;" (fun M a => oref (mR M a 0)) := ⟨⟨by decide, by decide, by decide, rfl, rfl, rfl⟩, fun _ _ => rfl⟩
theorem fr_2_1 : FX 2 1 "Tracewheel$Forest" "heads" "LTracewheel$Heads;" (fun M a => oref (mR M a 1)) := ⟨⟨by decide, by decide, by decide, rfl, rfl, rfl⟩, fun _ _ => rfl⟩
theorem fr_2_2 : FX 2 2 "Tracewheel$Forest" "all" "[LTracewheel$Trace;" (fun M a => oref (mR M a 2)) := ⟨⟨by decide, by decide, by decide, rfl, rfl, rfl⟩, fun _ _ => rfl⟩
theorem fi_2_3 : FX 2 3 "Tracewheel$Forest" "count" "I" (fun M a => .int (mI M a 3)) := ⟨⟨by decide, by decide, by decide, rfl, rfl, rfl⟩, fun _ _ => rfl⟩
theorem fi_2_4 : FX 2 4 "Tracewheel$Forest" "codeLimit" "I" (fun M a => .int (mI M a 4)) := ⟨⟨by decide, by decide, by decide, rfl, rfl, rfl⟩, fun _ _ => rfl⟩
theorem fi_2_5 : FX 2 5 "Tracewheel$Forest" "entries" "I" (fun M a => .int (mI M a 5)) := ⟨⟨by decide, by decide, by decide, rfl, rfl, rfl⟩, fun _ _ => rfl⟩
theorem fr_3_0 : FX 3 0 "Tracewheel$Heads" "counters" "[I" (fun M a => oref (mR M a 0)) := ⟨⟨by decide, by decide, by decide, rfl, rfl, rfl⟩, fun _ _ => rfl⟩
theorem fr_3_1 : FX 3 1 "Tracewheel$Heads" "breaks" "[I" (fun M a => oref (mR M a 1)) := ⟨⟨by decide, by decide, by decide, rfl, rfl, rfl⟩, fun _ _ => rfl⟩
theorem fr_3_2 : FX 3 2 "Tracewheel$Heads" "roots" "[I" (fun M a => oref (mR M a 2)) := ⟨⟨by decide, by decide, by decide, rfl, rfl, rfl⟩, fun _ _ => rfl⟩
theorem fr_4_0 : FX 4 0 "Tracewheel$Machine" "program" "LTracewheel$Program;" (fun M a => oref (mR M a 0)) := ⟨⟨by decide, by decide, by decide, rfl, rfl, rfl⟩, fun _ _ => rfl⟩
theorem fr_4_1 : FX 4 1 "Tracewheel$Machine" "shapes" "LTracewheel$Shapes;" (fun M a => oref (mR M a 1)) := ⟨⟨by decide, by decide, by decide, rfl, rfl, rfl⟩, fun _ _ => rfl⟩
theorem fr_4_2 : FX 4 2 "Tracewheel$Machine" "slots" "LTracewheel$Slots;" (fun M a => oref (mR M a 2)) := ⟨⟨by decide, by decide, by decide, rfl, rfl, rfl⟩, fun _ _ => rfl⟩
theorem fr_4_3 : FX 4 3 "Tracewheel$Machine" "functions" "[I" (fun M a => oref (mR M a 3)) := ⟨⟨by decide, by decide, by decide, rfl, rfl, rfl⟩, fun _ _ => rfl⟩
theorem fr_4_4 : FX 4 4 "Tracewheel$Machine" "indices" "[I" (fun M a => oref (mR M a 4)) := ⟨⟨by decide, by decide, by decide, rfl, rfl, rfl⟩, fun _ _ => rfl⟩
theorem fr_4_5 : FX 4 5 "Tracewheel$Machine" "heights" "[I" (fun M a => oref (mR M a 5)) := ⟨⟨by decide, by decide, by decide, rfl, rfl, rfl⟩, fun _ _ => rfl⟩
theorem fr_4_6 : FX 4 6 "Tracewheel$Machine" "objectShapes" "[I" (fun M a => oref (mR M a 6)) := ⟨⟨by decide, by decide, by decide, rfl, rfl, rfl⟩, fun _ _ => rfl⟩
theorem fi_4_7 : FX 4 7 "Tracewheel$Machine" "letterAhead" "C" (fun M a => .int (mI M a 7)) := ⟨⟨by decide, by decide, by decide, rfl, rfl, rfl⟩, fun _ _ => rfl⟩
theorem fi_4_8 : FX 4 8 "Tracewheel$Machine" "operandAhead" "I" (fun M a => .int (mI M a 8)) := ⟨⟨by decide, by decide, by decide, rfl, rfl, rfl⟩, fun _ _ => rfl⟩
theorem fi_4_9 : FX 4 9 "Tracewheel$Machine" "depth" "I" (fun M a => .int (mI M a 9)) := ⟨⟨by decide, by decide, by decide, rfl, rfl, rfl⟩, fun _ _ => rfl⟩
theorem fi_4_10 : FX 4 10 "Tracewheel$Machine" "objectCount" "I" (fun M a => .int (mI M a 10)) := ⟨⟨by decide, by decide, by decide, rfl, rfl, rfl⟩, fun _ _ => rfl⟩
theorem fi_4_11 : FX 4 11 "Tracewheel$Machine" "toldCount" "I" (fun M a => .int (mI M a 11)) := ⟨⟨by decide, by decide, by decide, rfl, rfl, rfl⟩, fun _ _ => rfl⟩
theorem fi_4_12 : FX 4 12 "Tracewheel$Machine" "executed" "I" (fun M a => .int (mI M a 12)) := ⟨⟨by decide, by decide, by decide, rfl, rfl, rfl⟩, fun _ _ => rfl⟩
theorem fi_4_13 : FX 4 13 "Tracewheel$Machine" "ending" "C" (fun M a => .int (mI M a 13)) := ⟨⟨by decide, by decide, by decide, rfl, rfl, rfl⟩, fun _ _ => rfl⟩
theorem fi_4_14 : FX 4 14 "Tracewheel$Machine" "failureLetter" "C" (fun M a => .int (mI M a 14)) := ⟨⟨by decide, by decide, by decide, rfl, rfl, rfl⟩, fun _ _ => rfl⟩
theorem fi_4_15 : FX 4 15 "Tracewheel$Machine" "failureLine" "I" (fun M a => .int (mI M a 15)) := ⟨⟨by decide, by decide, by decide, rfl, rfl, rfl⟩, fun _ _ => rfl⟩
theorem fr_5_0 : FX 5 0 "Tracewheel$Program" "parameters" "[I" (fun M a => oref (mR M a 0)) := ⟨⟨by decide, by decide, by decide, rfl, rfl, rfl⟩, fun _ _ => rfl⟩
theorem fr_5_1 : FX 5 1 "Tracewheel$Program" "lengths" "[I" (fun M a => oref (mR M a 1)) := ⟨⟨by decide, by decide, by decide, rfl, rfl, rfl⟩, fun _ _ => rfl⟩
theorem fr_5_2 : FX 5 2 "Tracewheel$Program" "handlers" "[I" (fun M a => oref (mR M a 2)) := ⟨⟨by decide, by decide, by decide, rfl, rfl, rfl⟩, fun _ _ => rfl⟩
theorem fr_5_3 : FX 5 3 "Tracewheel$Program" "letters" "[C" (fun M a => oref (mR M a 3)) := ⟨⟨by decide, by decide, by decide, rfl, rfl, rfl⟩, fun _ _ => rfl⟩
theorem fr_5_4 : FX 5 4 "Tracewheel$Program" "operands" "[I" (fun M a => oref (mR M a 4)) := ⟨⟨by decide, by decide, by decide, rfl, rfl, rfl⟩, fun _ _ => rfl⟩
theorem fr_5_5 : FX 5 5 "Tracewheel$Program" "cells" "[I" (fun M a => oref (mR M a 5)) := ⟨⟨by decide, by decide, by decide, rfl, rfl, rfl⟩, fun _ _ => rfl⟩
theorem fr_5_6 : FX 5 6 "Tracewheel$Program" "parents" "[I" (fun M a => oref (mR M a 6)) := ⟨⟨by decide, by decide, by decide, rfl, rfl, rfl⟩, fun _ _ => rfl⟩
theorem fr_5_7 : FX 5 7 "Tracewheel$Program" "methods" "[I" (fun M a => oref (mR M a 7)) := ⟨⟨by decide, by decide, by decide, rfl, rfl, rfl⟩, fun _ _ => rfl⟩
theorem fi_5_8 : FX 5 8 "Tracewheel$Program" "functionCount" "I" (fun M a => .int (mI M a 8)) := ⟨⟨by decide, by decide, by decide, rfl, rfl, rfl⟩, fun _ _ => rfl⟩
theorem fi_5_9 : FX 5 9 "Tracewheel$Program" "classCount" "I" (fun M a => .int (mI M a 9)) := ⟨⟨by decide, by decide, by decide, rfl, rfl, rfl⟩, fun _ _ => rfl⟩
theorem fr_6_0 : FX 6 0 "Tracewheel$Recorder" "lines" "[I" (fun M a => oref (mR M a 0)) := ⟨⟨by decide, by decide, by decide, rfl, rfl, rfl⟩, fun _ _ => rfl⟩
theorem fr_6_1 : FX 6 1 "Tracewheel$Recorder" "firstGuards" "[I" (fun M a => oref (mR M a 1)) := ⟨⟨by decide, by decide, by decide, rfl, rfl, rfl⟩, fun _ _ => rfl⟩
theorem fr_6_2 : FX 6 2 "Tracewheel$Recorder" "guardLetters" "[I" (fun M a => oref (mR M a 2)) := ⟨⟨by decide, by decide, by decide, rfl, rfl, rfl⟩, fun _ _ => rfl⟩
theorem fr_6_3 : FX 6 3 "Tracewheel$Recorder" "guardSteps" "[I" (fun M a => oref (mR M a 3)) := ⟨⟨by decide, by decide, by decide, rfl, rfl, rfl⟩, fun _ _ => rfl⟩
theorem fr_6_4 : FX 6 4 "Tracewheel$Recorder" "guardDistances" "[I" (fun M a => oref (mR M a 4)) := ⟨⟨by decide, by decide, by decide, rfl, rfl, rfl⟩, fun _ _ => rfl⟩
theorem fr_6_5 : FX 6 5 "Tracewheel$Recorder" "guardAnswers" "[I" (fun M a => oref (mR M a 5)) := ⟨⟨by decide, by decide, by decide, rfl, rfl, rfl⟩, fun _ _ => rfl⟩
theorem fr_6_6 : FX 6 6 "Tracewheel$Recorder" "known" "[I" (fun M a => oref (mR M a 6)) := ⟨⟨by decide, by decide, by decide, rfl, rfl, rfl⟩, fun _ _ => rfl⟩
theorem fi_6_7 : FX 6 7 "Tracewheel$Recorder" "stepCount" "I" (fun M a => .int (mI M a 7)) := ⟨⟨by decide, by decide, by decide, rfl, rfl, rfl⟩, fun _ _ => rfl⟩
theorem fi_6_8 : FX 6 8 "Tracewheel$Recorder" "guardCount" "I" (fun M a => .int (mI M a 8)) := ⟨⟨by decide, by decide, by decide, rfl, rfl, rfl⟩, fun _ _ => rfl⟩
theorem fi_6_9 : FX 6 9 "Tracewheel$Recorder" "factCount" "I" (fun M a => .int (mI M a 9)) := ⟨⟨by decide, by decide, by decide, rfl, rfl, rfl⟩, fun _ _ => rfl⟩
theorem fi_6_10 : FX 6 10 "Tracewheel$Recorder" "active" "Z" (fun M a => .int (mI M a 10)) := ⟨⟨by decide, by decide, by decide, rfl, rfl, rfl⟩, fun _ _ => rfl⟩
theorem fi_6_11 : FX 6 11 "Tracewheel$Recorder" "headSite" "I" (fun M a => .int (mI M a 11)) := ⟨⟨by decide, by decide, by decide, rfl, rfl, rfl⟩, fun _ _ => rfl⟩
theorem fi_6_12 : FX 6 12 "Tracewheel$Recorder" "rootDepth" "I" (fun M a => .int (mI M a 12)) := ⟨⟨by decide, by decide, by decide, rfl, rfl, rfl⟩, fun _ _ => rfl⟩
theorem fi_6_13 : FX 6 13 "Tracewheel$Recorder" "parent" "I" (fun M a => .int (mI M a 13)) := ⟨⟨by decide, by decide, by decide, rfl, rfl, rfl⟩, fun _ _ => rfl⟩
theorem fi_6_14 : FX 6 14 "Tracewheel$Recorder" "parentGuard" "I" (fun M a => .int (mI M a 14)) := ⟨⟨by decide, by decide, by decide, rfl, rfl, rfl⟩, fun _ _ => rfl⟩
theorem fi_6_15 : FX 6 15 "Tracewheel$Recorder" "made" "I" (fun M a => .int (mI M a 15)) := ⟨⟨by decide, by decide, by decide, rfl, rfl, rfl⟩, fun _ _ => rfl⟩
theorem fr_7_0 : FX 7 0 "Tracewheel$Shapes" "classes" "[I" (fun M a => oref (mR M a 0)) := ⟨⟨by decide, by decide, by decide, rfl, rfl, rfl⟩, fun _ _ => rfl⟩
theorem fr_7_1 : FX 7 1 "Tracewheel$Shapes" "sizes" "[I" (fun M a => oref (mR M a 1)) := ⟨⟨by decide, by decide, by decide, rfl, rfl, rfl⟩, fun _ _ => rfl⟩
theorem fr_7_2 : FX 7 2 "Tracewheel$Shapes" "masks" "[I" (fun M a => oref (mR M a 2)) := ⟨⟨by decide, by decide, by decide, rfl, rfl, rfl⟩, fun _ _ => rfl⟩
theorem fr_7_3 : FX 7 3 "Tracewheel$Shapes" "order" "[I" (fun M a => oref (mR M a 3)) := ⟨⟨by decide, by decide, by decide, rfl, rfl, rfl⟩, fun _ _ => rfl⟩
theorem fr_7_4 : FX 7 4 "Tracewheel$Shapes" "followers" "[I" (fun M a => oref (mR M a 4)) := ⟨⟨by decide, by decide, by decide, rfl, rfl, rfl⟩, fun _ _ => rfl⟩
theorem fr_7_5 : FX 7 5 "Tracewheel$Shapes" "firsts" "[I" (fun M a => oref (mR M a 5)) := ⟨⟨by decide, by decide, by decide, rfl, rfl, rfl⟩, fun _ _ => rfl⟩
theorem fi_7_6 : FX 7 6 "Tracewheel$Shapes" "count" "I" (fun M a => .int (mI M a 6)) := ⟨⟨by decide, by decide, by decide, rfl, rfl, rfl⟩, fun _ _ => rfl⟩
theorem fr_8_0 : FX 8 0 "Tracewheel$Slots" "kinds" "[C" (fun M a => oref (mR M a 0)) := ⟨⟨by decide, by decide, by decide, rfl, rfl, rfl⟩, fun _ _ => rfl⟩
theorem fr_8_1 : FX 8 1 "Tracewheel$Slots" "wholes" "[I" (fun M a => oref (mR M a 1)) := ⟨⟨by decide, by decide, by decide, rfl, rfl, rfl⟩, fun _ _ => rfl⟩
theorem fr_8_2 : FX 8 2 "Tracewheel$Slots" "reals" "[D" (fun M a => oref (mR M a 2)) := ⟨⟨by decide, by decide, by decide, rfl, rfl, rfl⟩, fun _ _ => rfl⟩
theorem fr_8_3 : FX 8 3 "Tracewheel$Slots" "facts" "[I" (fun M a => oref (mR M a 3)) := ⟨⟨by decide, by decide, by decide, rfl, rfl, rfl⟩, fun _ _ => rfl⟩
theorem fi_9_0 : FX 9 0 "Tracewheel$Trace" "stepCount" "I" (fun M a => .int (mI M a 0)) := ⟨⟨by decide, by decide, by decide, rfl, rfl, rfl⟩, fun _ _ => rfl⟩
theorem fi_9_1 : FX 9 1 "Tracewheel$Trace" "guardCount" "I" (fun M a => .int (mI M a 1)) := ⟨⟨by decide, by decide, by decide, rfl, rfl, rfl⟩, fun _ _ => rfl⟩
theorem fr_9_2 : FX 9 2 "Tracewheel$Trace" "lines" "[I" (fun M a => oref (mR M a 2)) := ⟨⟨by decide, by decide, by decide, rfl, rfl, rfl⟩, fun _ _ => rfl⟩
theorem fr_9_3 : FX 9 3 "Tracewheel$Trace" "firstGuards" "[I" (fun M a => oref (mR M a 3)) := ⟨⟨by decide, by decide, by decide, rfl, rfl, rfl⟩, fun _ _ => rfl⟩
theorem fr_9_4 : FX 9 4 "Tracewheel$Trace" "guardLetters" "[I" (fun M a => oref (mR M a 4)) := ⟨⟨by decide, by decide, by decide, rfl, rfl, rfl⟩, fun _ _ => rfl⟩
theorem fr_9_5 : FX 9 5 "Tracewheel$Trace" "guardSteps" "[I" (fun M a => oref (mR M a 5)) := ⟨⟨by decide, by decide, by decide, rfl, rfl, rfl⟩, fun _ _ => rfl⟩
theorem fr_9_6 : FX 9 6 "Tracewheel$Trace" "guardDistances" "[I" (fun M a => oref (mR M a 6)) := ⟨⟨by decide, by decide, by decide, rfl, rfl, rfl⟩, fun _ _ => rfl⟩
theorem fr_9_7 : FX 9 7 "Tracewheel$Trace" "guardAnswers" "[I" (fun M a => oref (mR M a 7)) := ⟨⟨by decide, by decide, by decide, rfl, rfl, rfl⟩, fun _ _ => rfl⟩
theorem fr_9_8 : FX 9 8 "Tracewheel$Trace" "exitCounts" "[I" (fun M a => oref (mR M a 8)) := ⟨⟨by decide, by decide, by decide, rfl, rfl, rfl⟩, fun _ _ => rfl⟩
theorem fr_9_9 : FX 9 9 "Tracewheel$Trace" "exitCounters" "[I" (fun M a => oref (mR M a 9)) := ⟨⟨by decide, by decide, by decide, rfl, rfl, rfl⟩, fun _ _ => rfl⟩
theorem fr_9_10 : FX 9 10 "Tracewheel$Trace" "breaks" "[I" (fun M a => oref (mR M a 10)) := ⟨⟨by decide, by decide, by decide, rfl, rfl, rfl⟩, fun _ _ => rfl⟩
theorem fr_9_11 : FX 9 11 "Tracewheel$Trace" "sides" "[I" (fun M a => oref (mR M a 11)) := ⟨⟨by decide, by decide, by decide, rfl, rfl, rfl⟩, fun _ _ => rfl⟩
theorem fi_9_12 : FX 9 12 "Tracewheel$Trace" "root" "I" (fun M a => .int (mI M a 12)) := ⟨⟨by decide, by decide, by decide, rfl, rfl, rfl⟩, fun _ _ => rfl⟩
theorem fi_9_13 : FX 9 13 "Tracewheel$Trace" "headSite" "I" (fun M a => .int (mI M a 13)) := ⟨⟨by decide, by decide, by decide, rfl, rfl, rfl⟩, fun _ _ => rfl⟩
theorem fi_9_14 : FX 9 14 "Tracewheel$Trace" "there" "Z" (fun M a => .int (mI M a 14)) := ⟨⟨by decide, by decide, by decide, rfl, rfl, rfl⟩, fun _ _ => rfl⟩
theorem fi_9_15 : FX 9 15 "Tracewheel$Trace" "begunCount" "I" (fun M a => .int (mI M a 15)) := ⟨⟨by decide, by decide, by decide, rfl, rfl, rfl⟩, fun _ _ => rfl⟩
theorem fi_9_16 : FX 9 16 "Tracewheel$Trace" "enteredAt" "I" (fun M a => .int (mI M a 16)) := ⟨⟨by decide, by decide, by decide, rfl, rfl, rfl⟩, fun _ _ => rfl⟩
theorem fr_10_0 : FX 10 0 "Tracewheel$Wheel" "machine" "LTracewheel$Machine;" (fun M a => oref (mR M a 0)) := ⟨⟨by decide, by decide, by decide, rfl, rfl, rfl⟩, fun _ _ => rfl⟩
theorem fr_10_1 : FX 10 1 "Tracewheel$Wheel" "caches" "LTracewheel$Caches;" (fun M a => oref (mR M a 1)) := ⟨⟨by decide, by decide, by decide, rfl, rfl, rfl⟩, fun _ _ => rfl⟩
theorem fr_10_2 : FX 10 2 "Tracewheel$Wheel" "heads" "LTracewheel$Heads;" (fun M a => oref (mR M a 2)) := ⟨⟨by decide, by decide, by decide, rfl, rfl, rfl⟩, fun _ _ => rfl⟩
theorem fr_10_3 : FX 10 3 "Tracewheel$Wheel" "recorder" "LTracewheel$Recorder;" (fun M a => oref (mR M a 3)) := ⟨⟨by decide, by decide, by decide, rfl, rfl, rfl⟩, fun _ _ => rfl⟩
theorem fr_10_4 : FX 10 4 "Tracewheel$Wheel" "forest" "LTracewheel$Forest;" (fun M a => oref (mR M a 4)) := ⟨⟨by decide, by decide, by decide, rfl, rfl, rfl⟩, fun _ _ => rfl⟩
theorem fi_10_5 : FX 10 5 "Tracewheel$Wheel" "loopLimit" "I" (fun M a => .int (mI M a 5)) := ⟨⟨by decide, by decide, by decide, rfl, rfl, rfl⟩, fun _ _ => rfl⟩
theorem fi_10_6 : FX 10 6 "Tracewheel$Wheel" "exitLimit" "I" (fun M a => .int (mI M a 6)) := ⟨⟨by decide, by decide, by decide, rfl, rfl, rfl⟩, fun _ _ => rfl⟩
theorem fi_10_7 : FX 10 7 "Tracewheel$Wheel" "executedInTraces" "I" (fun M a => .int (mI M a 7)) := ⟨⟨by decide, by decide, by decide, rfl, rfl, rfl⟩, fun _ _ => rfl⟩
theorem fi_10_8 : FX 10 8 "Tracewheel$Wheel" "inTrace" "Z" (fun M a => .int (mI M a 8)) := ⟨⟨by decide, by decide, by decide, rfl, rfl, rfl⟩, fun _ _ => rfl⟩
theorem fr_10_9 : FX 10 9 "Tracewheel$Wheel" "current" "LTracewheel$Trace;" (fun M a => oref (mR M a 9)) := ⟨⟨by decide, by decide, by decide, rfl, rfl, rfl⟩, fun _ _ => rfl⟩
theorem fi_10_10 : FX 10 10 "Tracewheel$Wheel" "currentNumber" "I" (fun M a => .int (mI M a 10)) := ⟨⟨by decide, by decide, by decide, rfl, rfl, rfl⟩, fun _ _ => rfl⟩
theorem fi_10_11 : FX 10 11 "Tracewheel$Wheel" "step" "I" (fun M a => .int (mI M a 11)) := ⟨⟨by decide, by decide, by decide, rfl, rfl, rfl⟩, fun _ _ => rfl⟩
theorem fi_10_12 : FX 10 12 "Tracewheel$Wheel" "rootDepth" "I" (fun M a => .int (mI M a 12)) := ⟨⟨by decide, by decide, by decide, rfl, rfl, rfl⟩, fun _ _ => rfl⟩
theorem fr_11_0 : FX 11 0 "Tracewheel" "program" "LTracewheel$Program;" (fun M a => oref (mR M a 0)) := ⟨⟨by decide, by decide, by decide, rfl, rfl, rfl⟩, fun _ _ => rfl⟩
theorem fr_11_1 : FX 11 1 "Tracewheel" "shapeTable" "LTracewheel$Shapes;" (fun M a => oref (mR M a 1)) := ⟨⟨by decide, by decide, by decide, rfl, rfl, rfl⟩, fun _ _ => rfl⟩
theorem fr_11_2 : FX 11 2 "Tracewheel" "live" "LTracewheel$Machine;" (fun M a => oref (mR M a 2)) := ⟨⟨by decide, by decide, by decide, rfl, rfl, rfl⟩, fun _ _ => rfl⟩
theorem fr_11_3 : FX 11 3 "Tracewheel" "plain" "LTracewheel$Machine;" (fun M a => oref (mR M a 3)) := ⟨⟨by decide, by decide, by decide, rfl, rfl, rfl⟩, fun _ _ => rfl⟩
theorem fr_11_4 : FX 11 4 "Tracewheel" "wheel" "LTracewheel$Wheel;" (fun M a => oref (mR M a 4)) := ⟨⟨by decide, by decide, by decide, rfl, rfl, rfl⟩, fun _ _ => rfl⟩
theorem fi_11_5 : FX 11 5 "Tracewheel" "agreement" "Z" (fun M a => .int (mI M a 5)) := ⟨⟨by decide, by decide, by decide, rfl, rfl, rfl⟩, fun _ _ => rfl⟩
theorem fi_12_0 : FX 12 0 "TracewheelModel" "code" "I" (fun M a => .int (mI M a 0)) := ⟨⟨by decide, by decide, by decide, rfl, rfl, rfl⟩, fun _ _ => rfl⟩
theorem fi_12_1 : FX 12 1 "TracewheelModel" "functions" "I" (fun M a => .int (mI M a 1)) := ⟨⟨by decide, by decide, by decide, rfl, rfl, rfl⟩, fun _ _ => rfl⟩
theorem fr_12_2 : FX 12 2 "TracewheelModel" "parameters" "[I" (fun M a => oref (mR M a 2)) := ⟨⟨by decide, by decide, by decide, rfl, rfl, rfl⟩, fun _ _ => rfl⟩
theorem fr_12_3 : FX 12 3 "TracewheelModel" "lengths" "[I" (fun M a => oref (mR M a 3)) := ⟨⟨by decide, by decide, by decide, rfl, rfl, rfl⟩, fun _ _ => rfl⟩
theorem fr_12_4 : FX 12 4 "TracewheelModel" "letters" "[C" (fun M a => oref (mR M a 4)) := ⟨⟨by decide, by decide, by decide, rfl, rfl, rfl⟩, fun _ _ => rfl⟩
theorem fr_12_5 : FX 12 5 "TracewheelModel" "operands" "[I" (fun M a => oref (mR M a 5)) := ⟨⟨by decide, by decide, by decide, rfl, rfl, rfl⟩, fun _ _ => rfl⟩
theorem fr_12_6 : FX 12 6 "TracewheelModel" "handlers" "[I" (fun M a => oref (mR M a 6)) := ⟨⟨by decide, by decide, by decide, rfl, rfl, rfl⟩, fun _ _ => rfl⟩
theorem fr_12_7 : FX 12 7 "TracewheelModel" "cells" "[I" (fun M a => oref (mR M a 7)) := ⟨⟨by decide, by decide, by decide, rfl, rfl, rfl⟩, fun _ _ => rfl⟩
theorem fi_12_8 : FX 12 8 "TracewheelModel" "classes" "I" (fun M a => .int (mI M a 8)) := ⟨⟨by decide, by decide, by decide, rfl, rfl, rfl⟩, fun _ _ => rfl⟩
theorem fr_12_9 : FX 12 9 "TracewheelModel" "parents" "[I" (fun M a => oref (mR M a 9)) := ⟨⟨by decide, by decide, by decide, rfl, rfl, rfl⟩, fun _ _ => rfl⟩
theorem fr_12_10 : FX 12 10 "TracewheelModel" "methods" "[I" (fun M a => oref (mR M a 10)) := ⟨⟨by decide, by decide, by decide, rfl, rfl, rfl⟩, fun _ _ => rfl⟩
theorem fr_12_11 : FX 12 11 "TracewheelModel" "firstShape" "[I" (fun M a => oref (mR M a 11)) := ⟨⟨by decide, by decide, by decide, rfl, rfl, rfl⟩, fun _ _ => rfl⟩
theorem fi_12_12 : FX 12 12 "TracewheelModel" "shapes" "I" (fun M a => .int (mI M a 12)) := ⟨⟨by decide, by decide, by decide, rfl, rfl, rfl⟩, fun _ _ => rfl⟩
theorem fr_12_13 : FX 12 13 "TracewheelModel" "shapeClass" "[I" (fun M a => oref (mR M a 13)) := ⟨⟨by decide, by decide, by decide, rfl, rfl, rfl⟩, fun _ _ => rfl⟩
theorem fr_12_14 : FX 12 14 "TracewheelModel" "shapeFields" "[I" (fun M a => oref (mR M a 14)) := ⟨⟨by decide, by decide, by decide, rfl, rfl, rfl⟩, fun _ _ => rfl⟩
theorem fr_12_15 : FX 12 15 "TracewheelModel" "fieldNames" "[I" (fun M a => oref (mR M a 15)) := ⟨⟨by decide, by decide, by decide, rfl, rfl, rfl⟩, fun _ _ => rfl⟩
theorem fr_12_16 : FX 12 16 "TracewheelModel" "followers" "[I" (fun M a => oref (mR M a 16)) := ⟨⟨by decide, by decide, by decide, rfl, rfl, rfl⟩, fun _ _ => rfl⟩
theorem fr_12_17 : FX 12 17 "TracewheelModel" "keyMany" "[I" (fun M a => oref (mR M a 17)) := ⟨⟨by decide, by decide, by decide, rfl, rfl, rfl⟩, fun _ _ => rfl⟩
theorem fr_12_18 : FX 12 18 "TracewheelModel" "keys" "[I" (fun M a => oref (mR M a 18)) := ⟨⟨by decide, by decide, by decide, rfl, rfl, rfl⟩, fun _ _ => rfl⟩
theorem fr_12_19 : FX 12 19 "TracewheelModel" "hitsOf" "[I" (fun M a => oref (mR M a 19)) := ⟨⟨by decide, by decide, by decide, rfl, rfl, rfl⟩, fun _ _ => rfl⟩
theorem fr_12_20 : FX 12 20 "TracewheelModel" "missesOf" "[I" (fun M a => oref (mR M a 20)) := ⟨⟨by decide, by decide, by decide, rfl, rfl, rfl⟩, fun _ _ => rfl⟩
theorem fr_12_21 : FX 12 21 "TracewheelModel" "counters" "[I" (fun M a => oref (mR M a 21)) := ⟨⟨by decide, by decide, by decide, rfl, rfl, rfl⟩, fun _ _ => rfl⟩
theorem fr_12_22 : FX 12 22 "TracewheelModel" "brokenOf" "[I" (fun M a => oref (mR M a 22)) := ⟨⟨by decide, by decide, by decide, rfl, rfl, rfl⟩, fun _ _ => rfl⟩
theorem fi_12_23 : FX 12 23 "TracewheelModel" "loopLimit" "I" (fun M a => .int (mI M a 23)) := ⟨⟨by decide, by decide, by decide, rfl, rfl, rfl⟩, fun _ _ => rfl⟩
theorem fi_12_24 : FX 12 24 "TracewheelModel" "exitLimit" "I" (fun M a => .int (mI M a 24)) := ⟨⟨by decide, by decide, by decide, rfl, rfl, rfl⟩, fun _ _ => rfl⟩
theorem fi_12_25 : FX 12 25 "TracewheelModel" "codeLimit" "I" (fun M a => .int (mI M a 25)) := ⟨⟨by decide, by decide, by decide, rfl, rfl, rfl⟩, fun _ _ => rfl⟩
theorem fi_12_26 : FX 12 26 "TracewheelModel" "traces" "I" (fun M a => .int (mI M a 26)) := ⟨⟨by decide, by decide, by decide, rfl, rfl, rfl⟩, fun _ _ => rfl⟩
theorem fr_12_27 : FX 12 27 "TracewheelModel" "there" "[Z" (fun M a => oref (mR M a 27)) := ⟨⟨by decide, by decide, by decide, rfl, rfl, rfl⟩, fun _ _ => rfl⟩
theorem fr_12_28 : FX 12 28 "TracewheelModel" "stepMany" "[I" (fun M a => oref (mR M a 28)) := ⟨⟨by decide, by decide, by decide, rfl, rfl, rfl⟩, fun _ _ => rfl⟩
theorem fr_12_29 : FX 12 29 "TracewheelModel" "lines" "[I" (fun M a => oref (mR M a 29)) := ⟨⟨by decide, by decide, by decide, rfl, rfl, rfl⟩, fun _ _ => rfl⟩
theorem fr_12_30 : FX 12 30 "TracewheelModel" "guardMany" "[I" (fun M a => oref (mR M a 30)) := ⟨⟨by decide, by decide, by decide, rfl, rfl, rfl⟩, fun _ _ => rfl⟩
theorem fr_12_31 : FX 12 31 "TracewheelModel" "roots" "[I" (fun M a => oref (mR M a 31)) := ⟨⟨by decide, by decide, by decide, rfl, rfl, rfl⟩, fun _ _ => rfl⟩
theorem fr_12_32 : FX 12 32 "TracewheelModel" "headOf" "[I" (fun M a => oref (mR M a 32)) := ⟨⟨by decide, by decide, by decide, rfl, rfl, rfl⟩, fun _ _ => rfl⟩
theorem fr_12_33 : FX 12 33 "TracewheelModel" "begun" "[I" (fun M a => oref (mR M a 33)) := ⟨⟨by decide, by decide, by decide, rfl, rfl, rfl⟩, fun _ _ => rfl⟩
theorem fr_12_34 : FX 12 34 "TracewheelModel" "entered" "[I" (fun M a => oref (mR M a 34)) := ⟨⟨by decide, by decide, by decide, rfl, rfl, rfl⟩, fun _ _ => rfl⟩
theorem fi_12_35 : FX 12 35 "TracewheelModel" "clock" "I" (fun M a => .int (mI M a 35)) := ⟨⟨by decide, by decide, by decide, rfl, rfl, rfl⟩, fun _ _ => rfl⟩
theorem fr_12_36 : FX 12 36 "TracewheelModel" "guardLetter" "[C" (fun M a => oref (mR M a 36)) := ⟨⟨by decide, by decide, by decide, rfl, rfl, rfl⟩, fun _ _ => rfl⟩
theorem fr_12_37 : FX 12 37 "TracewheelModel" "guardStep" "[I" (fun M a => oref (mR M a 37)) := ⟨⟨by decide, by decide, by decide, rfl, rfl, rfl⟩, fun _ _ => rfl⟩
theorem fr_12_38 : FX 12 38 "TracewheelModel" "guardDeep" "[I" (fun M a => oref (mR M a 38)) := ⟨⟨by decide, by decide, by decide, rfl, rfl, rfl⟩, fun _ _ => rfl⟩
theorem fr_12_39 : FX 12 39 "TracewheelModel" "guardWant" "[I" (fun M a => oref (mR M a 39)) := ⟨⟨by decide, by decide, by decide, rfl, rfl, rfl⟩, fun _ _ => rfl⟩
theorem fr_12_40 : FX 12 40 "TracewheelModel" "exits" "[I" (fun M a => oref (mR M a 40)) := ⟨⟨by decide, by decide, by decide, rfl, rfl, rfl⟩, fun _ _ => rfl⟩
theorem fr_12_41 : FX 12 41 "TracewheelModel" "guardCounter" "[I" (fun M a => oref (mR M a 41)) := ⟨⟨by decide, by decide, by decide, rfl, rfl, rfl⟩, fun _ _ => rfl⟩
theorem fr_12_42 : FX 12 42 "TracewheelModel" "guardBroken" "[I" (fun M a => oref (mR M a 42)) := ⟨⟨by decide, by decide, by decide, rfl, rfl, rfl⟩, fun _ _ => rfl⟩
theorem fr_12_43 : FX 12 43 "TracewheelModel" "sides" "[I" (fun M a => oref (mR M a 43)) := ⟨⟨by decide, by decide, by decide, rfl, rfl, rfl⟩, fun _ _ => rfl⟩
theorem fr_12_44 : FX 12 44 "TracewheelModel" "kinds" "[C" (fun M a => oref (mR M a 44)) := ⟨⟨by decide, by decide, by decide, rfl, rfl, rfl⟩, fun _ _ => rfl⟩
theorem fr_12_45 : FX 12 45 "TracewheelModel" "numbers" "[I" (fun M a => oref (mR M a 45)) := ⟨⟨by decide, by decide, by decide, rfl, rfl, rfl⟩, fun _ _ => rfl⟩
theorem fr_12_46 : FX 12 46 "TracewheelModel" "floats" "[D" (fun M a => oref (mR M a 46)) := ⟨⟨by decide, by decide, by decide, rfl, rfl, rfl⟩, fun _ _ => rfl⟩
theorem fr_12_47 : FX 12 47 "TracewheelModel" "ids" "[I" (fun M a => oref (mR M a 47)) := ⟨⟨by decide, by decide, by decide, rfl, rfl, rfl⟩, fun _ _ => rfl⟩
theorem fi_12_48 : FX 12 48 "TracewheelModel" "depth" "I" (fun M a => .int (mI M a 48)) := ⟨⟨by decide, by decide, by decide, rfl, rfl, rfl⟩, fun _ _ => rfl⟩
theorem fr_12_49 : FX 12 49 "TracewheelModel" "function" "[I" (fun M a => oref (mR M a 49)) := ⟨⟨by decide, by decide, by decide, rfl, rfl, rfl⟩, fun _ _ => rfl⟩
theorem fr_12_50 : FX 12 50 "TracewheelModel" "index" "[I" (fun M a => oref (mR M a 50)) := ⟨⟨by decide, by decide, by decide, rfl, rfl, rfl⟩, fun _ _ => rfl⟩
theorem fr_12_51 : FX 12 51 "TracewheelModel" "height" "[I" (fun M a => oref (mR M a 51)) := ⟨⟨by decide, by decide, by decide, rfl, rfl, rfl⟩, fun _ _ => rfl⟩
theorem fi_12_52 : FX 12 52 "TracewheelModel" "objects" "I" (fun M a => .int (mI M a 52)) := ⟨⟨by decide, by decide, by decide, rfl, rfl, rfl⟩, fun _ _ => rfl⟩
theorem fr_12_53 : FX 12 53 "TracewheelModel" "objectShape" "[I" (fun M a => oref (mR M a 53)) := ⟨⟨by decide, by decide, by decide, rfl, rfl, rfl⟩, fun _ _ => rfl⟩
theorem fr_12_54 : FX 12 54 "TracewheelModel" "fieldKind" "[C" (fun M a => oref (mR M a 54)) := ⟨⟨by decide, by decide, by decide, rfl, rfl, rfl⟩, fun _ _ => rfl⟩
theorem fr_12_55 : FX 12 55 "TracewheelModel" "fieldNumber" "[I" (fun M a => oref (mR M a 55)) := ⟨⟨by decide, by decide, by decide, rfl, rfl, rfl⟩, fun _ _ => rfl⟩
theorem fr_12_56 : FX 12 56 "TracewheelModel" "fieldFloat" "[D" (fun M a => oref (mR M a 56)) := ⟨⟨by decide, by decide, by decide, rfl, rfl, rfl⟩, fun _ _ => rfl⟩
theorem fi_12_57 : FX 12 57 "TracewheelModel" "executed" "I" (fun M a => .int (mI M a 57)) := ⟨⟨by decide, by decide, by decide, rfl, rfl, rfl⟩, fun _ _ => rfl⟩
theorem fi_12_58 : FX 12 58 "TracewheelModel" "traced" "I" (fun M a => .int (mI M a 58)) := ⟨⟨by decide, by decide, by decide, rfl, rfl, rfl⟩, fun _ _ => rfl⟩
theorem fi_12_59 : FX 12 59 "TracewheelModel" "tells" "I" (fun M a => .int (mI M a 59)) := ⟨⟨by decide, by decide, by decide, rfl, rfl, rfl⟩, fun _ _ => rfl⟩
theorem fr_12_60 : FX 12 60 "TracewheelModel" "tellKind" "[C" (fun M a => oref (mR M a 60)) := ⟨⟨by decide, by decide, by decide, rfl, rfl, rfl⟩, fun _ _ => rfl⟩
theorem fr_12_61 : FX 12 61 "TracewheelModel" "tellValue" "[J" (fun M a => oref (mR M a 61)) := ⟨⟨by decide, by decide, by decide, rfl, rfl, rfl⟩, fun _ _ => rfl⟩
theorem fi_12_62 : FX 12 62 "TracewheelModel" "outcome" "C" (fun M a => .int (mI M a 62)) := ⟨⟨by decide, by decide, by decide, rfl, rfl, rfl⟩, fun _ _ => rfl⟩
theorem fi_12_63 : FX 12 63 "TracewheelModel" "lastKind" "C" (fun M a => .int (mI M a 63)) := ⟨⟨by decide, by decide, by decide, rfl, rfl, rfl⟩, fun _ _ => rfl⟩
theorem fl_12_64 : FX 12 64 "TracewheelModel" "lastValue" "J" (fun M a => .long (mL M a 64)) := ⟨⟨by decide, by decide, by decide, rfl, rfl, rfl⟩, fun _ _ => rfl⟩
theorem fi_12_65 : FX 12 65 "TracewheelModel" "lastFailure" "C" (fun M a => .int (mI M a 65)) := ⟨⟨by decide, by decide, by decide, rfl, rfl, rfl⟩, fun _ _ => rfl⟩
theorem fi_12_66 : FX 12 66 "TracewheelModel" "lastLine" "I" (fun M a => .int (mI M a 66)) := ⟨⟨by decide, by decide, by decide, rfl, rfl, rfl⟩, fun _ _ => rfl⟩
theorem fi_12_67 : FX 12 67 "TracewheelModel" "isOn" "Z" (fun M a => .int (mI M a 67)) := ⟨⟨by decide, by decide, by decide, rfl, rfl, rfl⟩, fun _ _ => rfl⟩
theorem fi_12_68 : FX 12 68 "TracewheelModel" "trace" "I" (fun M a => .int (mI M a 68)) := ⟨⟨by decide, by decide, by decide, rfl, rfl, rfl⟩, fun _ _ => rfl⟩
theorem fi_12_69 : FX 12 69 "TracewheelModel" "at" "I" (fun M a => .int (mI M a 69)) := ⟨⟨by decide, by decide, by decide, rfl, rfl, rfl⟩, fun _ _ => rfl⟩
theorem fi_12_70 : FX 12 70 "TracewheelModel" "traceDepth" "I" (fun M a => .int (mI M a 70)) := ⟨⟨by decide, by decide, by decide, rfl, rfl, rfl⟩, fun _ _ => rfl⟩
theorem fi_12_71 : FX 12 71 "TracewheelModel" "isRecording" "Z" (fun M a => .int (mI M a 71)) := ⟨⟨by decide, by decide, by decide, rfl, rfl, rfl⟩, fun _ _ => rfl⟩
theorem fi_12_72 : FX 12 72 "TracewheelModel" "recordRoot" "I" (fun M a => .int (mI M a 72)) := ⟨⟨by decide, by decide, by decide, rfl, rfl, rfl⟩, fun _ _ => rfl⟩
theorem fi_12_73 : FX 12 73 "TracewheelModel" "recordGuard" "I" (fun M a => .int (mI M a 73)) := ⟨⟨by decide, by decide, by decide, rfl, rfl, rfl⟩, fun _ _ => rfl⟩
theorem fi_12_74 : FX 12 74 "TracewheelModel" "recordHead" "I" (fun M a => .int (mI M a 74)) := ⟨⟨by decide, by decide, by decide, rfl, rfl, rfl⟩, fun _ _ => rfl⟩
theorem fi_12_75 : FX 12 75 "TracewheelModel" "recordDepth" "I" (fun M a => .int (mI M a 75)) := ⟨⟨by decide, by decide, by decide, rfl, rfl, rfl⟩, fun _ _ => rfl⟩
theorem fi_12_76 : FX 12 76 "TracewheelModel" "recordSteps" "I" (fun M a => .int (mI M a 76)) := ⟨⟨by decide, by decide, by decide, rfl, rfl, rfl⟩, fun _ _ => rfl⟩
theorem fr_12_77 : FX 12 77 "TracewheelModel" "recordLines" "[I" (fun M a => oref (mR M a 77)) := ⟨⟨by decide, by decide, by decide, rfl, rfl, rfl⟩, fun _ _ => rfl⟩
theorem fi_12_78 : FX 12 78 "TracewheelModel" "recordGuards" "I" (fun M a => .int (mI M a 78)) := ⟨⟨by decide, by decide, by decide, rfl, rfl, rfl⟩, fun _ _ => rfl⟩
theorem fr_12_79 : FX 12 79 "TracewheelModel" "recordLetter" "[C" (fun M a => oref (mR M a 79)) := ⟨⟨by decide, by decide, by decide, rfl, rfl, rfl⟩, fun _ _ => rfl⟩
theorem fr_12_80 : FX 12 80 "TracewheelModel" "recordStep" "[I" (fun M a => oref (mR M a 80)) := ⟨⟨by decide, by decide, by decide, rfl, rfl, rfl⟩, fun _ _ => rfl⟩
theorem fr_12_81 : FX 12 81 "TracewheelModel" "recordDeep" "[I" (fun M a => oref (mR M a 81)) := ⟨⟨by decide, by decide, by decide, rfl, rfl, rfl⟩, fun _ _ => rfl⟩
theorem fr_12_82 : FX 12 82 "TracewheelModel" "recordWant" "[I" (fun M a => oref (mR M a 82)) := ⟨⟨by decide, by decide, by decide, rfl, rfl, rfl⟩, fun _ _ => rfl⟩
theorem fi_12_83 : FX 12 83 "TracewheelModel" "values" "I" (fun M a => .int (mI M a 83)) := ⟨⟨by decide, by decide, by decide, rfl, rfl, rfl⟩, fun _ _ => rfl⟩
theorem fr_12_84 : FX 12 84 "TracewheelModel" "knownKind" "[C" (fun M a => oref (mR M a 84)) := ⟨⟨by decide, by decide, by decide, rfl, rfl, rfl⟩, fun _ _ => rfl⟩
theorem fr_12_85 : FX 12 85 "TracewheelModel" "known" "[Z" (fun M a => oref (mR M a 85)) := ⟨⟨by decide, by decide, by decide, rfl, rfl, rfl⟩, fun _ _ => rfl⟩
theorem fr_12_86 : FX 12 86 "TracewheelModel" "knownShape" "[I" (fun M a => oref (mR M a 86)) := ⟨⟨by decide, by decide, by decide, rfl, rfl, rfl⟩, fun _ _ => rfl⟩
theorem fr_12_87 : FX 12 87 "TracewheelModel" "knownNull" "[I" (fun M a => oref (mR M a 87)) := ⟨⟨by decide, by decide, by decide, rfl, rfl, rfl⟩, fun _ _ => rfl⟩
theorem fi_12_88 : FX 12 88 "TracewheelModel" "kind" "C" (fun M a => .int (mI M a 88)) := ⟨⟨by decide, by decide, by decide, rfl, rfl, rfl⟩, fun _ _ => rfl⟩
theorem fi_12_89 : FX 12 89 "TracewheelModel" "number" "I" (fun M a => .int (mI M a 89)) := ⟨⟨by decide, by decide, by decide, rfl, rfl, rfl⟩, fun _ _ => rfl⟩
theorem fd_12_90 : FX 12 90 "TracewheelModel" "real" "D" (fun M a => .double (mD M a 90)) := ⟨⟨by decide, by decide, by decide, rfl, rfl, rfl⟩, fun _ _ => rfl⟩
theorem nl_Program_50 : Cond.methodLinkNest "Tracewheel$Program" 50 ⟨"Tracewheel", "siteOf", "(II)I"⟩ "Tracewheel" ∈ xT2 := List.mem_of_getElem? (i := 13) rfl
theorem nl_Forest_68 : Cond.methodLinkNest "Tracewheel$Forest" 68 ⟨"Tracewheel", "siteOfLine", "(I)I"⟩ "Tracewheel" ∈ xT2 := List.mem_of_getElem? (i := 16) rfl
theorem nl_Machine_66 : Cond.methodLinkNest "Tracewheel$Machine" 66 ⟨"Tracewheel", "localPlace", "(II)I"⟩ "Tracewheel" ∈ xT2 := List.mem_of_getElem? (i := 17) rfl
theorem nl_Machine_110 : Cond.methodLinkNest "Tracewheel$Machine" 110 ⟨"Tracewheel", "siteOf", "(II)I"⟩ "Tracewheel" ∈ xT2 := List.mem_of_getElem? (i := 18) rfl
theorem nl_Machine_260 : Cond.methodLinkNest "Tracewheel$Machine" 260 ⟨"Tracewheel", "fieldPlace", "(II)I"⟩ "Tracewheel" ∈ xT2 := List.mem_of_getElem? (i := 19) rfl
theorem nl_Recorder_185 : Cond.methodLinkNest "Tracewheel$Recorder" 185 ⟨"Tracewheel", "localPlace", "(II)I"⟩ "Tracewheel" ∈ xT2 := List.mem_of_getElem? (i := 20) rfl
end VMG
