/-! ===== asks: traces ===== -/
section MZ4
theorem inv_f {M S : Mem} {cnt ns nc nf : Nat} (h : INV M S cnt ns nc nf) : ∃ B, FOR M S B cnt := by
  obtain ⟨B, H, G, F, b, fg, ob, -, -, -, h4, -⟩ := h
  exact ⟨B, h4⟩
theorem ta_T {M S : Mem} {B : Nat → Nat} {cnt t : Nat} (hF : FOR M S B cnt) (ht : t < cnt) : d_X11_traceAt (nI t) M = some (.inl (B t), M) := by
  have hc : cnt ≤ 20 := hF.2.2.1
  obtain ⟨⟨st, gm, fg, hT⟩, -⟩ := hF.2.2.2.2.2.2 t ht
  unfold d_X11_traceAt
  rw [if_neg (rng_T ht (by omega)).1, hF.1, if_pos (rng_T ht (by omega)).2, okk_pos (of_eq_true (qinT (by omega) (by omega))), qcl (by omega), hT.1.1]
  rfl
theorem ta_F {M S : Mem} {B : Nat → Nat} {cnt : Nat} {x : Int32} (hF : FOR M S B cnt) (hx : x < (0 : Int32) ∨ ∃ k, k < 2147483648 ∧ cnt ≤ k ∧ x = nI k) : d_X11_traceAt x M = some (.inr "java/lang/IndexOutOfBoundsException", tk M 6) := by
  unfold d_X11_traceAt d_X11_traceAt_18
  rcases rng_F hx with c | ⟨c, d⟩
  · exact if_pos c
  · rw [if_neg c, hF.1]; exact if_neg d
theorem is00 (S : Mem) : mI (sI S 69 0 (0 : Int32)) 69 0 = (0 : Int32) := mI_eq _ _ _ _
theorem is10 (S : Mem) : ¬ mI (sI S 69 0 (1 : Int32)) 69 0 = (0 : Int32) := by rw [mI_eq]; decide
theorem is20 (S : Mem) : ¬ mI (sI S 69 0 (2 : Int32)) 69 0 = (0 : Int32) := by rw [mI_eq]; decide
theorem it_T {M S : Mem} {B : Nat → Nat} {cnt t : Nat} (hF : FOR M S B cnt) (ht : t < cnt) : d_X12_isTrace (nI t) S = some (nI 1, sI S 69 0 (0 : Int32)) := by
  have hc : cnt ≤ 20 := hF.2.2.1
  unfold d_X12_isTrace d_X12_isTrace_20
  rw [hF.2.1, in_T ht (by omega)]
  simp only [obind]
  rw [if_neg n1z, bnd_eq, if_pos (is00 S)]
  rfl
theorem it_F {M S : Mem} {B : Nat → Nat} {cnt : Nat} {x : Int32} (hF : FOR M S B cnt) (hx : x < (0 : Int32) ∨ ∃ k, k < 2147483648 ∧ cnt ≤ k ∧ x = nI k) : d_X12_isTrace x S = some (nI 0, sI S 69 0 (1 : Int32)) := by
  have hc : cnt ≤ 20 := hF.2.2.1
  unfold d_X12_isTrace d_X12_isTrace_20
  rw [hF.2.1, in_F (by omega) hx]
  simp only [obind]
  rw [if_pos z00, bnd_eq, if_neg (is10 S)]
  rfl
theorem a_traces {M S : Mem} {cnt ns nc nf : Nat} (hI : INV M S cnt ns nc nf) : ASI d_X11_traces d_X12_traces M S := by
  obtain ⟨B, hF⟩ := inv_f hI
  refine ⟨nI cnt, sI S 69 0 (0 : Int32), ?_, ?_, sc_1 _ _⟩
  · unfold d_X11_traces
    rw [hF.1]
  · unfold d_X12_traces
    rw [bnd_eq, mI_ne (by omega), hF.2.1]
theorem a_steps {M S : Mem} {cnt ns nc nf : Nat} {x1 : Int32} (hI : INV M S cnt ns nc nf) : ASK (d_L_steps x1) (d_X12_steps x1) M S := by
  obtain ⟨B, hF⟩ := inv_f hI
  have hc : cnt ≤ 20 := hF.2.2.1
  rcases idx_c x1 cnt (by omega) with ⟨t, ht, rfl⟩ | hx
  · obtain ⟨⟨st, gm, fg, hT⟩, hbo, -⟩ := hF.2.2.2.2.2.2 t ht
    have hK : mK M (B t) = 9 := hT.1.2.1
    refine ask_v (v := mI S 90 t) (E := sI S 69 0 (0 : Int32)) (lT_steps ?_) ?_ (mI_eq _ _ _ _) (sc_1 _ _)
    · unfold d_X11_steps
      rw [ta_T hF ht]
      simp only [obind]
      rw [okk_pos hK, show mI M (B t) 0 = mI S 90 t from hT.2.1.1.trans hT.2.1.2.1.symm]
    · unfold d_X12_steps
      rw [it_T hF ht]
      simp only [obind]
      rw [if_neg n1z, okk_pos (of_eq_true (qinT (by omega) (by omega))), qcl (by omega), mI_ne (by omega)]
  · refine ask_t (k := nI 1) (v := nI 0) (E := sI S 69 0 (1 : Int32)) (lE1_steps ?_) ?_ (mI_eq _ _ _ _) n1n (sc_1 _ _)
    · unfold d_X11_steps
      rw [ta_F hF hx]
      rfl
    · unfold d_X12_steps
      rw [it_F hF hx]
      simp only [obind]
      rw [if_pos z00]
      rfl
theorem a_guards {M S : Mem} {cnt ns nc nf : Nat} {x1 : Int32} (hI : INV M S cnt ns nc nf) : ASK (d_L_guards x1) (d_X12_guards_ x1) M S := by
  obtain ⟨B, hF⟩ := inv_f hI
  have hc : cnt ≤ 20 := hF.2.2.1
  rcases idx_c x1 cnt (by omega) with ⟨t, ht, rfl⟩ | hx
  · obtain ⟨⟨st, gm, fg, hT⟩, hbo, -⟩ := hF.2.2.2.2.2.2 t ht
    have hK : mK M (B t) = 9 := hT.1.2.1
    refine ask_v (v := mI S 92 t) (E := sI S 69 0 (0 : Int32)) (lT_guards ?_) ?_ (mI_eq _ _ _ _) (sc_1 _ _)
    · unfold d_X11_guards
      rw [ta_T hF ht]
      simp only [obind]
      rw [okk_pos hK, show mI M (B t) 1 = mI S 92 t from hT.2.2.1.1.trans hT.2.2.1.2.1.symm]
    · unfold d_X12_guards_
      rw [it_T hF ht]
      simp only [obind]
      rw [if_neg n1z, okk_pos (of_eq_true (qinT (by omega) (by omega))), qcl (by omega), mI_ne (by omega)]
  · refine ask_t (k := nI 1) (v := nI 0) (E := sI S 69 0 (1 : Int32)) (lE1_guards ?_) ?_ (mI_eq _ _ _ _) n1n (sc_1 _ _)
    · unfold d_X11_guards
      rw [ta_F hF hx]
      rfl
    · unfold d_X12_guards_
      rw [it_F hF hx]
      simp only [obind]
      rw [if_pos z00]
      rfl
theorem a_rootOf {M S : Mem} {cnt ns nc nf : Nat} {x1 : Int32} (hI : INV M S cnt ns nc nf) : ASK (d_L_rootOf x1) (d_X12_rootOf x1) M S := by
  obtain ⟨B, hF⟩ := inv_f hI
  have hc : cnt ≤ 20 := hF.2.2.1
  rcases idx_c x1 cnt (by omega) with ⟨t, ht, rfl⟩ | hx
  · obtain ⟨⟨st, gm, fg, hT⟩, hbo, -⟩ := hF.2.2.2.2.2.2 t ht
    have hK : mK M (B t) = 9 := hT.1.2.1
    refine ask_v (v := mI S 93 t) (E := sI S 69 0 (0 : Int32)) (lT_rootOf ?_) ?_ (mI_eq _ _ _ _) (sc_1 _ _)
    · unfold d_X11_rootOf
      rw [ta_T hF ht]
      simp only [obind]
      rw [okk_pos hK, show mI M (B t) 12 = mI S 93 t from hT.2.2.2.1.1]
    · unfold d_X12_rootOf
      rw [it_T hF ht]
      simp only [obind]
      rw [if_neg n1z, okk_pos (of_eq_true (qinT (by omega) (by omega))), qcl (by omega), mI_ne (by omega)]
  · refine ask_t (k := nI 1) (v := nI 0) (E := sI S 69 0 (1 : Int32)) (lE1_rootOf ?_) ?_ (mI_eq _ _ _ _) n1n (sc_1 _ _)
    · unfold d_X11_rootOf
      rw [ta_F hF hx]
      rfl
    · unfold d_X12_rootOf
      rw [it_F hF hx]
      simp only [obind]
      rw [if_pos z00]
      rfl
theorem a_begun {M S : Mem} {cnt ns nc nf : Nat} {x1 : Int32} (hI : INV M S cnt ns nc nf) : ASK (d_L_begun x1) (d_X12_begun x1) M S := by
  obtain ⟨B, hF⟩ := inv_f hI
  have hc : cnt ≤ 20 := hF.2.2.1
  rcases idx_c x1 cnt (by omega) with ⟨t, ht, rfl⟩ | hx
  · obtain ⟨⟨st, gm, fg, hT⟩, hbo, -⟩ := hF.2.2.2.2.2.2 t ht
    have hK : mK M (B t) = 9 := hT.1.2.1
    refine ask_v (v := mI S 95 t) (E := sI S 69 0 (0 : Int32)) (lT_begun ?_) ?_ (mI_eq _ _ _ _) (sc_1 _ _)
    · unfold d_X11_begun
      rw [ta_T hF ht]
      simp only [obind]
      rw [okk_pos hK, show mI M (B t) 15 = mI S 95 t from hT.2.2.2.1.2.2.2.1]
    · unfold d_X12_begun
      rw [it_T hF ht]
      simp only [obind]
      rw [if_neg n1z, okk_pos (of_eq_true (qinT (by omega) (by omega))), qcl (by omega), mI_ne (by omega)]
  · refine ask_t (k := nI 1) (v := nI 0) (E := sI S 69 0 (1 : Int32)) (lE1_begun ?_) ?_ (mI_eq _ _ _ _) n1n (sc_1 _ _)
    · unfold d_X11_begun
      rw [ta_F hF hx]
      rfl
    · unfold d_X12_begun
      rw [it_F hF hx]
      simp only [obind]
      rw [if_pos z00]
      rfl
theorem a_isThere {M S : Mem} {cnt ns nc nf : Nat} {x1 : Int32} (hI : INV M S cnt ns nc nf) : ASK (d_L_isThere x1) (d_X12_isThere x1) M S := by
  obtain ⟨B, hF⟩ := inv_f hI
  have hc : cnt ≤ 20 := hF.2.2.1
  rcases idx_c x1 cnt (by omega) with ⟨t, ht, rfl⟩ | hx
  · obtain ⟨⟨st, gm, fg, hT⟩, hbo, -⟩ := hF.2.2.2.2.2.2 t ht
    have hK : mK M (B t) = 9 := hT.1.2.1
    refine ask_v (v := mI S 89 t) (E := sI S 69 0 (0 : Int32)) (lT_isThere hbo ?_) ?_ (mI_eq _ _ _ _) (sc_1 _ _)
    · unfold d_X11_isThere
      rw [ta_T hF ht]
      simp only [obind]
      rw [okk_pos hK, show mI M (B t) 14 = mI S 89 t from hT.2.2.2.1.2.2.1, okk_pos hbo]
    · unfold d_X12_isThere
      rw [it_T hF ht]
      simp only [obind]
      rw [if_neg n1z, okk_pos (of_eq_true (qinT (by omega) (by omega))), qcl (by omega), mI_ne (by omega)]
      rcases hbo with h | h
      · rw [if_pos h, h]
      · rw [if_neg (by rw [h]; decide), h]
  · refine ask_t (k := nI 1) (v := nI 0) (E := sI S 69 0 (1 : Int32)) (lE1_isThere ?_) ?_ (mI_eq _ _ _ _) n1n (sc_1 _ _)
    · unfold d_X11_isThere
      rw [ta_F hF hx]
      rfl
    · unfold d_X12_isThere
      rw [it_F hF hx]
      simp only [obind]
      rw [if_pos z00]
      rfl
theorem a_lineAt {M S : Mem} {cnt ns nc nf : Nat} {x1 x2 : Int32} (hI : INV M S cnt ns nc nf) : ASK (d_L_lineAt x1 x2) (d_X12_lineAt x1 x2) M S := by
  obtain ⟨B, hF⟩ := inv_f hI
  have hc : cnt ≤ 20 := hF.2.2.1
  rcases idx_c x1 cnt (by omega) with ⟨t, ht, rfl⟩ | hx
  · obtain ⟨⟨st, gm, fg, hT⟩, hbo, -⟩ := hF.2.2.2.2.2.2 t ht
    have hK : mK M (B t) = 9 := hT.1.2.1
    obtain ⟨q0, q1, q2, q3⟩ := hT.2.1
    rcases idx_c x2 st (by omega) with ⟨k, hk, rfl⟩ | hy
    · have r2 : mR M (B t) 2 = some (B t + 1) := (hT.1.2.2.2.1 0 (by omega)).1
      have k2 : mK M (B t + 1) = 21 := (hT.1.2.2.2.1 0 (by omega)).2
      have m2 : mN M (B t + 1) = st := hT.1.2.2.2.2.1
      refine ask_v (v := mI S 91 (30 * t + k)) (E := sI S 69 0 (0 : Int32)) (lT_lineAt ?_) ?_ (mI_eq _ _ _ _) (sc_1 _ _)
      · unfold d_X11_lineAt
        rw [ta_T hF ht]
        simp only [obind]
        rw [if_neg (rng_T hk (by omega)).1, okk_pos hK, q0, if_pos (rng_T hk (by omega)).2, okk_pos hK, r2]
        simp only [obind]
        rw [okk_pos k2, m2, okk_pos (of_eq_true (qinT (by omega) (by omega))), qcl (by omega), hT.2.2.2.2.1 k hk]
      · unfold d_X12_lineAt
        rw [it_T hF ht]
        simp only [obind]
        rw [if_neg n1z, okk_pos (of_eq_true (qinT (by omega) (by omega))), qcl (by omega), mI_ne (by omega), q1, in_T hk (by omega)]
        simp only [obind]
        rw [if_neg n1z, show (30 : Int32) * nI t + nI k = nI (30 * t + k) by rw [show (30 : Int32) = nI 30 from rfl, qmul, qadd], okk_pos (of_eq_true (qinT (by omega) (by omega))), qcl (by omega), mI_ne (by omega)]
    · refine ask_t (k := nI 2) (v := nI 0) (E := sI (sI S 69 0 (0 : Int32)) 69 0 (2 : Int32)) (lE2_lineAt ?_) ?_ (mI_eq _ _ _ _) n2n ((sc_1 _ _).trans (sc_1 _ _))
      · unfold d_X11_lineAt
        rw [ta_T hF ht]
        simp only [obind]
        rcases rng_F hy with c | ⟨c, d⟩
        · rw [if_pos c]; rfl
        · rw [if_neg c, okk_pos hK, q0, if_neg d]; rfl
      · unfold d_X12_lineAt
        rw [it_T hF ht]
        simp only [obind]
        rw [if_neg n1z, okk_pos (of_eq_true (qinT (by omega) (by omega))), qcl (by omega), mI_ne (by omega), q1, in_F (by omega) hy]
        simp only [obind]
        rw [if_pos z00]
        rfl
  · refine ask_t (k := nI 1) (v := nI 0) (E := sI S 69 0 (1 : Int32)) (lE1_lineAt ?_) ?_ (mI_eq _ _ _ _) n1n (sc_1 _ _)
    · unfold d_X11_lineAt
      rw [ta_F hF hx]
      rfl
    · unfold d_X12_lineAt
      rw [it_F hF hx]
      simp only [obind]
      rw [if_pos z00]
      rfl
theorem tg_T {M S : Mem} {B : Nat → Nat} {cnt t g gm : Nat} (hF : FOR M S B cnt) (ht : t < cnt) (hK : mK M (B t) = 9) (h1 : mI M (B t) 1 = nI gm) (hg : g < gm) (hm : gm ≤ 120) : d_X11_traceWithGuard (nI t) (nI g) M = some (.inl (B t), M) := by
  unfold d_X11_traceWithGuard
  rw [ta_T hF ht]
  simp only [obind]
  rw [if_neg (rng_T hg (by omega)).1, okk_pos hK, h1, if_pos (rng_T hg (by omega)).2]
theorem tg_F {M S : Mem} {B : Nat → Nat} {cnt t gm : Nat} {x : Int32} (hF : FOR M S B cnt) (ht : t < cnt) (hK : mK M (B t) = 9) (h1 : mI M (B t) 1 = nI gm) (hx : x < (0 : Int32) ∨ ∃ k, k < 2147483648 ∧ gm ≤ k ∧ x = nI k) : d_X11_traceWithGuard (nI t) x M = some (.inr "java/lang/IndexOutOfBoundsException", tk M 6) := by
  unfold d_X11_traceWithGuard d_X11_traceWithGuard_18
  rw [ta_T hF ht]
  simp only [obind]
  rcases rng_F hx with c | ⟨c, d⟩
  · rw [if_pos c]
  · rw [if_neg c, okk_pos hK, h1, if_neg d]
theorem tg_F0 {M S : Mem} {B : Nat → Nat} {cnt : Nat} {x1 x2 : Int32} (hF : FOR M S B cnt) (hx : x1 < (0 : Int32) ∨ ∃ k, k < 2147483648 ∧ cnt ≤ k ∧ x1 = nI k) : d_X11_traceWithGuard x1 x2 M = some (.inr "java/lang/IndexOutOfBoundsException", tk M 6) := by
  unfold d_X11_traceWithGuard
  rw [ta_F hF hx]
  rfl
theorem ig_T {M S : Mem} {B : Nat → Nat} {cnt t g gm : Nat} (hF : FOR M S B cnt) (ht : t < cnt) (h1 : mI S 92 t = nI gm) (hg : g < gm) (hm : gm ≤ 120) : d_X12_isGuard (nI t) (nI g) S = some (nI 1, sI S 69 0 (0 : Int32)) := by
  have hc : cnt ≤ 20 := hF.2.2.1
  unfold d_X12_isGuard d_X12_isGuard_36
  rw [hF.2.1, in_T ht (by omega)]
  simp only [obind]
  rw [if_neg n1z, okk_pos (of_eq_true (qinT (by omega) (by omega))), qcl (by omega), h1, in_T hg (by omega)]
  simp only [obind]
  rw [if_neg n1z, bnd_eq, if_pos (is00 S)]
  rfl
theorem ig_F {M S : Mem} {B : Nat → Nat} {cnt t gm : Nat} {x : Int32} (hF : FOR M S B cnt) (ht : t < cnt) (h1 : mI S 92 t = nI gm) (hm : gm ≤ 120) (hx : x < (0 : Int32) ∨ ∃ k, k < 2147483648 ∧ gm ≤ k ∧ x = nI k) : d_X12_isGuard (nI t) x S = some (nI 0, sI S 69 0 (1 : Int32)) := by
  have hc : cnt ≤ 20 := hF.2.2.1
  unfold d_X12_isGuard d_X12_isGuard_35 d_X12_isGuard_36
  rw [hF.2.1, in_T ht (by omega)]
  simp only [obind]
  rw [if_neg n1z, okk_pos (of_eq_true (qinT (by omega) (by omega))), qcl (by omega), h1, in_F (by omega) hx]
  simp only [obind]
  rw [if_pos z00, bnd_eq, if_neg (is10 S)]
  rfl
theorem ig_F0 {M S : Mem} {B : Nat → Nat} {cnt : Nat} {x1 x2 : Int32} (hF : FOR M S B cnt) (hx : x1 < (0 : Int32) ∨ ∃ k, k < 2147483648 ∧ cnt ≤ k ∧ x1 = nI k) : d_X12_isGuard x1 x2 S = some (nI 0, sI S 69 0 (1 : Int32)) := by
  have hc : cnt ≤ 20 := hF.2.2.1
  unfold d_X12_isGuard d_X12_isGuard_35 d_X12_isGuard_36
  rw [hF.2.1, in_F (by omega) hx]
  simp only [obind]
  rw [if_pos z00, bnd_eq, if_neg (is10 S)]
  rfl
theorem e120 (t g : Nat) : (120 : Int32) * nI t + nI g = nI (120 * t + g) := by rw [l_120, qmul, qadd]
theorem ch16 {x : Int32} (h : isCh x) : (x.toUInt32 % 65536).toInt32 = x := by
  obtain ⟨n, hn, e⟩ := isCh_nI (eq_true h)
  exact ch_cast e hn
theorem a_guardAt {M S : Mem} {cnt ns nc nf : Nat} {x1 x2 : Int32} (hI : INV M S cnt ns nc nf) : ASK (d_L_guardAt x1 x2) (d_X12_guardAt x1 x2) M S := by
  obtain ⟨B, hF⟩ := inv_f hI
  have hc : cnt ≤ 20 := hF.2.2.1
  rcases idx_c x1 cnt (by omega) with ⟨t, ht, rfl⟩ | hx
  · obtain ⟨⟨st, gm, fg, hT⟩, hbo, -⟩ := hF.2.2.2.2.2.2 t ht
    have hK : mK M (B t) = 9 := hT.1.2.1
    obtain ⟨q0, q1, q2⟩ := hT.2.2.1
    rcases idx_c x2 gm (by omega) with ⟨g, hg, rfl⟩ | hy
    · have hg0 := hT.2.2.2.2.2.1 g hg
      have r2 : mR M (B t) 4 = some (B t + 3) := (hT.1.2.2.2.1 2 (by omega)).1
      have k2 : mK M (B t + 3) = 21 := (hT.1.2.2.2.1 2 (by omega)).2
      have m2 : mN M (B t + 3) = gm := hT.1.2.2.2.2.2.2 2 (by omega) (by omega)
      refine ask_v (v := mI S 97 (120 * t + g)) (E := sI S 69 0 (0 : Int32)) (lT_guardAt ?_) ?_ (mI_eq _ _ _ _) (sc_1 _ _)
      · have hch := of_eq_true hg0.2.2.2.2.2.2.2.2
        unfold d_X11_guardAt
        rw [tg_T hF ht hK q0 hg q2]
        simp only [obind]
        rw [okk_pos hK, r2]
        simp only [obind]
        rw [okk_pos k2, m2, okk_pos (of_eq_true (qinT (by omega) (by omega))), qcl (by omega), show mI M (B t + 3) g = mI S 97 (120 * t + g) from hg0.1]
        rw [ch16 hch]
        exact okk_pos hch
      · unfold d_X12_guardAt
        rw [ig_T hF ht q1 hg q2]
        simp only [obind]
        rw [if_neg n1z, e120, okk_pos (of_eq_true (qinT (by omega) (by omega))), qcl (by omega), mI_ne (by omega)]
        exact okk_pos (of_eq_true hg0.2.2.2.2.2.2.2.2)
    · refine ask_t (k := nI 1) (v := nI 0) (E := sI S 69 0 (1 : Int32)) (lE1_guardAt ?_) ?_ (mI_eq _ _ _ _) n1n (sc_1 _ _)
      · unfold d_X11_guardAt
        rw [tg_F hF ht hK q0 hy]
        rfl
      · unfold d_X12_guardAt
        rw [ig_F hF ht q1 q2 hy]
        simp only [obind]
        rw [if_pos z00]
        rfl
  · refine ask_t (k := nI 1) (v := nI 0) (E := sI S 69 0 (1 : Int32)) (lE1_guardAt ?_) ?_ (mI_eq _ _ _ _) n1n (sc_1 _ _)
    · unfold d_X11_guardAt
      rw [tg_F0 hF hx]
      rfl
    · unfold d_X12_guardAt
      rw [ig_F0 hF hx]
      simp only [obind]
      rw [if_pos z00]
      rfl
theorem a_guardStep {M S : Mem} {cnt ns nc nf : Nat} {x1 x2 : Int32} (hI : INV M S cnt ns nc nf) : ASK (d_L_guardStep x1 x2) (d_X12_guardStep x1 x2) M S := by
  obtain ⟨B, hF⟩ := inv_f hI
  have hc : cnt ≤ 20 := hF.2.2.1
  rcases idx_c x1 cnt (by omega) with ⟨t, ht, rfl⟩ | hx
  · obtain ⟨⟨st, gm, fg, hT⟩, hbo, -⟩ := hF.2.2.2.2.2.2 t ht
    have hK : mK M (B t) = 9 := hT.1.2.1
    obtain ⟨q0, q1, q2⟩ := hT.2.2.1
    rcases idx_c x2 gm (by omega) with ⟨g, hg, rfl⟩ | hy
    · have hg0 := hT.2.2.2.2.2.1 g hg
      have r2 : mR M (B t) 5 = some (B t + 4) := (hT.1.2.2.2.1 3 (by omega)).1
      have k2 : mK M (B t + 4) = 21 := (hT.1.2.2.2.1 3 (by omega)).2
      have m2 : mN M (B t + 4) = gm := hT.1.2.2.2.2.2.2 3 (by omega) (by omega)
      refine ask_v (v := mI S 98 (120 * t + g)) (E := sI S 69 0 (0 : Int32)) (lT_guardStep ?_) ?_ (mI_eq _ _ _ _) (sc_1 _ _)
      · unfold d_X11_guardStep
        rw [tg_T hF ht hK q0 hg q2]
        simp only [obind]
        rw [okk_pos hK, r2]
        simp only [obind]
        rw [okk_pos k2, m2, okk_pos (of_eq_true (qinT (by omega) (by omega))), qcl (by omega), show mI M (B t + 4) g = mI S 98 (120 * t + g) from hg0.2.1]
      · unfold d_X12_guardStep
        rw [ig_T hF ht q1 hg q2]
        simp only [obind]
        rw [if_neg n1z, e120, okk_pos (of_eq_true (qinT (by omega) (by omega))), qcl (by omega), mI_ne (by omega)]
    · refine ask_t (k := nI 1) (v := nI 0) (E := sI S 69 0 (1 : Int32)) (lE1_guardStep ?_) ?_ (mI_eq _ _ _ _) n1n (sc_1 _ _)
      · unfold d_X11_guardStep
        rw [tg_F hF ht hK q0 hy]
        rfl
      · unfold d_X12_guardStep
        rw [ig_F hF ht q1 q2 hy]
        simp only [obind]
        rw [if_pos z00]
        rfl
  · refine ask_t (k := nI 1) (v := nI 0) (E := sI S 69 0 (1 : Int32)) (lE1_guardStep ?_) ?_ (mI_eq _ _ _ _) n1n (sc_1 _ _)
    · unfold d_X11_guardStep
      rw [tg_F0 hF hx]
      rfl
    · unfold d_X12_guardStep
      rw [ig_F0 hF hx]
      simp only [obind]
      rw [if_pos z00]
      rfl
theorem a_exits {M S : Mem} {cnt ns nc nf : Nat} {x1 x2 : Int32} (hI : INV M S cnt ns nc nf) : ASK (d_L_exits x1 x2) (d_X12_exits x1 x2) M S := by
  obtain ⟨B, hF⟩ := inv_f hI
  have hc : cnt ≤ 20 := hF.2.2.1
  rcases idx_c x1 cnt (by omega) with ⟨t, ht, rfl⟩ | hx
  · obtain ⟨⟨st, gm, fg, hT⟩, hbo, -⟩ := hF.2.2.2.2.2.2 t ht
    have hK : mK M (B t) = 9 := hT.1.2.1
    obtain ⟨q0, q1, q2⟩ := hT.2.2.1
    rcases idx_c x2 gm (by omega) with ⟨g, hg, rfl⟩ | hy
    · have hg0 := hT.2.2.2.2.2.1 g hg
      have r2 : mR M (B t) 8 = some (B t + 7) := (hT.1.2.2.2.1 6 (by omega)).1
      have k2 : mK M (B t + 7) = 21 := (hT.1.2.2.2.1 6 (by omega)).2
      have m2 : mN M (B t + 7) = gm := hT.1.2.2.2.2.2.2 6 (by omega) (by omega)
      refine ask_v (v := mI S 101 (120 * t + g)) (E := sI S 69 0 (0 : Int32)) (lT_exits ?_) ?_ (mI_eq _ _ _ _) (sc_1 _ _)
      · unfold d_X11_exits
        rw [tg_T hF ht hK q0 hg q2]
        simp only [obind]
        rw [okk_pos hK, r2]
        simp only [obind]
        rw [okk_pos k2, m2, okk_pos (of_eq_true (qinT (by omega) (by omega))), qcl (by omega), show mI M (B t + 7) g = mI S 101 (120 * t + g) from hg0.2.2.2.2.1]
      · unfold d_X12_exits
        rw [ig_T hF ht q1 hg q2]
        simp only [obind]
        rw [if_neg n1z, e120, okk_pos (of_eq_true (qinT (by omega) (by omega))), qcl (by omega), mI_ne (by omega)]
    · refine ask_t (k := nI 1) (v := nI 0) (E := sI S 69 0 (1 : Int32)) (lE1_exits ?_) ?_ (mI_eq _ _ _ _) n1n (sc_1 _ _)
      · unfold d_X11_exits
        rw [tg_F hF ht hK q0 hy]
        rfl
      · unfold d_X12_exits
        rw [ig_F hF ht q1 q2 hy]
        simp only [obind]
        rw [if_pos z00]
        rfl
  · refine ask_t (k := nI 1) (v := nI 0) (E := sI S 69 0 (1 : Int32)) (lE1_exits ?_) ?_ (mI_eq _ _ _ _) n1n (sc_1 _ _)
    · unfold d_X11_exits
      rw [tg_F0 hF hx]
      rfl
    · unfold d_X12_exits
      rw [ig_F0 hF hx]
      simp only [obind]
      rw [if_pos z00]
      rfl
theorem a_sideOf {M S : Mem} {cnt ns nc nf : Nat} {x1 x2 : Int32} (hI : INV M S cnt ns nc nf) : ASK (d_L_sideOf x1 x2) (d_X12_sideOf x1 x2) M S := by
  obtain ⟨B, hF⟩ := inv_f hI
  have hc : cnt ≤ 20 := hF.2.2.1
  rcases idx_c x1 cnt (by omega) with ⟨t, ht, rfl⟩ | hx
  · obtain ⟨⟨st, gm, fg, hT⟩, hbo, -⟩ := hF.2.2.2.2.2.2 t ht
    have hK : mK M (B t) = 9 := hT.1.2.1
    obtain ⟨q0, q1, q2⟩ := hT.2.2.1
    rcases idx_c x2 gm (by omega) with ⟨g, hg, rfl⟩ | hy
    · have hg0 := hT.2.2.2.2.2.1 g hg
      have r2 : mR M (B t) 11 = some (B t + 10) := (hT.1.2.2.2.1 9 (by omega)).1
      have k2 : mK M (B t + 10) = 21 := (hT.1.2.2.2.1 9 (by omega)).2
      have m2 : mN M (B t + 10) = gm := hT.1.2.2.2.2.2.2 9 (by omega) (by omega)
      by_cases q : mI S 104 (120 * t + g) = (-1 : Int32)
      · refine ask_t (k := nI 2) (v := nI 0) (E := sI (sI S 69 0 (0 : Int32)) 69 0 (2 : Int32)) (lE2_sideOf ?_) ?_ (mI_eq _ _ _ _) n2n ((sc_1 _ _).trans (sc_1 _ _))
        · unfold d_X11_sideOf
          rw [tg_T hF ht hK q0 hg q2]
          simp only [obind]
          rw [okk_pos hK, r2]
          simp only [obind]
          rw [okk_pos k2, m2, okk_pos (of_eq_true (qinT (by omega) (by omega))), qcl (by omega), show mI M (B t + 10) g = mI S 104 (120 * t + g) from hg0.2.2.2.2.2.2.2.1]
          rw [bnd_eq, if_pos q]
        · unfold d_X12_sideOf
          rw [ig_T hF ht q1 hg q2]
          simp only [obind]
          rw [if_neg n1z, e120, okk_pos (of_eq_true (qinT (by omega) (by omega))), qcl (by omega), mI_ne (by omega)]
          rw [bnd_eq, if_pos q]
          rfl
      · skip
        refine ask_v (v := mI S 104 (120 * t + g)) (E := sI S 69 0 (0 : Int32)) (lT_sideOf ?_) ?_ (mI_eq _ _ _ _) (sc_1 _ _)
        · unfold d_X11_sideOf
          rw [tg_T hF ht hK q0 hg q2]
          simp only [obind]
          rw [okk_pos hK, r2]
          simp only [obind]
          rw [okk_pos k2, m2, okk_pos (of_eq_true (qinT (by omega) (by omega))), qcl (by omega), show mI M (B t + 10) g = mI S 104 (120 * t + g) from hg0.2.2.2.2.2.2.2.1]
          rw [bnd_eq, if_neg q]
        · unfold d_X12_sideOf
          rw [ig_T hF ht q1 hg q2]
          simp only [obind]
          rw [if_neg n1z, e120, okk_pos (of_eq_true (qinT (by omega) (by omega))), qcl (by omega), mI_ne (by omega)]
          rw [bnd_eq, if_neg q]
    · refine ask_t (k := nI 1) (v := nI 0) (E := sI S 69 0 (1 : Int32)) (lE1_sideOf ?_) ?_ (mI_eq _ _ _ _) n1n (sc_1 _ _)
      · unfold d_X11_sideOf
        rw [tg_F hF ht hK q0 hy]
        rfl
      · unfold d_X12_sideOf
        rw [ig_F hF ht q1 q2 hy]
        simp only [obind]
        rw [if_pos z00]
        rfl
  · refine ask_t (k := nI 1) (v := nI 0) (E := sI S 69 0 (1 : Int32)) (lE1_sideOf ?_) ?_ (mI_eq _ _ _ _) n1n (sc_1 _ _)
    · unfold d_X11_sideOf
      rw [tg_F0 hF hx]
      rfl
    · unfold d_X12_sideOf
      rw [ig_F0 hF hx]
      simp only [obind]
      rw [if_pos z00]
      rfl
end MZ4
