/-! ===== contracts from V; returns; calls ===== -/
section VMR
theorem xKn_move {D : xG} {u U : State} (hvm : u.vm.Alike U.vm) (h : xKn D u) : xKn D U :=
  ⟨fun t h1 h2 => u_Kn_moved hvm (h.1 t h1 h2), fun t h1 h2 => arrOfT_moved hvm (h.2.1 t h1 h2), fun t h1 h2 => (h.2.2 t h1 h2).moved hvm⟩
theorem xT2_warm {s U : State} (hW : s.WarmedH U.vm) (h : ∀ w ∈ xT2, va_Nw w s) : ∀ w ∈ xT2, va_Nw w U := by
  have key : ∀ w, (match w with | .castable _ _ => true | .declares _ => true | .methodLinkNest _ _ _ _ => true | _ => false) = true → va_Nw w s → va_Nw w U := by
    intro w hw hz
    cases w <;> first | (cases hw; done) | exact va_Nw.warmC hW hz | exact va_Nw.warmD hW hz | exact va_Nw.warmM hW hz
  intro w hw
  exact key w (List.all_eq_true.mp (show xT2.all (fun w => match w with | .castable _ _ => true | .declares _ => true | .methodLinkNest _ _ _ _ => true | _ => false) = true by decide +kernel) w hw) (h w hw)
theorem xEv_move {base : Nat} {ad : Nat → Nat} {s U : State} {H H1 : Heap} (hW : s.WarmedH U.vm) (hq : ∀ a : Nat, a < H.size → ¬ xA base a → H1[a]? = H[a]?) (h : xEv base ad s H) : xEv base ad U H1 := by
  obtain ⟨h1, h2, h3, h4, h5, h6, h7, h8⟩ := h
  refine ⟨(vx_Zq.moved hW.alike h1).kept hq, (vx_Zq.moved hW.alike h2).kept hq, fun q hqm => ?_, (va_Z.moved hW.alike h4).kept hq, fun i q hqm => ?_, xT2_warm hW h6, fun q hqm => va_Nc.moved hW.alike (h7 q hqm), va_AO.moved hW.alike h8⟩
  · obtain ⟨sa, g⟩ := h3 q hqm
    exact ⟨sa, vk_R.warm hW g⟩
  · obtain ⟨g1, g2, g3, g4, g5⟩ := h5 i q hqm
    exact ⟨vk_R.warm hW g1, (va_O.moved hW.alike g2).kept hq, (va_OF.moved hW.alike g3).kept hq, (va_OF.moved hW.alike g4).kept hq, (va_T.moved hW.alike g5).kept hq⟩
theorem xEv_ad {base : Nat} {ad ad' : Nat → Nat} {U : State} {H : Heap} (hE : ∀ q, ad' (2147483648 + q) = ad (2147483648 + q)) (h : xEv base ad U H) : xEv base ad' U H := by
  obtain ⟨h1, h2, h3, h4, h5, h6, h7⟩ := h
  exact ⟨h1, h2, h3, h4, fun i q hq => by rw [hE i, hE (1000 + i)]; exact h5 i q hq, h6, h7⟩
theorem xRep_grow {D : xG} {ad : Nat → Nat} {base : Nat} {M : Mem} {H H1 : Heap} (hk : ∀ q : Nat, q < H.size → H1[q]? = H[q]?) (h : xRep D ad base M H) : xRep D ad base M H1 := by
  refine ⟨fun a ha => ?_, h.2⟩
  obtain ⟨⟨cb, Vb, g1, g2⟩, hb⟩ := h.1 a ha
  exact ⟨⟨cb, Vb, by rw [hk _ (Array.getElem?_eq_some_iff.mp g1).1]; exact g1, g2⟩, hb⟩
theorem xRl_args {ad : Nat → Nat} {M : Mem} : ∀ {xs ys : List Value} (i : Nat), xRvs ad M xs ys → xRl ad M (lv_args i xs) (lv_args i ys)
  | [], [], _, _ => trivial
  | x :: xs, y :: ys, i, h => by
    show xRl ad M ((i, x) :: lv_args (if x.category = 2 then i + 2 else i + 1) xs) ((i, y) :: lv_args (if y.category = 2 then i + 2 else i + 1) ys)
    rw [xRv_cat h.1]
    exact ⟨⟨rfl, h.1⟩, xRl_args _ h.2⟩
  | [], _ :: _, _, h => h.elim
  | _ :: _, [], _, h => h.elim
theorem lg_sl_len {ad : Nat → Nat} {M : Mem} : ∀ {xs ys : List Value}, xRvs ad M xs ys → (lg_sl ys).length = (lg_sl xs).length
  | [], [], _ => rfl
  | x :: xs, y :: ys, h => by
    have ih := lg_sl_len h.2
    simp only [lg_sl, List.flatMap_cons, List.length_append] at ih ⊢
    rw [ih, xRv_cat h.1]
    by_cases hc : x.category = 2 <;> simp [hc]
  | [], _ :: _, h => h.elim
  | _ :: _, [], h => h.elim
theorem kHd_spec {k : MI} {args : Array Value} {s : State} {m : MethodId} (h : (kHd k).before args s = true) (hn : s.methodNamed? (kY k) = some m) :
    ∃ (meth : Method) (c : Code), s.vm.method? m = some meth ∧ meth.code = some c ∧ c.code = kCC k ∧ c.maxLocals = kNL k ∧ meth.sig.returnType = kRet k ∧ meth.locks = false ∧ parseMethodDescriptor (kY k).desc = some meth.sig ∧ c.exceptionTable.toList = tableOf (kHH k) := by
  unfold kHd at h
  by_cases hh : kHH k = []
  · rw [if_pos hh] at h
    obtain ⟨meth, c, h1, h2, h3, h4, h5, h6, h7, h8⟩ := Cond.code_spec hn h
    refine ⟨meth, c, h1, h2, h3, h4, h5, h6, h8, ?_⟩
    rw [Array.isEmpty_iff.mp h7, hh]; rfl
  · rw [if_neg hh] at h
    obtain ⟨m9, meth, c, hn9, h1, h2, h3, h4, h6, h5, h7, h8⟩ := Cond.codeWith_spec h
    cases hn.symm.trans hn9
    refine ⟨meth, c, h1, h2, h3, h4, h5, h7, h8, ?_⟩
    rw [← h6, table_eq]
theorem kHd_named {k : MI} {args : Array Value} {s : State} (h : (kHd k).before args s = true) : ∃ m, s.methodNamed? (kY k) = some m := by
  unfold kHd at h
  by_cases hh : kHH k = []
  · rw [if_pos hh] at h
    exact Cond.code_named h
  · rw [if_neg hh] at h
    obtain ⟨m9, meth, c, hn9, -⟩ := Cond.codeWith_spec h
    exact ⟨m9, hn9⟩
set_option maxHeartbeats 1000000 in
/-- a contract, out of the body's run from its first place -/
theorem CTk.ofVF {k : MI} {nc ns : Nat} {avs : List Value} {M : Mem} {Q : xQ} {X : xX} (hpl : plainFor (kY k) = true) (hown : (kY k).cls = kOwn k) (hsl : (lg_sl avs).length ≤ kNL k)
    (h : V k 0 (lv_args 0 avs) [] nc ns M Q X) : CTk k nc ns avs M Q X := by
  intro l base D ad ravs hfl hrv
  refine MetFree.of_bodySF (code := kCC k) (maxLocals := kNL k) (ret := kRet k) hpl ?_ ?_
  · intro args s m hp hn
    obtain ⟨meth, c, h1, h2, h3, h4, h5, h6, -, -⟩ := kHd_spec (atoms_spec (ws := xws k) hp _ List.mem_cons_self) hn
    exact ⟨meth, c, h1, h2, h3, h4, h5, h6⟩
  · intro p e s m args below meth c s₁ B hml hP _
    obtain ⟨rfl, hbase, hRep, hKn, hEv⟩ := hP
    have hh0 : s₁.heap = s.heap := by rw [B.state]; rfl
    have X0 : Stand p l e (headSpec (xws k) { frames := kDep k, cells := nc, slots := ns, locals := kLoc k }).room (s.setDrawn s.drawn) m ravs.toArray below meth c s₁ [] 0 0 := Stand.of_body B
    have hts : ∀ w ∈ xws k, w.before ravs.toArray s = true := atoms_spec (ws := xws k) B.pre
    obtain ⟨meth9, c9, h1, h2, h3, h4, h5, h6, h7, h8⟩ := kHd_spec (hts _ List.mem_cons_self) B.named
    cases Option.some.inj (h1.symm.trans B.method)
    cases Option.some.inj (h2.symm.trans X0.code)
    have hl := lv_entry ravs (n := kNL k) (by rw [lg_sl_len hrv]; exact hsl)
    have hfr0 : xFr base s.heap s.heap := ⟨Nat.le_refl _, fun _ _ _ => rfl⟩
    have K := h p l e (headSpec (xws k) { frames := kDep k, cells := nc, slots := ns, locals := kLoc k }).room s m ravs.toArray below meth c base D
      (fun t => ∃ o, t.status = .running ∧ Ended t below o ∧ ∃ d : Drawn, s.drawn.sameBut d lw_cs ∧ vx_Q (fun _ st o t => ∃ (r rv : Option Value) (M' : Mem) (ad' : Nat → Nat), o = .returned rv ∧ xRo ad' M' r rv ∧ Q r M' ∧ xExt M ad M' ad' ∧ xW D base ad' M' t ∧ va_F (xA base) st t)
        (fun E st t => ∃ (M' : Mem) (ad' : Nat → Nat), X E M' ∧ xExt M ad M' ad' ∧ xW D base ad' M' t ∧ va_F (xA base) st t) nc ns (xA base) ravs.toArray (s.setDrawn d) o t)
      M ad nc ns ad s.heap [] 0 0 s.drawn _ []
      ⟨B.exec, B.bytes, hml, B.notSynchronized, B.returns, (name_of_methodNamed B.named B.method).1, h8, by rw [← hown]; exact findClass_of_methodNamed B.named, fun w hw => hts w (List.mem_cons_of_mem _ hw), hfl, hKn, hEv, hbase, Nat.le_refl _, Nat.le_refl _, Nat.le_refl _, Nat.le_refl _, ?_, ?_⟩
      ⟨hRep, va_S.rf, Drawn.sameBut.refl _ _, by omega, by omega, xExt_refl _ _, _, hl, xRl_args 0 hrv⟩ trivial
    · rw [← lg_entry_eq] at K
      obtain ⟨t, a1, o, b1, b2, d, b3, b4⟩ := K s₁ hh0 X0
      exact ⟨t, o, a1, b1, b2, d, b3, b4⟩
    · intro r rv M' ad' H d hQ hE hR hd hro hfr t ht
      obtain ⟨o, b1, b2, ⟨e1, e2, e3⟩, L, f1, f2⟩ := ht
      have hW : s.WarmedH t.vm := e3
      refine ⟨o, b1, b2, d, hd, Or.inl ⟨⟨r, rv, M', ad', e1, hro, hQ, hE, ⟨?_, by rw [e2]; exact hR, xKn_move hW.alike hKn, xEv_ad hE.2 <| xEv_move hW (fun q g1 g2 => by rw [e2]; exact hfr.2 q g1 g2) hEv⟩, ?_⟩, L, f1, f2⟩⟩
      · rw [e2]; exact Nat.le_trans hbase hfr.1
      · exact ⟨by rw [e2]; exact hfr.1, fun q g1 g2 => by rw [e2]; exact hfr.2 q g1 g2⟩
    · intro E M' ad' H d hX hE hR hd hfr t ht
      obtain ⟨o, b1, b2, b3⟩ := ht
      rcases b3 with ⟨hf, -⟩ | ⟨q, e0, E', ce, L, ⟨rfl, al, hz, hk⟩, g1, g2, g3, g4, g5, g6⟩
      · exact hf.elim
      · have hW : s.WarmedH t.vm := g4
        refine ⟨o, b1, b2, d, hd, Or.inr ⟨q, e0, E', ce, L, ⟨M', ad', hX, hE, ⟨?_, xRep_grow hk hR, xKn_move hW.alike hKn, xEv_ad hE.2 <| xEv_move hW (fun q g1 g2 => by rw [hk q (Nat.lt_of_lt_of_le g1 hfr.1)]; exact hfr.2 q g1 g2) hEv⟩, ?_⟩, g1, g2, g3, g4, g5, g6⟩⟩
        · exact Nat.le_trans hbase (Nat.le_trans hfr.1 hz)
        · exact ⟨Nat.le_trans hfr.1 hz, fun q g1 g2 => by rw [hk q (Nat.lt_of_lt_of_le g1 hfr.1)]; exact hfr.2 q g1 g2⟩
theorem CTk.ofV {k : MI} {nc ns : Nat} {avs : List Value} {M : Mem} {Q : xQ} {X : xX} (hpl : plainName (kY k).cls = true) (hown : (kY k).cls = kOwn k) (hsl : (lg_sl avs).length ≤ kNL k)
    (h : V k 0 (lv_args 0 avs) [] nc ns M Q X) : CTk k nc ns avs M Q X := CTk.ofVF (plainFor_of_name hpl) hown hsl h
theorem xS_fr {base : Nat} {H0 H : Heap} {locs : List Loc} (h : va_S (xA base) H0 H locs) : xFr base H0 H := ⟨h.1, h.2.1⟩
section RET
variable {k : MI} {pc : Nat} {lv : List (Nat × Value)} {nc ns : Nat} {M : Mem} {Q : xQ} {X : xX}
theorem V_iret {v : Int32} {ty : FieldType} (hr : kRet k = some ty) (hn : narrow ty (.int v) = .int v) (hd : decode (kCC k) pc = .ok (.ireturn, 1)) (hq : Q (some (.int v)) M) : V k pc lv [.int v] nc ns M Q X := by
  intro p l e R s m args below meth c base D Z M0 ad0 mc ms ad H locs cells slots d ls rst hF hN hst
  obtain ⟨hx, hb, hml, hlk, hret, -, -, -, -, -, -, -, -, -, -, -, -, hE1, -⟩ := hF
  obtain ⟨a1, a2, a3, a4, a5, a6, a7⟩ := hN
  obtain ⟨y, ys, rfl, e1, e2⟩ := xRvs_cons hst
  rw [xRvs_nil e2, show y = .int v from e1]
  refine W.mono (hE1 (some (.int v)) (some (.int v)) M ad H d hq a6 a1 a3 rfl (xS_fr a2)) (W.widen (k := mc) (n := ms) (by omega) (by omega) ?_)
  exact W.zret (ty := ty) hx hb (by rw [hret, hr]) hn (fun t ht hW => ⟨rfl, ht, hW⟩) (fun q hq => a2.2.2 q hq) hd hlk
theorem V_lret {v : Int64} (hr : kRet k = some .long) (hd : decode (kCC k) pc = .ok (.lreturn, 1)) (hq : Q (some (.long v)) M) : V k pc lv [.long v] nc ns M Q X := by
  intro p l e R s m args below meth c base D Z M0 ad0 mc ms ad H locs cells slots d ls rst hF hN hst
  obtain ⟨hx, hb, hml, hlk, hret, -, -, -, -, -, -, -, -, -, -, -, -, hE1, -⟩ := hF
  obtain ⟨a1, a2, a3, a4, a5, a6, a7⟩ := hN
  obtain ⟨y, ys, rfl, e1, e2⟩ := xRvs_cons hst
  rw [xRvs_nil e2, show y = .long v from e1]
  refine W.mono (hE1 (some (.long v)) (some (.long v)) M ad H d hq a6 a1 a3 rfl (xS_fr a2)) (W.widen (k := mc) (n := ms) (by omega) (by omega) ?_)
  exact W.lret hx hb (by rw [hret, hr]) (fun t ht hW => ⟨rfl, ht, hW⟩) (fun q hq => a2.2.2 q hq) hd hlk
theorem V_fret {v : UInt32} (hr : kRet k = some .float) (hd : decode (kCC k) pc = .ok (.freturn, 1)) (hq : Q (some (.float v)) M) : V k pc lv [.float v] nc ns M Q X := by
  intro p l e R s m args below meth c base D Z M0 ad0 mc ms ad H locs cells slots d ls rst hF hN hst
  obtain ⟨hx, hb, hml, hlk, hret, -, -, -, -, -, -, -, -, -, -, -, -, hE1, -⟩ := hF
  obtain ⟨a1, a2, a3, a4, a5, a6, a7⟩ := hN
  obtain ⟨y, ys, rfl, e1, e2⟩ := xRvs_cons hst
  rw [xRvs_nil e2, show y = .float v from e1]
  refine W.mono (hE1 (some (.float v)) (some (.float v)) M ad H d hq a6 a1 a3 rfl (xS_fr a2)) (W.widen (k := mc) (n := ms) (by omega) (by omega) ?_)
  exact W.fret hx hb (by rw [hret, hr]) (fun t ht hW => ⟨rfl, ht, hW⟩) (fun q hq => a2.2.2 q hq) hd hlk
theorem V_dret {v : UInt64} (hr : kRet k = some .double) (hd : decode (kCC k) pc = .ok (.dreturn, 1)) (hq : Q (some (.double v)) M) : V k pc lv [.double v] nc ns M Q X := by
  intro p l e R s m args below meth c base D Z M0 ad0 mc ms ad H locs cells slots d ls rst hF hN hst
  obtain ⟨hx, hb, hml, hlk, hret, -, -, -, -, -, -, -, -, -, -, -, -, hE1, -⟩ := hF
  obtain ⟨a1, a2, a3, a4, a5, a6, a7⟩ := hN
  obtain ⟨y, ys, rfl, ⟨w, rfl, e1⟩, e2⟩ := xRvs_cons hst
  rw [xRvs_nil e2]
  refine W.mono (hE1 (some (.double v)) (some (.double w)) M ad H d hq a6 a1 a3 ⟨w, rfl, e1⟩ (xS_fr a2)) (W.widen (k := mc) (n := ms) (by omega) (by omega) ?_)
  exact W.dret hx hb (by rw [hret, hr]) (fun t ht hW => ⟨rfl, ht, hW⟩) (fun q hq => a2.2.2 q hq) hd hlk
theorem V_vret (hr : kRet k = none) (hd : decode (kCC k) pc = .ok (.return_, 1)) (hq : Q none M) : V k pc lv [] nc ns M Q X := by
  intro p l e R s m args below meth c base D Z M0 ad0 mc ms ad H locs cells slots d ls rst hF hN hst
  obtain ⟨hx, hb, hml, hlk, hret, -, -, -, -, -, -, -, -, -, -, -, -, hE1, -⟩ := hF
  obtain ⟨a1, a2, a3, a4, a5, a6, a7⟩ := hN
  rw [xRvs_nil hst]
  refine W.mono (hE1 none none M ad H d hq a6 a1 a3 trivial (xS_fr a2)) (W.widen (k := mc) (n := ms) (by omega) (by omega) ?_)
  exact W.vret hx hb (by rw [hret, hr]) (fun t ht hW => ⟨rfl, ht, hW⟩) (fun q hq => a2.2.2 q hq) hd hlk
theorem V_aret {a : Nat} {ty : FieldType} (hr : kRet k = some ty) (hty : (∃ n, ty = .object n) ∨ ∃ t, ty = .array t) (hd : decode (kCC k) pc = .ok (.areturn, 1)) (hq : Q (some (.ref a)) M) : V k pc lv [.ref a] nc ns M Q X := by
  intro p l e R s m args below meth c base D Z M0 ad0 mc ms ad H locs cells slots d ls rst hF hN hst
  obtain ⟨hx, hb, hml, hlk, hret, -, -, -, -, -, -, -, -, -, -, -, -, hE1, -⟩ := hF
  obtain ⟨a1, a2, a3, a4, a5, a6, a7⟩ := hN
  obtain ⟨y, ys, rfl, ⟨rfl, e1⟩, e2⟩ := xRvs_cons hst
  rw [xRvs_nil e2]
  refine W.mono (hE1 (some (.ref a)) (some (.ref (ad a))) M ad H d hq a6 a1 a3 ⟨rfl, e1⟩ (xS_fr a2)) (W.widen (k := mc) (n := ms) (by omega) (by omega) ?_)
  exact W.aret hx hb (rt := ty) (by rw [hret, hr]) hty (Or.inr ⟨_, rfl⟩) (fun t ht hW => ⟨rfl, ht, hW⟩) (fun q hq => a2.2.2 q hq) hd hlk
theorem V.mono {st : List Value} {nc' ns' : Nat} (h1 : nc' ≤ nc) (h2 : ns' ≤ ns) (h : V k pc lv st nc' ns' M Q X) : V k pc lv st nc ns M Q X := by
  intro p l e R s m args below meth c base D Z M0 ad0 mc ms ad H locs cells slots d ls rst hF hN hst
  exact h p l e R s m args below meth c base D Z M0 ad0 mc ms ad H locs cells slots d ls rst hF (hN.mono h1 h2) hst
theorem VT_out {E : String} (hout : ∀ x ∈ tableOf (kHH k), covers x pc = false) (hX : X E M) : VT k pc lv E nc ns M Q X := by
  intro p l e R s m args below meth c base D Z M0 ad0 mc ms ad H locs cells slots d ls rst q ce hF hN hce hv hcl
  obtain ⟨hx, hb, hml, hlk, hret, -, htb, -, -, -, -, -, -, -, -, -, -, -, hE2⟩ := hF
  obtain ⟨a1, a2, a3, a4, a5, a6, a7⟩ := hN
  have K : vx_W p l e R (s.setDrawn d) m args below meth c H locs cells slots (vx_MQ below (fun _ _ _ _ => False) (fun E' st t => E' = E ∧ st.vm.Alike t.vm ∧ H.size ≤ t.heap.size ∧ ∀ q : Nat, q < H.size → t.heap[q]? = H[q]?) args (s.setDrawn d) mc ms (xA base)) (F0 m pc ls rst) q :=
    vx_out (by rw [htb]; exact hout) hlk hce hv hcl (fun t ht hA => ⟨rfl, hA, by rw [ht]; exact Nat.le_refl _, fun q _ => by rw [ht]⟩) (fun z hz => a2.2.2 z hz) (by omega) (by omega)
  intro T hT Xs
  obtain ⟨t, b1, b2⟩ := K T hT Xs
  exact ⟨t, b1, hE2 E M ad H d hX a6 a1 a3 (xS_fr a2) t b2⟩
end RET
end VMR
