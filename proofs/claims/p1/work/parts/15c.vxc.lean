/-! ===== catches, Object's constructor, string constants, natives, arrays of traces in V ===== -/
section VXC
variable {k k' : MI} {pc : Nat} {lv lv1 : List (Nat × Value)} {st : List Value} {nc ns : Nat} {M z : Mem} {Q : xQ} {X : xX} {P : Mem → Prop}
theorem catch_W {E : String} {i hp ct sp ep : Nat} {pre suf : List (Nat × Nat × Nat × Nat)} (hsp : kHH k = pre ++ (sp, ep, hp, ct) :: suf)
    (hpass : ∀ y ∈ pre, y.2.2.2 ≠ 0 ∧ ∃ nm, Cond.classLink (kOwn k) y.2.2.2 nm ∈ xTs ∧ (E, nm) ∈ xNcs) (hcov : covers ⟨sp, ep, hp, ct⟩ pc = true) (h0 : ct ≠ 0) (hlink : Cond.classLink (kOwn k) ct E ∈ xTs) (hcast : Cond.castable E E ∈ xT2)
    {p : Program} {l : Launch} {e : Env} {R : Room} {s : State} {m : MethodId} {args : Array Value} {below : List Frame} {meth : Method} {c : Code} {base : Nat} {D : xG} {Z : State → Prop} {M0 : Mem} {ad0 : Nat → Nat} {mc ms : Nat}
    {H : Heap} {locs : List Loc} {cells slots : Nat} {d : Drawn} {ls : Array Slot} {rst : List Value} {q : Addr} {ce : Cell}
    (hF : xFix k p l R s m args below meth c base D Z M0 ad0 mc ms Q X) (hce : H[q]? = some ce) (hv : ce.vm = .none) (hcl : s.vm.findClass E = some ce.cls)
    (kk : W p l e R (s.setDrawn d) m args below meth c H locs cells slots Z (F0 m hp ls [.ref q])) : vx_W p l e R (s.setDrawn d) m args below meth c H locs cells slots Z (F0 m pc ls rst) q := by
  obtain ⟨hx, hb, hml, hlk, hret, hnm, htb, hown, hts, hfl, hKn, hEv, hbase, hRf, hRl, hRc, hRs, hE⟩ := hF
  refine vx_catch (s := s.setDrawn d) (own := kOwn k) (name := E) (E := E) hown (tableOf pre) ⟨sp, ep, hp, ct⟩ (tableOf suf) (by rw [htb, hsp]; simp [tableOf]) (fun y hy => ?_) hcov h0 (dr_words hts d _ hlink) ((va_Nw.same rfl (u := s) (U := s.setDrawn d) rfl (hEv.2.2.2.2.2.1 _ hcast)).use rfl) hce hv hcl kk
  obtain ⟨y', hy', rfl⟩ := List.mem_map.mp hy
  obtain ⟨g1, nm, g2, g3⟩ := hpass y' hy'
  exact Or.inr ⟨g1, nm, dr_words hts d _ g2, va_Nc.moved (Vm.Alike.refl _) (hEv.2.2.2.2.2.2.1 _ g3)⟩
theorem has_tail {ls : Array Slot} {n : Nat} {x : Nat × Value} {l : List (Nat × Value)} (h : lv_has ls n (x :: l)) : lv_has ls n l := ⟨h.1, h.2.1, fun q hq => h.2.2 q (List.mem_cons_of_mem _ hq)⟩
theorem V_catch_n {E : String} {i hp ct sp ep : Nat} {q9 : Fin 4} {pre suf : List (Nat × Nat × Nat × Nat)} (hsp : kHH k = pre ++ (sp, ep, hp, ct) :: suf)
    (hpass : ∀ y ∈ pre, y.2.2.2 ≠ 0 ∧ ∃ nm, Cond.classLink (kOwn k) y.2.2.2 nm ∈ xTs ∧ (E, nm) ∈ xNcs) (hcov : covers ⟨sp, ep, hp, ct⟩ pc = true) (h0 : ct ≠ 0) (hlink : Cond.classLink (kOwn k) ct E ∈ xTs) (hcast : Cond.castable E E ∈ xT2)
    (hd : decode (kCC k) hp = .ok (.astore_n q9, 1)) (hi : (q9 : Nat) = i) (hn : i < kNL k) (hl : lv.filter (fun q => !(q.1 == i) && !(q.1 + 1 == i && q.2.category == 2)) = lv1) (kk : V k (hp + 1) lv1 [] nc ns M Q X) : VT k pc lv E nc ns M Q X := by
  intro p l e R s m args below meth c base D Z M0 ad0 mc ms ad H locs cells slots d ls rst q ce hF hN hce hv hcl
  obtain ⟨a1, a2, a3, a4, a5, a6, lvr, a7, a8⟩ := hN
  refine catch_W (i := i) hsp hpass hcov h0 hlink hcast hF hce hv hcl ?_
  subst hl
  exact lv_astore_n hF.1 hF.2.1 hd hi a7 hn rfl (fun ls' h' => kk p l e R s m args below meth c base D Z M0 ad0 mc ms ad H locs cells slots d ls' [] hF ⟨a1, a2, a3, a4, a5, a6, _, has_tail h', xRl_filter (fun a b => !(a == i) && !(a + 1 == i && b == 2)) a8⟩ trivial)
theorem V_catch {E : String} {i hp ct sp ep : Nat} {pre suf : List (Nat × Nat × Nat × Nat)} (hsp : kHH k = pre ++ (sp, ep, hp, ct) :: suf)
    (hpass : ∀ y ∈ pre, y.2.2.2 ≠ 0 ∧ ∃ nm, Cond.classLink (kOwn k) y.2.2.2 nm ∈ xTs ∧ (E, nm) ∈ xNcs) (hcov : covers ⟨sp, ep, hp, ct⟩ pc = true) (h0 : ct ≠ 0) (hlink : Cond.classLink (kOwn k) ct E ∈ xTs) (hcast : Cond.castable E E ∈ xT2)
    (hd : decode (kCC k) hp = .ok (.astore i, 2)) (hn : i < kNL k) (hl : lv.filter (fun q => !(q.1 == i) && !(q.1 + 1 == i && q.2.category == 2)) = lv1) (kk : V k (hp + 2) lv1 [] nc ns M Q X) : VT k pc lv E nc ns M Q X := by
  intro p l e R s m args below meth c base D Z M0 ad0 mc ms ad H locs cells slots d ls rst q ce hF hN hce hv hcl
  obtain ⟨a1, a2, a3, a4, a5, a6, lvr, a7, a8⟩ := hN
  refine catch_W (i := i) hsp hpass hcov h0 hlink hcast hF hce hv hcl ?_
  subst hl
  exact lv_astore hF.1 hF.2.1 hd a7 hn rfl (fun ls' h' => kk p l e R s m args below meth c base D Z M0 ad0 mc ms ad H locs cells slots d ls' [] hF ⟨a1, a2, a3, a4, a5, a6, _, has_tail h', xRl_filter (fun a b => !(a == i) && !(a + 1 == i && b == 2)) a8⟩ trivial)
theorem Y_catch_n {E : String} {i hp ct sp ep : Nat} {q9 : Fin 4} {pre suf : List (Nat × Nat × Nat × Nat)} (hsp : kHH k = pre ++ (sp, ep, hp, ct) :: suf)
    (hpass : ∀ y ∈ pre, y.2.2.2 ≠ 0 ∧ ∃ nm, Cond.classLink (kOwn k) y.2.2.2 nm ∈ xTs ∧ (E, nm) ∈ xNcs) (hcov : covers ⟨sp, ep, hp, ct⟩ pc = true) (h0 : ct ≠ 0) (hlink : Cond.classLink (kOwn k) ct E ∈ xTs) (hcast : Cond.castable E E ∈ xT2)
    (hd : decode (kCC k) hp = .ok (.astore_n q9, 1)) (hi : (q9 : Nat) = i) (hn : i < kNL k) (hl : lv.filter (fun q => !(q.1 == i) && !(q.1 + 1 == i && q.2.category == 2)) = lv1) (kk : VV P k (hp + 1) lv1 [] M z Q X) : VVT P k pc lv E M z Q X :=
  ⟨kk.1, fun nc ns h1 h2 => V_catch_n hsp hpass hcov h0 hlink hcast hd hi hn hl (kk.2 nc ns h1 h2)⟩
theorem Y_catch {E : String} {i hp ct sp ep : Nat} {pre suf : List (Nat × Nat × Nat × Nat)} (hsp : kHH k = pre ++ (sp, ep, hp, ct) :: suf)
    (hpass : ∀ y ∈ pre, y.2.2.2 ≠ 0 ∧ ∃ nm, Cond.classLink (kOwn k) y.2.2.2 nm ∈ xTs ∧ (E, nm) ∈ xNcs) (hcov : covers ⟨sp, ep, hp, ct⟩ pc = true) (h0 : ct ≠ 0) (hlink : Cond.classLink (kOwn k) ct E ∈ xTs) (hcast : Cond.castable E E ∈ xT2)
    (hd : decode (kCC k) hp = .ok (.astore i, 2)) (hn : i < kNL k) (hl : lv.filter (fun q => !(q.1 == i) && !(q.1 + 1 == i && q.2.category == 2)) = lv1) (kk : VV P k (hp + 2) lv1 [] M z Q X) : VVT P k pc lv E M z Q X :=
  ⟨kk.1, fun nc ns h1 h2 => V_catch hsp hpass hcov h0 hlink hcast hd hn hl (kk.2 nc ns h1 h2)⟩
theorem hp_nil {E : String} : ∀ y ∈ ([] : List (Nat × Nat × Nat × Nat)), y.2.2.2 ≠ 0 ∧ ∃ nm, Cond.classLink (kOwn k) y.2.2.2 nm ∈ xTs ∧ (E, nm) ∈ xNcs := fun _ h => nomatch h
theorem hp_cons {E nm : String} {x : Nat × Nat × Nat × Nat} {L : List (Nat × Nat × Nat × Nat)} (h0 : x.2.2.2 ≠ 0) (h1 : Cond.classLink (kOwn k) x.2.2.2 nm ∈ xTs) (h2 : (E, nm) ∈ xNcs) (h3 : ∀ y ∈ L, y.2.2.2 ≠ 0 ∧ ∃ nm, Cond.classLink (kOwn k) y.2.2.2 nm ∈ xTs ∧ (E, nm) ∈ xNcs) : ∀ y ∈ x :: L, y.2.2.2 ≠ 0 ∧ ∃ nm, Cond.classLink (kOwn k) y.2.2.2 nm ∈ xTs ∧ (E, nm) ∈ xNcs := by
  intro y hy
  rcases List.mem_cons.mp hy with rfl | hy
  · exact ⟨h0, nm, h1, h2⟩
  · exact h3 y hy
/-- Object's constructor -/
theorem V_oinit {a index : Nat} (hd : decode (kCC k) pc = .ok (.invokespecial index, 3)) (hl : Cond.methodLink (kOwn k) index Lib.objectInit ∈ xTs) (hi : Cond.instanceMethod Lib.objectInit ∈ xTs) (hc : Cond.code Lib.objectInit ⟨#[0xb1]⟩ 1 none ∈ xTs) (hdep : 1 ≤ kDep k) (hloc : 20 ≤ kLoc k) (hcat : (st.map fun v => v.category).sum ≤ 8)
    (kk : V k (pc + 3) lv st nc ns M Q X) : V k pc lv (.ref a :: st) nc ns M Q X := by
  intro p l e R s m args below meth c base D Z M0 ad0 mc ms ad H locs cells slots d ls rst hF hN hst
  obtain ⟨y0, r0, rfl, ⟨rfl, hka⟩, hst1⟩ := xRvs_cons hst
  obtain ⟨hx, hb, hml, hlk, hret, hnm, htb, hown, hts, hfl, hKn, hEv, hbase, hRf, hRl, hRc, hRs, hE⟩ := id hF
  obtain ⟨a1, a2, a3, a4, a5, a6, lvr, a7, a8⟩ := id hN
  have hcd := xRvs_cat hst1
  refine W.objInit (s := s.setDrawn d) hx hb (own := kOwn k) hown (dr_words hts d _ hl) (dr_words hts d _ hi) (dr_words hts d _ hc) rfl (a7.1.trans hml.symm) rfl hd (by omega) (by show 2 * 0 + _ + 12 ≤ R.locals; rw [hcd]; omega) ?_
  exact kk p l e R s m args below meth c base D Z M0 ad0 mc ms ad H locs cells slots d ls r0 hF hN hst1
theorem Y_oinit {a index : Nat} (hd : decode (kCC k) pc = .ok (.invokespecial index, 3)) (hl : Cond.methodLink (kOwn k) index Lib.objectInit ∈ xTs) (hdep : 1 ≤ kDep k) (hloc : 20 ≤ kLoc k) (hcat : (st.map fun v => v.category).sum ≤ 8) (kk : VV P k (pc + 3) lv st M z Q X) : VV P k pc lv (.ref a :: st) M z Q X :=
  ⟨kk.1, fun nc ns h1 h2 => V_oinit hd hl w1_41 w1_42 hdep hloc hcat (kk.2 nc ns h1 h2)⟩
/-- the bytes of the i-th string constant -/
theorem sB_of {i : Nat} {q : String × Nat × String × List Int32} (h : xSTab[i]? = some q) : q.2.2.2 = sB i := by unfold sB; rw [h]; rfl
theorem V_ldcS {index i : Nat} {tx : String} {bs : List Int32} (hd : decode (kCC k) pc = .ok (.ldc index, 2)) (hs : xSTab[i]? = some (kOwn k, index, tx, bs)) (kk : V k (pc + 2) lv (.retAddr i :: st) nc ns M Q X) : V k pc lv st nc ns M Q X := by
  intro p l e R s m args below meth c base D Z M0 ad0 mc ms ad H locs cells slots d ls rst hF hN hst
  obtain ⟨hx, hb, hml, hlk, hret, hnm, htb, hown, hts, hfl, hKn, hEv, hbase, hRf, hRl, hRc, hRs, hE⟩ := id hF
  obtain ⟨a1, a2, a3, a4, a5, a6, a7⟩ := id hN
  have hS := (hEv.2.2.2.2.1 i _ hs).1
  rw [← a6.2 i] at hS
  have hS' : vk_R (kOwn k) index tx (ad (2147483648 + i)) (s.setDrawn d) := vk_R.same rfl hS
  intro T hT Xs
  obtain ⟨t, b1, b2⟩ := kk p l e R s m args below meth c base D Z M0 ad0 mc ms ad H locs cells slots d ls (.ref (ad (2147483648 + i)) :: rst) hF hN ⟨rfl, hst⟩ T hT Xs
  exact ⟨t, Xs.ldcString hx (own := kOwn k) (text := tx) (index := index) (a := ad (2147483648 + i)) hown hS'.1 hS'.2 (g := F0 m pc ls rst) rfl (by rw [hb]; exact hd) _ b1, b2⟩
theorem V_ldcwS {index i : Nat} {tx : String} {bs : List Int32} (hd : decode (kCC k) pc = .ok (.ldc_w index, 3)) (hs : xSTab[i]? = some (kOwn k, index, tx, bs)) (kk : V k (pc + 3) lv (.retAddr i :: st) nc ns M Q X) : V k pc lv st nc ns M Q X := by
  intro p l e R s m args below meth c base D Z M0 ad0 mc ms ad H locs cells slots d ls rst hF hN hst
  obtain ⟨hx, hb, hml, hlk, hret, hnm, htb, hown, hts, hfl, hKn, hEv, hbase, hRf, hRl, hRc, hRs, hE⟩ := id hF
  obtain ⟨a1, a2, a3, a4, a5, a6, a7⟩ := id hN
  have hS := (hEv.2.2.2.2.1 i _ hs).1
  rw [← a6.2 i] at hS
  have hS' : vk_R (kOwn k) index tx (ad (2147483648 + i)) (s.setDrawn d) := vk_R.same rfl hS
  intro T hT Xs
  obtain ⟨t, b1, b2⟩ := kk p l e R s m args below meth c base D Z M0 ad0 mc ms ad H locs cells slots d ls (.ref (ad (2147483648 + i)) :: rst) hF hN ⟨rfl, hst⟩ T hT Xs
  exact ⟨t, Xs.ldcStringW hx (own := kOwn k) (text := tx) (index := index) (a := ad (2147483648 + i)) hown hS'.1 hS'.2 (g := F0 m pc ls rst) rfl (by rw [hb]; exact hd) _ b1, b2⟩
theorem Y_ldcS {index i : Nat} {tx : String} {bs : List Int32} (hd : decode (kCC k) pc = .ok (.ldc index, 2)) (hs : xSTab[i]? = some (kOwn k, index, tx, bs)) (kk : VV P k (pc + 2) lv (.retAddr i :: st) M z Q X) : VV P k pc lv st M z Q X := ⟨kk.1, fun nc ns h1 h2 => V_ldcS hd hs (kk.2 nc ns h1 h2)⟩
theorem Y_ldcwS {index i : Nat} {tx : String} {bs : List Int32} (hd : decode (kCC k) pc = .ok (.ldc_w index, 3)) (hs : xSTab[i]? = some (kOwn k, index, tx, bs)) (kk : VV P k (pc + 3) lv (.retAddr i :: st) M z Q X) : VV P k pc lv st M z Q X := ⟨kk.1, fun nc ns h1 h2 => V_ldcwS hd hs (kk.2 nc ns h1 h2)⟩
theorem V_saload {q : Fin 4} {i j x : Nat} (hd : decode (kCC k) pc = .ok (.aload_n q, 1)) (hi : (q : Nat) = i) (hl : lv[j]? = some (i, .retAddr x)) (kk : V k (pc + 1) lv (.retAddr x :: st) nc ns M Q X) : V k pc lv st nc ns M Q X := by
  intro p l e R s m args below meth c base D Z M0 ad0 mc ms ad H locs cells slots d ls rst hF hN hst
  obtain ⟨lvr, a7, a8⟩ := hN.2.2.2.2.2.2
  obtain ⟨y, hy, e9⟩ := xRl_at a8 hl
  rw [show y = .ref (ad (2147483648 + x)) from e9] at hy
  exact lv_aload_n hF.1 hF.2.1 hd hi (lv_at a7 j hy) (kk p l e R s m args below meth c base D Z M0 ad0 mc ms ad H locs cells slots d ls _ hF hN ⟨rfl, hst⟩)
theorem Y_saload {q : Fin 4} {i j x : Nat} (hd : decode (kCC k) pc = .ok (.aload_n q, 1)) (hi : (q : Nat) = i) (hl : lv[j]? = some (i, .retAddr x)) (kk : VV P k (pc + 1) lv (.retAddr x :: st) M z Q X) : VV P k pc lv st M z Q X := ⟨kk.1, fun nc ns h1 h2 => V_saload hd hi hl (kk.2 nc ns h1 h2)⟩
theorem zsame {s : State} {d : Drawn} {C n dd : String} {v : Value} {A : Nat → Prop} {H : Heap} (h : va_Z C n dd v A s H) : va_Z C n dd v A (s.setDrawn d) H := va_Z.moved (Vm.Alike.refl _) h
theorem V_gcomp {index : Nat} (hd : decode (kCC k) pc = .ok (.getstatic index, 3)) (hl : Cond.fieldLink (kOwn k) index "java/lang/String" "COMPACT_STRINGS" "Z" ∈ xTs) (kk : V k (pc + 3) lv (.int 1 :: st) nc ns M Q X) : V k pc lv st nc ns M Q X := by
  intro p l e R s m args below meth c base D Z M0 ad0 mc ms ad H locs cells slots d ls rst hF hN hst
  obtain ⟨hx, hb, hml, hlk, hret, hnm, htb, hown, hts, hfl, hKn, hEv, hbase, hRf, hRl, hRc, hRs, hE⟩ := id hF
  exact va_gets (s := s.setDrawn d) (A := xA base) hx hb (va_Z.moved (Vm.Alike.refl _) hEv.2.2.2.1) hN.2.1 hown (dr_words hts d _ hl) (fun _ h => h) hd (kk p l e R s m args below meth c base D Z M0 ad0 mc ms ad H locs cells slots d ls _ hF hN ⟨rfl, hst⟩)
theorem Y_gcomp {index : Nat} (hd : decode (kCC k) pc = .ok (.getstatic index, 3)) (hl : Cond.fieldLink (kOwn k) index "java/lang/String" "COMPACT_STRINGS" "Z" ∈ xTs) (kk : VV P k (pc + 3) lv (.int 1 :: st) M z Q X) : VV P k pc lv st M z Q X := ⟨kk.1, fun nc ns h1 h2 => V_gcomp hd hl (kk.2 nc ns h1 h2)⟩
theorem V_gcoder {index i : Nat} {q : String × Nat × String × List Int32} (hd : decode (kCC k) pc = .ok (.getfield index, 3)) (hl : Cond.fieldLink (kOwn k) index "java/lang/String" "coder" "B" ∈ xTs) (hs : xSTab[i]? = some q) (kk : V k (pc + 3) lv (.int 0 :: st) nc ns M Q X) : V k pc lv (.retAddr i :: st) nc ns M Q X := by
  intro p l e R s m args below meth c base D Z M0 ad0 mc ms ad H locs cells slots d ls rst hF hN hst
  obtain ⟨y0, r0, rfl, e0, hst1⟩ := xRvs_cons hst
  rw [show y0 = .ref (ad (2147483648 + i)) from e0]
  obtain ⟨hx, hb, hml, hlk, hret, hnm, htb, hown, hts, hfl, hKn, hEv, hbase, hRf, hRl, hRc, hRs, hE⟩ := id hF
  have hS := (hEv.2.2.2.2.1 i _ hs).2.2.1
  rw [← hN.2.2.2.2.2.1.2 i] at hS
  exact vk_getf (s := s.setDrawn d) (A := xA base) hx hb (va_OF.moved (Vm.Alike.refl _) hS) hN.2.1 hown (dr_words hts d _ hl) (fun _ h => h) hd (kk p l e R s m args below meth c base D Z M0 ad0 mc ms ad H locs cells slots d ls _ hF hN ⟨rfl, hst1⟩)
theorem Y_gcoder {index i : Nat} {q : String × Nat × String × List Int32} (hd : decode (kCC k) pc = .ok (.getfield index, 3)) (hl : Cond.fieldLink (kOwn k) index "java/lang/String" "coder" "B" ∈ xTs) (hs : xSTab[i]? = some q) (kk : VV P k (pc + 3) lv (.int 0 :: st) M z Q X) : VV P k pc lv (.retAddr i :: st) M z Q X := ⟨kk.1, fun nc ns h1 h2 => V_gcoder hd hl hs (kk.2 nc ns h1 h2)⟩
theorem V_gvalue {index i : Nat} {q : String × Nat × String × List Int32} (hd : decode (kCC k) pc = .ok (.getfield index, 3)) (hl : Cond.fieldLink (kOwn k) index "java/lang/String" "value" "[B" ∈ xTs) (hs : xSTab[i]? = some q) (kk : V k (pc + 3) lv (.retAddr (1000 + i) :: st) nc ns M Q X) : V k pc lv (.retAddr i :: st) nc ns M Q X := by
  intro p l e R s m args below meth c base D Z M0 ad0 mc ms ad H locs cells slots d ls rst hF hN hst
  obtain ⟨y0, r0, rfl, e0, hst1⟩ := xRvs_cons hst
  rw [show y0 = .ref (ad (2147483648 + i)) from e0]
  obtain ⟨hx, hb, hml, hlk, hret, hnm, htb, hown, hts, hfl, hKn, hEv, hbase, hRf, hRl, hRc, hRs, hE⟩ := id hF
  have hS := (hEv.2.2.2.2.1 i _ hs).2.2.2.1
  rw [← hN.2.2.2.2.2.1.2 i, ← hN.2.2.2.2.2.1.2 (1000 + i)] at hS
  exact vk_getf (s := s.setDrawn d) (A := xA base) hx hb (va_OF.moved (Vm.Alike.refl _) hS) hN.2.1 hown (dr_words hts d _ hl) (fun _ h => h) hd (kk p l e R s m args below meth c base D Z M0 ad0 mc ms ad H locs cells slots d ls _ hF hN ⟨rfl, hst1⟩)
theorem Y_gvalue {index i : Nat} {q : String × Nat × String × List Int32} (hd : decode (kCC k) pc = .ok (.getfield index, 3)) (hl : Cond.fieldLink (kOwn k) index "java/lang/String" "value" "[B" ∈ xTs) (hs : xSTab[i]? = some q) (kk : VV P k (pc + 3) lv (.retAddr (1000 + i) :: st) M z Q X) : VV P k pc lv (.retAddr i :: st) M z Q X := ⟨kk.1, fun nc ns h1 h2 => V_gvalue hd hl hs (kk.2 nc ns h1 h2)⟩
theorem V_sbald {i : Nat} {j : Int32} {q : String × Nat × String × List Int32} (hd : decode (kCC k) pc = .ok (.baload, 1)) (hs : xSTab[i]? = some q) (hin : vp_in j (sB i).length) (kk : V k (pc + 1) lv (.int ((sB i).getD j.toNatClampNeg 0) :: st) nc ns M Q X) : V k pc lv (.int j :: .retAddr (1000 + i) :: st) nc ns M Q X := by
  intro p l e R s m args below meth c base D Z M0 ad0 mc ms ad H locs cells slots d ls rst hF hN hst
  obtain ⟨y0, r0, rfl, e0, hst1⟩ := xRvs_cons hst
  obtain ⟨y1, r1, rfl, e1, hst2⟩ := xRvs_cons hst1
  rw [show y0 = .int j from e0, show y1 = .ref (ad (2147483648 + (1000 + i))) from e1]
  obtain ⟨hx, hb, hml, hlk, hret, hnm, htb, hown, hts, hfl, hKn, hEv, hbase, hRf, hRl, hRc, hRs, hE⟩ := id hF
  have hS := (hEv.2.2.2.2.1 i _ hs).2.2.2.2
  rw [← hN.2.2.2.2.2.1.2 (1000 + i), sB_of hs] at hS
  exact va_tb (s := s.setDrawn d) (A := xA base) hx hb (va_T.moved (Vm.Alike.refl _) hS) hN.2.1 hin rfl hd (kk p l e R s m args below meth c base D Z M0 ad0 mc ms ad H locs cells slots d ls _ hF hN ⟨rfl, hst2⟩)
theorem Y_sbald {i : Nat} {j : Int32} {q : String × Nat × String × List Int32} (hd : decode (kCC k) pc = .ok (.baload, 1)) (hs : xSTab[i]? = some q) (hin : vp_in j (sB i).length) (kk : VV P k (pc + 1) lv (.int ((sB i).getD j.toNatClampNeg 0) :: st) M z Q X) : VV P k pc lv (.int j :: .retAddr (1000 + i) :: st) M z Q X := ⟨kk.1, fun nc ns h1 h2 => V_sbald hd hs hin (kk.2 nc ns h1 h2)⟩
theorem V_salen {i : Nat} {q : String × Nat × String × List Int32} (hd : decode (kCC k) pc = .ok (.arraylength, 1)) (hs : xSTab[i]? = some q) (kk : V k (pc + 1) lv (.int (Int32.ofNat (sB i).length) :: st) nc ns M Q X) : V k pc lv (.retAddr (1000 + i) :: st) nc ns M Q X := by
  intro p l e R s m args below meth c base D Z M0 ad0 mc ms ad H locs cells slots d ls rst hF hN hst
  obtain ⟨y1, r1, rfl, e1, hst2⟩ := xRvs_cons hst
  rw [show y1 = .ref (ad (2147483648 + (1000 + i))) from e1]
  obtain ⟨hx, hb, hml, hlk, hret, hnm, htb, hown, hts, hfl, hKn, hEv, hbase, hRf, hRl, hRc, hRs, hE⟩ := id hF
  have hS := (hEv.2.2.2.2.1 i _ hs).2.2.2.2
  rw [← hN.2.2.2.2.2.1.2 (1000 + i), sB_of hs] at hS
  exact va_tlen (s := s.setDrawn d) (A := xA base) hx hb (va_T.moved (Vm.Alike.refl _) hS) hN.2.1 rfl hd (kk p l e R s m args below meth c base D Z M0 ad0 mc ms ad H locs cells slots d ls _ hF hN ⟨rfl, hst2⟩)
theorem Y_salen {i : Nat} {q : String × Nat × String × List Int32} (hd : decode (kCC k) pc = .ok (.arraylength, 1)) (hs : xSTab[i]? = some q) (kk : VV P k (pc + 1) lv (.int (Int32.ofNat (sB i).length) :: st) M z Q X) : VV P k pc lv (.retAddr (1000 + i) :: st) M z Q X := ⟨kk.1, fun nc ns h1 h2 => V_salen hd hs (kk.2 nc ns h1 h2)⟩
theorem V_i2b {x : Int32} (hd : decode (kCC k) pc = .ok (.i2b, 1)) (kk : V k (pc + 1) lv (.int x.toInt8.toInt32 :: st) nc ns M Q X) : V k pc lv (.int x :: st) nc ns M Q X := by
  intro p l e R s m args below meth c base D Z M0 ad0 mc ms ad H locs cells slots d ls rst hF hN hst
  obtain ⟨y0, r0, rfl, e0, hst1⟩ := xRvs_cons hst
  rw [show y0 = .int x from e0]
  exact lv_i2b hF.1 hF.2.1 hd rfl (kk p l e R s m args below meth c base D Z M0 ad0 mc ms ad H locs cells slots d ls _ hF hN ⟨rfl, hst1⟩)
theorem Y_i2b {x : Int32} (hd : decode (kCC k) pc = .ok (.i2b, 1)) (kk : VV P k (pc + 1) lv (.int x.toInt8.toInt32 :: st) M z Q X) : VV P k pc lv (.int x :: st) M z Q X := ⟨kk.1, fun nc ns h1 h2 => V_i2b hd (kk.2 nc ns h1 h2)⟩
/-- raw bits: of a number, its own; of a NaN some -/
theorem V_rawbits {x : UInt64} {index : Nat} (hn : isNaN64 x = false) (hd : decode (kCC k) pc = .ok (.invokestatic index, 3)) (hl : Cond.methodLink (kOwn k) index ⟨"java/lang/Double", "doubleToRawLongBits", "(D)J"⟩ ∈ xTs) (hnat : Cond.native ⟨"java/lang/Double", "doubleToRawLongBits", "(D)J"⟩ ∈ xTs) (hsta : Cond.static ⟨"java/lang/Double", "doubleToRawLongBits", "(D)J"⟩ ∈ xTs) (hini : Cond.initialized "java/lang/Double" ∈ xTs) (hdep : 1 ≤ kDep k) (hloc : 30 ≤ kLoc k) (hcat : (st.map fun v => v.category).sum ≤ 8)
    (kk : V k (pc + 3) lv (.long x.toInt64 :: st) nc ns M Q X) : V k pc lv (.double x :: st) nc ns M Q X := by
  intro p l e R s m args below meth c base D Z M0 ad0 mc ms ad H locs cells slots d ls rst hF hN hst
  obtain ⟨y0, r0, rfl, ⟨w0, rfl, e0⟩, hst1⟩ := xRvs_cons hst
  rw [alq_eq e0 hn]
  obtain ⟨hx, hb, hml, hlk, hret, hnm, htb, hown, hts, hfl, hKn, hEv, hbase, hRf, hRl, hRc, hRs, hE⟩ := id hF
  have hcd := xRvs_cat hst1
  obtain ⟨a1, a2, a3, a4, a5, a6, lvr, a7, a8⟩ := id hN
  exact vn_d2l (s := s.setDrawn d) hx hb (hml.trans a7.1.symm) (own := kOwn k) hown (dr_words hts d _ hl) (dr_words hts d _ hnat) (dr_words hts d _ hsta) (dr_words hts d _ hini) (by omega) (by rw [hcd]; omega) hd (kk p l e R s m args below meth c base D Z M0 ad0 mc ms ad H locs cells slots d ls _ hF hN ⟨rfl, hst1⟩)
theorem V_aast {a b : Nat} {j : Int32} (hd : decode (kCC k) pc = .ok (.aastore, 1)) (ht : mK M a = 26) (hin : vp_in j (mN M a)) (hb9 : mK M b = 9) (kk : V k (pc + 1) lv st nc ns (sR M a j.toNatClampNeg (some b)) Q X) : V k pc lv (.ref b :: .int j :: .ref a :: st) nc ns M Q X := by
  intro p l e R s m args below meth c base D Z M0 ad0 mc ms ad H locs cells slots d ls rst hF hN hst
  obtain ⟨y0, r0, rfl, ⟨rfl, hkb⟩, hst1⟩ := xRvs_cons hst
  obtain ⟨y1, r1, rfl, e1, hst2⟩ := xRvs_cons hst1
  obtain ⟨y2, r2, rfl, ⟨rfl, hka⟩, hst3⟩ := xRvs_cons hst2
  rw [show y1 = .int j from e1]
  obtain ⟨hx, hb, hml, hlk, hret, hnm, htb, hown, hts, hfl, hKn, hEv, hbase, hRf, hRl, hRc, hRs, hE⟩ := id hF
  obtain ⟨a1, a2, a3, a4, a5, a6, lvr, a7, a8⟩ := id hN
  obtain ⟨⟨cell, Vb, g1, g2, g3, g4, g5, g6⟩, hbs⟩ := a1.1 a hka
  obtain ⟨⟨cellv, Vv, v1, v2, v3, -⟩, -⟩ := a1.1 b hkb
  replace g3 := g3.2.2 (by omega)
  replace v3 := v3.2.2 (by omega)
  have g5' := g5 (by omega)
  rw [ht] at g2
  rw [hb9] at v2
  have hlt : j.toNatClampNeg < mN M a := Nat.not_le.mp fun q => hin (Or.inr q)
  obtain ⟨kA, comp, k1, k2, k3, k4⟩ := hKn.2.2 26 (by omega) (by omega)
  have hfT := (hKn.1 9 (by omega) (by omega)).2.1
  have hcomp : comp = D.1 9 := Option.some.inj (k3.symm.trans hfT)
  obtain ⟨kE, hkE, -⟩ := Vm.findClass_spec k3
  subst hcomp
  refine W.aast (s := s.setDrawn d) hx hb g1 (by rw [g3]; exact fun q h => by cases h) (by rw [g3]; exact fun h => by cases h) (by rw [g2]; exact k1) k2 rfl hkE ⟨fun q => hin (Or.inl q), by rw [g5'.1]; exact hlt⟩ v1 (by rw [v3]; exact fun q h => by cases h) (by rw [v2]; exact hkE) (by rw [v2]; exact va_asg _ _) rfl rfl hd (fun H' z1 z2 z3 => ?_)
  exact kk p l e R s m args below meth c base D Z M0 ad0 mc ms ad H' _ cells slots d ls _ hF ⟨xRep_put (M' := sR M a j.toNatClampNeg (some b)) (i := j.toNatClampNeg) (y := .ref (ad b)) a1 hka hlt (fun i _ hne => by rw [ht, xpos_arr (by omega), xpos_arr (by omega)]; exact Ne.symm hne) rfl off_sR (by rw [ht]; show xRv ad M (oref (mR (sR M a j.toNatClampNeg (some b)) a j.toNatClampNeg)) _; rw [on_sR]; exact ⟨rfl, hkb⟩) g1 (by rw [ht, xpos_arr (by omega)]; exact z1) z3, a2.put z2 z3 (hbs (by omega)), a3, a4, a5, xExt_same (M' := sR M a j.toNatClampNeg (some b)) a6 rfl, lvr, a7, xRl_same (M := M) (M' := sR M a j.toNatClampNeg (some b)) rfl a8⟩ (xRvs_same (M := M) (M' := sR M a j.toNatClampNeg (some b)) rfl hst3)
theorem Y_aast {a b : Nat} {nn : Nat} {j : Int32} (hd : decode (kCC k) pc = .ok (.aastore, 1)) (ht : mK M a = 26) (hnn : mN M a = nn) (hin : vp_in j nn) (hb9 : mK M b = 9) (kk : VV P k (pc + 1) lv st (sR M a j.toNatClampNeg (some b)) z Q X) : VV P k pc lv (.ref b :: .int j :: .ref a :: st) M z Q X :=
  ⟨kk.1, fun nc ns h1 h2 => V_aast hd ht (hnn.symm ▸ hin) hb9 (kk.2 nc ns h1 h2)⟩
/-- a new array of traces -/
theorem V_anewa {a N index : Nat} {n : Int32} (hd : decode (kCC k) pc = .ok (.anewarray index, 3)) (ha : mK M a = 0) (ha31 : a < 2147483648) (hn : ¬ n < 0) (hNn : n.toNatClampNeg = N) (hbytes : N * 4 ≤ 536870912) (hl : Cond.classLink (kOwn k) index "Tracewheel$Trace" ∈ xTs) (hnc : 1 ≤ nc) (hns : N ≤ ns)
    (kk : V k (pc + 3) lv (.ref a :: st) (nc - 1) (ns - N) (sN M a 26 N) Q X) : V k pc lv (.int n :: st) nc ns M Q X := by
  intro p l e R s m args below meth c base D Z M0 ad0 mc ms ad H locs cells slots d ls rst hF hN hst
  obtain ⟨y0, r0, rfl, e0, hst1⟩ := xRvs_cons hst
  rw [show y0 = .int n from e0]
  obtain ⟨hx, hb, hml, hlk, hret, hnm, htb, hown, hts, hfl, hKn, hEv, hbase, hRf, hRl, hRc, hRs, hE⟩ := id hF
  obtain ⟨a1, a2, a3, a4, a5, a6, lvr, a7, a8⟩ := id hN
  subst hNn
  have hover : va_AO "Tracewheel$Trace" (s.setDrawn d) := va_AO.moved (Vm.Alike.refl _) hEv.2.2.2.2.2.2.2
  refine W.anew (s := s.setDrawn d) hx hb hown (dr_words hts d _ hl) hover.use rfl hd rfl hn hbytes (by omega) (by omega) fun cA kA comp f1 f2 f3 f4 => ?_
  obtain ⟨kA', comp', k1, k2, k3, k4⟩ := hKn.2.2 26 (by omega) (by omega)
  have hcA : cA = D.1 26 := Option.some.inj (f1.symm.trans k4)
  generalize hH1 : H.push ({ cls := cA, slots := Array.replicate n.toNatClampNeg .null, vm := .none } : Cell) = H1
  have z1 : H1.size = H.size + 1 := by rw [← hH1, Array.size_push]
  have r1 : H1[H.size]? = some ({ cls := cA, slots := Array.replicate n.toNatClampNeg .null, vm := .none } : Cell) := by rw [← hH1, Array.getElem?_push_size]
  have o1 : ∀ q : Nat, q < H.size → H1[q]? = H[q]? := fun q hq => by rw [← hH1, Array.getElem?_push, if_neg (Nat.ne_of_lt hq)]
  have hN31 : n.toNatClampNeg < 2 ^ 31 := by have := n.toInt_lt; unfold Int32.toNatClampNeg; omega
  obtain ⟨hR', hE'⟩ := xRep_new (a := a) (t := 26) (n := n.toNatClampNeg) a1 ha ha31 (Nat.le_trans hbase a2.1) (by omega) (by omega) r1 o1 hcA rfl (fun j hj => by
      rw [xpos_arr (by omega)]
      show (Array.replicate n.toNatClampNeg Value.null)[j]? = some .null
      rw [Array.getElem?_replicate, if_pos hj]) (fun _ => ⟨by simp, hN31, by omega, by omega⟩) (fun z => by omega) (fun j hj => by
    show xRv ad M (oref (mR (sN M a 26 n.toNatClampNeg) a j)) .null
    rw [show mR (sN M a 26 n.toNatClampNeg) a j = none by simp [mR, sN, clr]]
    exact rfl)
  exact kk p l e R s m args below meth c base D Z M0 ad0 mc ms _ H1 locs _ _ d ls _ hF ⟨hR', ⟨Nat.le_trans a2.1 (by omega), fun q g1 g2 => (o1 q (Nat.lt_of_lt_of_le g1 a2.1)).trans (a2.2.1 q g1 g2), a2.2.2⟩, a3, by omega, by omega, xExt_trans a6 hE', lvr, a7, xRl_ext hE' a8⟩ ⟨⟨by rw [adN_self], by simp [mK, mT, sN]⟩, xRvs_ext hE' hst1⟩
theorem Y_anewa {a N index : Nat} {n : Int32} (hd : decode (kCC k) pc = .ok (.anewarray index, 3)) (ha : mK M a = 0) (ha31 : a < 2147483648) (hn : ¬ n < 0) (hNn : n.toNatClampNeg = N) (hbytes : N * 4 ≤ 536870912) (hl : Cond.classLink (kOwn k) index "Tracewheel$Trace" ∈ xTs) (kk : VV P k (pc + 3) lv (.ref a :: st) (sN M a 26 N) z Q X) : VV P k pc lv (.int n :: st) M z Q X := by
  obtain ⟨⟨q0, q1, q2⟩, kk⟩ := kk
  have e1 : uC (sN M a 26 N) = uC M + 1 := rfl
  have e2 : uS (sN M a 26 N) = uS M + N := rfl
  exact ⟨⟨q0, by omega, by omega⟩, fun nc ns g1 g2 => V_anewa hd ha ha31 hn hNn hbytes hl (by omega) (by omega) (kk _ _ (by omega) (by omega))⟩
end VXC
