/-! ===== one instruction in V (printed by a program) ===== -/
section VMO
variable {k : MI} {pc : Nat} {lv lv1 : List (Nat × Value)} {st : List Value} {nc ns : Nat} {M : Mem} {Q : xQ} {X : xX}
theorem V_iconst {n : Int} {v : Int32} (hd : decode (kCC k) pc = .ok (.iconst n, 1)) (hv : Int32.ofInt n = v) (kk : V k (pc + 1) lv (.int v :: st) nc ns M Q X) : V k pc lv (st) nc ns M Q X := by
  intro p l e R s m args below meth c base D Z M0 ad0 mc ms ad H locs cells slots d ls rst hF hN hst
  exact lv_iconst hF.1 hF.2.1 hd hv (kk p l e R s m args below meth c base D Z M0 ad0 mc ms ad H locs cells slots d ls _ hF hN ⟨rfl, hst⟩)
theorem V_bipush {n : Int} {v : Int32} (hd : decode (kCC k) pc = .ok (.bipush n, 2)) (hv : (Int8.ofInt n).toInt32 = v) (kk : V k (pc + 2) lv (.int v :: st) nc ns M Q X) : V k pc lv (st) nc ns M Q X := by
  intro p l e R s m args below meth c base D Z M0 ad0 mc ms ad H locs cells slots d ls rst hF hN hst
  exact lv_bipush hF.1 hF.2.1 hd hv (kk p l e R s m args below meth c base D Z M0 ad0 mc ms ad H locs cells slots d ls _ hF hN ⟨rfl, hst⟩)
theorem V_sipush {n : Int} {v : Int32} (hd : decode (kCC k) pc = .ok (.sipush n, 3)) (hv : (Int16.ofInt n).toInt32 = v) (kk : V k (pc + 3) lv (.int v :: st) nc ns M Q X) : V k pc lv (st) nc ns M Q X := by
  intro p l e R s m args below meth c base D Z M0 ad0 mc ms ad H locs cells slots d ls rst hF hN hst
  exact lv_sipush hF.1 hF.2.1 hd hv (kk p l e R s m args below meth c base D Z M0 ad0 mc ms ad H locs cells slots d ls _ hF hN ⟨rfl, hst⟩)
theorem V_lconst {n : Fin 2} {v : Int64} (hd : decode (kCC k) pc = .ok (.lconst n, 1)) (hv : Int64.ofNat (n : Nat) = v) (kk : V k (pc + 1) lv (.long v :: st) nc ns M Q X) : V k pc lv (st) nc ns M Q X := by
  intro p l e R s m args below meth c base D Z M0 ad0 mc ms ad H locs cells slots d ls rst hF hN hst
  exact lv_lconst hF.1 hF.2.1 hd hv (kk p l e R s m args below meth c base D Z M0 ad0 mc ms ad H locs cells slots d ls _ hF hN ⟨rfl, hst⟩)
theorem V_fconst0 (hd : decode (kCC k) pc = .ok (.fconst 0, 1)) (kk : V k (pc + 1) lv (.float FP.fconst0 :: st) nc ns M Q X) : V k pc lv (st) nc ns M Q X := by
  intro p l e R s m args below meth c base D Z M0 ad0 mc ms ad H locs cells slots d ls rst hF hN hst
  exact lv_fconst0 hF.1 hF.2.1 hd (kk p l e R s m args below meth c base D Z M0 ad0 mc ms ad H locs cells slots d ls _ hF hN ⟨rfl, hst⟩)
theorem V_iadd {y : Int32} {x : Int32} (hd : decode (kCC k) pc = .ok (.iadd, 1)) (kk : V k (pc + 1) lv (.int (x + y) :: st) nc ns M Q X) : V k pc lv (.int y :: .int x :: st) nc ns M Q X := by
  intro p l e R s m args below meth c base D Z M0 ad0 mc ms ad H locs cells slots d ls rst hF hN hst
  obtain ⟨y0, r0, rfl, e0, hst1⟩ := xRvs_cons hst
  clear hst
  cases (show y0 = Value.int y from e0)
  obtain ⟨y1, r1, rfl, e1, hst2⟩ := xRvs_cons hst1
  clear hst1
  cases (show y1 = Value.int x from e1)
  exact lv_iadd hF.1 hF.2.1 hd (kk p l e R s m args below meth c base D Z M0 ad0 mc ms ad H locs cells slots d ls _ hF hN ⟨rfl, hst2⟩)
theorem V_isub {y : Int32} {x : Int32} (hd : decode (kCC k) pc = .ok (.isub, 1)) (kk : V k (pc + 1) lv (.int (x - y) :: st) nc ns M Q X) : V k pc lv (.int y :: .int x :: st) nc ns M Q X := by
  intro p l e R s m args below meth c base D Z M0 ad0 mc ms ad H locs cells slots d ls rst hF hN hst
  obtain ⟨y0, r0, rfl, e0, hst1⟩ := xRvs_cons hst
  clear hst
  cases (show y0 = Value.int y from e0)
  obtain ⟨y1, r1, rfl, e1, hst2⟩ := xRvs_cons hst1
  clear hst1
  cases (show y1 = Value.int x from e1)
  exact lv_isub hF.1 hF.2.1 hd (kk p l e R s m args below meth c base D Z M0 ad0 mc ms ad H locs cells slots d ls _ hF hN ⟨rfl, hst2⟩)
theorem V_imul {y : Int32} {x : Int32} (hd : decode (kCC k) pc = .ok (.imul, 1)) (kk : V k (pc + 1) lv (.int (x * y) :: st) nc ns M Q X) : V k pc lv (.int y :: .int x :: st) nc ns M Q X := by
  intro p l e R s m args below meth c base D Z M0 ad0 mc ms ad H locs cells slots d ls rst hF hN hst
  obtain ⟨y0, r0, rfl, e0, hst1⟩ := xRvs_cons hst
  clear hst
  cases (show y0 = Value.int y from e0)
  obtain ⟨y1, r1, rfl, e1, hst2⟩ := xRvs_cons hst1
  clear hst1
  cases (show y1 = Value.int x from e1)
  exact lv_imul hF.1 hF.2.1 hd (kk p l e R s m args below meth c base D Z M0 ad0 mc ms ad H locs cells slots d ls _ hF hN ⟨rfl, hst2⟩)
theorem V_iand {y : Int32} {x : Int32} (hd : decode (kCC k) pc = .ok (.iand, 1)) (kk : V k (pc + 1) lv (.int (x &&& y) :: st) nc ns M Q X) : V k pc lv (.int y :: .int x :: st) nc ns M Q X := by
  intro p l e R s m args below meth c base D Z M0 ad0 mc ms ad H locs cells slots d ls rst hF hN hst
  obtain ⟨y0, r0, rfl, e0, hst1⟩ := xRvs_cons hst
  clear hst
  cases (show y0 = Value.int y from e0)
  obtain ⟨y1, r1, rfl, e1, hst2⟩ := xRvs_cons hst1
  clear hst1
  cases (show y1 = Value.int x from e1)
  exact lv_iand hF.1 hF.2.1 hd (kk p l e R s m args below meth c base D Z M0 ad0 mc ms ad H locs cells slots d ls _ hF hN ⟨rfl, hst2⟩)
theorem V_ior {y : Int32} {x : Int32} (hd : decode (kCC k) pc = .ok (.ior, 1)) (kk : V k (pc + 1) lv (.int (x ||| y) :: st) nc ns M Q X) : V k pc lv (.int y :: .int x :: st) nc ns M Q X := by
  intro p l e R s m args below meth c base D Z M0 ad0 mc ms ad H locs cells slots d ls rst hF hN hst
  obtain ⟨y0, r0, rfl, e0, hst1⟩ := xRvs_cons hst
  clear hst
  cases (show y0 = Value.int y from e0)
  obtain ⟨y1, r1, rfl, e1, hst2⟩ := xRvs_cons hst1
  clear hst1
  cases (show y1 = Value.int x from e1)
  exact lv_ior hF.1 hF.2.1 hd (kk p l e R s m args below meth c base D Z M0 ad0 mc ms ad H locs cells slots d ls _ hF hN ⟨rfl, hst2⟩)
theorem V_ishl {y : Int32} {x : Int32} (hd : decode (kCC k) pc = .ok (.ishl, 1)) (kk : V k (pc + 1) lv (.int (x <<< (y &&& 31)) :: st) nc ns M Q X) : V k pc lv (.int y :: .int x :: st) nc ns M Q X := by
  intro p l e R s m args below meth c base D Z M0 ad0 mc ms ad H locs cells slots d ls rst hF hN hst
  obtain ⟨y0, r0, rfl, e0, hst1⟩ := xRvs_cons hst
  clear hst
  cases (show y0 = Value.int y from e0)
  obtain ⟨y1, r1, rfl, e1, hst2⟩ := xRvs_cons hst1
  clear hst1
  cases (show y1 = Value.int x from e1)
  exact lv_ishl hF.1 hF.2.1 hd (kk p l e R s m args below meth c base D Z M0 ad0 mc ms ad H locs cells slots d ls _ hF hN ⟨rfl, hst2⟩)
theorem V_ishr {y : Int32} {x : Int32} (hd : decode (kCC k) pc = .ok (.ishr, 1)) (kk : V k (pc + 1) lv (.int (x >>> (y &&& 31)) :: st) nc ns M Q X) : V k pc lv (.int y :: .int x :: st) nc ns M Q X := by
  intro p l e R s m args below meth c base D Z M0 ad0 mc ms ad H locs cells slots d ls rst hF hN hst
  obtain ⟨y0, r0, rfl, e0, hst1⟩ := xRvs_cons hst
  clear hst
  cases (show y0 = Value.int y from e0)
  obtain ⟨y1, r1, rfl, e1, hst2⟩ := xRvs_cons hst1
  clear hst1
  cases (show y1 = Value.int x from e1)
  exact lv_ishr hF.1 hF.2.1 hd (kk p l e R s m args below meth c base D Z M0 ad0 mc ms ad H locs cells slots d ls _ hF hN ⟨rfl, hst2⟩)
theorem V_idiv {y : Int32} {x : Int32} (hd : decode (kCC k) pc = .ok (.idiv, 1)) (hne : ¬ y = 0) (kk : V k (pc + 1) lv (.int (x / y) :: st) nc ns M Q X) : V k pc lv (.int y :: .int x :: st) nc ns M Q X := by
  intro p l e R s m args below meth c base D Z M0 ad0 mc ms ad H locs cells slots d ls rst hF hN hst
  obtain ⟨y0, r0, rfl, e0, hst1⟩ := xRvs_cons hst
  clear hst
  cases (show y0 = Value.int y from e0)
  obtain ⟨y1, r1, rfl, e1, hst2⟩ := xRvs_cons hst1
  clear hst1
  cases (show y1 = Value.int x from e1)
  exact lv_idiv hF.1 hF.2.1 hd hne (kk p l e R s m args below meth c base D Z M0 ad0 mc ms ad H locs cells slots d ls _ hF hN ⟨rfl, hst2⟩)
theorem V_irem {y : Int32} {x : Int32} (hd : decode (kCC k) pc = .ok (.irem, 1)) (hne : ¬ y = 0) (kk : V k (pc + 1) lv (.int (x - x / y * y) :: st) nc ns M Q X) : V k pc lv (.int y :: .int x :: st) nc ns M Q X := by
  intro p l e R s m args below meth c base D Z M0 ad0 mc ms ad H locs cells slots d ls rst hF hN hst
  obtain ⟨y0, r0, rfl, e0, hst1⟩ := xRvs_cons hst
  clear hst
  cases (show y0 = Value.int y from e0)
  obtain ⟨y1, r1, rfl, e1, hst2⟩ := xRvs_cons hst1
  clear hst1
  cases (show y1 = Value.int x from e1)
  exact lv_irem hF.1 hF.2.1 hd hne (kk p l e R s m args below meth c base D Z M0 ad0 mc ms ad H locs cells slots d ls _ hF hN ⟨rfl, hst2⟩)
theorem V_ladd {y : Int64} {x : Int64} (hd : decode (kCC k) pc = .ok (.ladd, 1)) (kk : V k (pc + 1) lv (.long (x + y) :: st) nc ns M Q X) : V k pc lv (.long y :: .long x :: st) nc ns M Q X := by
  intro p l e R s m args below meth c base D Z M0 ad0 mc ms ad H locs cells slots d ls rst hF hN hst
  obtain ⟨y0, r0, rfl, e0, hst1⟩ := xRvs_cons hst
  clear hst
  cases (show y0 = Value.long y from e0)
  obtain ⟨y1, r1, rfl, e1, hst2⟩ := xRvs_cons hst1
  clear hst1
  cases (show y1 = Value.long x from e1)
  exact lv_ladd hF.1 hF.2.1 hd (kk p l e R s m args below meth c base D Z M0 ad0 mc ms ad H locs cells slots d ls _ hF hN ⟨rfl, hst2⟩)
theorem V_lsub {y : Int64} {x : Int64} (hd : decode (kCC k) pc = .ok (.lsub, 1)) (kk : V k (pc + 1) lv (.long (x - y) :: st) nc ns M Q X) : V k pc lv (.long y :: .long x :: st) nc ns M Q X := by
  intro p l e R s m args below meth c base D Z M0 ad0 mc ms ad H locs cells slots d ls rst hF hN hst
  obtain ⟨y0, r0, rfl, e0, hst1⟩ := xRvs_cons hst
  clear hst
  cases (show y0 = Value.long y from e0)
  obtain ⟨y1, r1, rfl, e1, hst2⟩ := xRvs_cons hst1
  clear hst1
  cases (show y1 = Value.long x from e1)
  exact lv_lsub hF.1 hF.2.1 hd (kk p l e R s m args below meth c base D Z M0 ad0 mc ms ad H locs cells slots d ls _ hF hN ⟨rfl, hst2⟩)
theorem V_lmul {y : Int64} {x : Int64} (hd : decode (kCC k) pc = .ok (.lmul, 1)) (kk : V k (pc + 1) lv (.long (x * y) :: st) nc ns M Q X) : V k pc lv (.long y :: .long x :: st) nc ns M Q X := by
  intro p l e R s m args below meth c base D Z M0 ad0 mc ms ad H locs cells slots d ls rst hF hN hst
  obtain ⟨y0, r0, rfl, e0, hst1⟩ := xRvs_cons hst
  clear hst
  cases (show y0 = Value.long y from e0)
  obtain ⟨y1, r1, rfl, e1, hst2⟩ := xRvs_cons hst1
  clear hst1
  cases (show y1 = Value.long x from e1)
  exact lv_lmul hF.1 hF.2.1 hd (kk p l e R s m args below meth c base D Z M0 ad0 mc ms ad H locs cells slots d ls _ hF hN ⟨rfl, hst2⟩)
theorem V_land {y : Int64} {x : Int64} (hd : decode (kCC k) pc = .ok (.land, 1)) (kk : V k (pc + 1) lv (.long (x &&& y) :: st) nc ns M Q X) : V k pc lv (.long y :: .long x :: st) nc ns M Q X := by
  intro p l e R s m args below meth c base D Z M0 ad0 mc ms ad H locs cells slots d ls rst hF hN hst
  obtain ⟨y0, r0, rfl, e0, hst1⟩ := xRvs_cons hst
  clear hst
  cases (show y0 = Value.long y from e0)
  obtain ⟨y1, r1, rfl, e1, hst2⟩ := xRvs_cons hst1
  clear hst1
  cases (show y1 = Value.long x from e1)
  exact lv_land hF.1 hF.2.1 hd (kk p l e R s m args below meth c base D Z M0 ad0 mc ms ad H locs cells slots d ls _ hF hN ⟨rfl, hst2⟩)
theorem V_lor {y : Int64} {x : Int64} (hd : decode (kCC k) pc = .ok (.lor, 1)) (kk : V k (pc + 1) lv (.long (x ||| y) :: st) nc ns M Q X) : V k pc lv (.long y :: .long x :: st) nc ns M Q X := by
  intro p l e R s m args below meth c base D Z M0 ad0 mc ms ad H locs cells slots d ls rst hF hN hst
  obtain ⟨y0, r0, rfl, e0, hst1⟩ := xRvs_cons hst
  clear hst
  cases (show y0 = Value.long y from e0)
  obtain ⟨y1, r1, rfl, e1, hst2⟩ := xRvs_cons hst1
  clear hst1
  cases (show y1 = Value.long x from e1)
  exact lv_lor hF.1 hF.2.1 hd (kk p l e R s m args below meth c base D Z M0 ad0 mc ms ad H locs cells slots d ls _ hF hN ⟨rfl, hst2⟩)
theorem V_ldiv {y : Int64} {x : Int64} (hd : decode (kCC k) pc = .ok (.ldiv, 1)) (hne : ¬ y = 0) (kk : V k (pc + 1) lv (.long (x / y) :: st) nc ns M Q X) : V k pc lv (.long y :: .long x :: st) nc ns M Q X := by
  intro p l e R s m args below meth c base D Z M0 ad0 mc ms ad H locs cells slots d ls rst hF hN hst
  obtain ⟨y0, r0, rfl, e0, hst1⟩ := xRvs_cons hst
  clear hst
  cases (show y0 = Value.long y from e0)
  obtain ⟨y1, r1, rfl, e1, hst2⟩ := xRvs_cons hst1
  clear hst1
  cases (show y1 = Value.long x from e1)
  exact lv_ldiv hF.1 hF.2.1 hd hne (kk p l e R s m args below meth c base D Z M0 ad0 mc ms ad H locs cells slots d ls _ hF hN ⟨rfl, hst2⟩)
theorem V_lrem {y : Int64} {x : Int64} (hd : decode (kCC k) pc = .ok (.lrem, 1)) (hne : ¬ y = 0) (kk : V k (pc + 1) lv (.long (x - x / y * y) :: st) nc ns M Q X) : V k pc lv (.long y :: .long x :: st) nc ns M Q X := by
  intro p l e R s m args below meth c base D Z M0 ad0 mc ms ad H locs cells slots d ls rst hF hN hst
  obtain ⟨y0, r0, rfl, e0, hst1⟩ := xRvs_cons hst
  clear hst
  cases (show y0 = Value.long y from e0)
  obtain ⟨y1, r1, rfl, e1, hst2⟩ := xRvs_cons hst1
  clear hst1
  cases (show y1 = Value.long x from e1)
  exact lv_lrem hF.1 hF.2.1 hd hne (kk p l e R s m args below meth c base D Z M0 ad0 mc ms ad H locs cells slots d ls _ hF hN ⟨rfl, hst2⟩)
theorem V_lshl {y : Int32} {x : Int64} (hd : decode (kCC k) pc = .ok (.lshl, 1)) (kk : V k (pc + 1) lv (.long (x <<< (y.toInt64 &&& 63)) :: st) nc ns M Q X) : V k pc lv (.int y :: .long x :: st) nc ns M Q X := by
  intro p l e R s m args below meth c base D Z M0 ad0 mc ms ad H locs cells slots d ls rst hF hN hst
  obtain ⟨y0, r0, rfl, e0, hst1⟩ := xRvs_cons hst
  clear hst
  cases (show y0 = Value.int y from e0)
  obtain ⟨y1, r1, rfl, e1, hst2⟩ := xRvs_cons hst1
  clear hst1
  cases (show y1 = Value.long x from e1)
  exact lv_lshl hF.1 hF.2.1 hd rfl (kk p l e R s m args below meth c base D Z M0 ad0 mc ms ad H locs cells slots d ls _ hF hN ⟨rfl, hst2⟩)
theorem V_l2i {x : Int64} (hd : decode (kCC k) pc = .ok (.l2i, 1)) (kk : V k (pc + 1) lv (.int x.toInt32 :: st) nc ns M Q X) : V k pc lv (.long x :: st) nc ns M Q X := by
  intro p l e R s m args below meth c base D Z M0 ad0 mc ms ad H locs cells slots d ls rst hF hN hst
  obtain ⟨y0, r0, rfl, e0, hst1⟩ := xRvs_cons hst
  clear hst
  cases (show y0 = Value.long x from e0)
  exact lv_l2i hF.1 hF.2.1 hd rfl (kk p l e R s m args below meth c base D Z M0 ad0 mc ms ad H locs cells slots d ls _ hF hN ⟨rfl, hst1⟩)
theorem V_i2l {x : Int32} (hd : decode (kCC k) pc = .ok (.i2l, 1)) (kk : V k (pc + 1) lv (.long x.toInt64 :: st) nc ns M Q X) : V k pc lv (.int x :: st) nc ns M Q X := by
  intro p l e R s m args below meth c base D Z M0 ad0 mc ms ad H locs cells slots d ls rst hF hN hst
  obtain ⟨y0, r0, rfl, e0, hst1⟩ := xRvs_cons hst
  clear hst
  cases (show y0 = Value.int x from e0)
  exact lv_i2l hF.1 hF.2.1 hd rfl (kk p l e R s m args below meth c base D Z M0 ad0 mc ms ad H locs cells slots d ls _ hF hN ⟨rfl, hst1⟩)
theorem V_i2c {x : Int32} (hd : decode (kCC k) pc = .ok (.i2c, 1)) (kk : V k (pc + 1) lv (.int (x.toUInt32 % 65536).toInt32 :: st) nc ns M Q X) : V k pc lv (.int x :: st) nc ns M Q X := by
  intro p l e R s m args below meth c base D Z M0 ad0 mc ms ad H locs cells slots d ls rst hF hN hst
  obtain ⟨y0, r0, rfl, e0, hst1⟩ := xRvs_cons hst
  clear hst
  cases (show y0 = Value.int x from e0)
  exact lv_i2c hF.1 hF.2.1 hd rfl (kk p l e R s m args below meth c base D Z M0 ad0 mc ms ad H locs cells slots d ls _ hF hN ⟨rfl, hst1⟩)
theorem V_i2f {x : Int32} (hd : decode (kCC k) pc = .ok (.i2f, 1)) (kk : V k (pc + 1) lv (.float (FP.i2f x) :: st) nc ns M Q X) : V k pc lv (.int x :: st) nc ns M Q X := by
  intro p l e R s m args below meth c base D Z M0 ad0 mc ms ad H locs cells slots d ls rst hF hN hst
  obtain ⟨y0, r0, rfl, e0, hst1⟩ := xRvs_cons hst
  clear hst
  cases (show y0 = Value.int x from e0)
  exact lv_i2f hF.1 hF.2.1 hd (kk p l e R s m args below meth c base D Z M0 ad0 mc ms ad H locs cells slots d ls _ hF hN ⟨rfl, hst1⟩)
theorem V_fdiv {y : UInt32} {x : UInt32} (hd : decode (kCC k) pc = .ok (.fdiv, 1)) (hne : vf_n32 (FP.fdiv x y)) (kk : V k (pc + 1) lv (.float (FP.fdiv x y) :: st) nc ns M Q X) : V k pc lv (.float y :: .float x :: st) nc ns M Q X := by
  intro p l e R s m args below meth c base D Z M0 ad0 mc ms ad H locs cells slots d ls rst hF hN hst
  obtain ⟨y0, r0, rfl, e0, hst1⟩ := xRvs_cons hst
  clear hst
  cases (show y0 = Value.float y from e0)
  obtain ⟨y1, r1, rfl, e1, hst2⟩ := xRvs_cons hst1
  clear hst1
  cases (show y1 = Value.float x from e1)
  exact lv_fdiv hF.1 hF.2.1 hd hne (kk p l e R s m args below meth c base D Z M0 ad0 mc ms ad H locs cells slots d ls _ hF hN ⟨rfl, hst2⟩)
theorem V_fcmp {y : UInt32} {x : UInt32} {op : CmpOp} (hd : decode (kCC k) pc = .ok (.fcmp op, 1)) (kk : V k (pc + 1) lv (.int (Op.cmpValue (FP.fcmp x y) op) :: st) nc ns M Q X) : V k pc lv (.float y :: .float x :: st) nc ns M Q X := by
  intro p l e R s m args below meth c base D Z M0 ad0 mc ms ad H locs cells slots d ls rst hF hN hst
  obtain ⟨y0, r0, rfl, e0, hst1⟩ := xRvs_cons hst
  clear hst
  cases (show y0 = Value.float y from e0)
  obtain ⟨y1, r1, rfl, e1, hst2⟩ := xRvs_cons hst1
  clear hst1
  cases (show y1 = Value.float x from e1)
  exact lv_fcmp hF.1 hF.2.1 hd (kk p l e R s m args below meth c base D Z M0 ad0 mc ms ad H locs cells slots d ls _ hF hN ⟨rfl, hst2⟩)
theorem V_lcmp {y : Int64} {x : Int64} (hd : decode (kCC k) pc = .ok (.lcmp, 1)) (kk : V k (pc + 1) lv (.int (lg_cmp x y) :: st) nc ns M Q X) : V k pc lv (.long y :: .long x :: st) nc ns M Q X := by
  intro p l e R s m args below meth c base D Z M0 ad0 mc ms ad H locs cells slots d ls rst hF hN hst
  obtain ⟨y0, r0, rfl, e0, hst1⟩ := xRvs_cons hst
  clear hst
  cases (show y0 = Value.long y from e0)
  obtain ⟨y1, r1, rfl, e1, hst2⟩ := xRvs_cons hst1
  clear hst1
  cases (show y1 = Value.long x from e1)
  exact W.lcmp hF.1 hF.2.1 hd (kk p l e R s m args below meth c base D Z M0 ad0 mc ms ad H locs cells slots d ls _ hF hN ⟨rfl, hst2⟩)
theorem V_ldc {index : Nat} {v : Int32} (hd : decode (kCC k) pc = .ok (.ldc index, 2)) (hc : Cond.constant (kOwn k) index v ∈ xTs) (kk : V k (pc + 2) lv (.int v :: st) nc ns M Q X) : V k pc lv st nc ns M Q X := by
  intro p l e R s m args below meth c base D Z M0 ad0 mc ms ad H locs cells slots d ls rst hF hN hst
  exact lv_ldc (s := s.setDrawn d) hF.1 hF.2.1 hF.2.2.2.2.2.2.2.1 (dr_words hF.2.2.2.2.2.2.2.2.1 d _ hc) hd (kk p l e R s m args below meth c base D Z M0 ad0 mc ms ad H locs cells slots d ls _ hF hN ⟨rfl, hst⟩)
theorem V_ldcw {index : Nat} {v : Int32} (hd : decode (kCC k) pc = .ok (.ldc_w index, 3)) (hc : Cond.constant (kOwn k) index v ∈ xTs) (kk : V k (pc + 3) lv (.int v :: st) nc ns M Q X) : V k pc lv st nc ns M Q X := by
  intro p l e R s m args below meth c base D Z M0 ad0 mc ms ad H locs cells slots d ls rst hF hN hst
  exact lv_ldcw (s := s.setDrawn d) hF.1 hF.2.1 hF.2.2.2.2.2.2.2.1 (dr_words hF.2.2.2.2.2.2.2.2.1 d _ hc) hd (kk p l e R s m args below meth c base D Z M0 ad0 mc ms ad H locs cells slots d ls _ hF hN ⟨rfl, hst⟩)
theorem V_ldc2 {index : Nat} {v : Int64} (hd : decode (kCC k) pc = .ok (.ldc2_w index, 3)) (hc : Cond.constantLong (kOwn k) index v ∈ xTs) (kk : V k (pc + 3) lv (.long v :: st) nc ns M Q X) : V k pc lv st nc ns M Q X := by
  intro p l e R s m args below meth c base D Z M0 ad0 mc ms ad H locs cells slots d ls rst hF hN hst
  exact lv_ldc2 (s := s.setDrawn d) hF.1 hF.2.1 hF.2.2.2.2.2.2.2.1 (dr_words hF.2.2.2.2.2.2.2.2.1 d _ hc) hd (kk p l e R s m args below meth c base D Z M0 ad0 mc ms ad H locs cells slots d ls _ hF hN ⟨rfl, hst⟩)
theorem V_ldc2d {index : Nat} {v : UInt64} (hv : isNaN64 v = false) (hd : decode (kCC k) pc = .ok (.ldc2_w index, 3)) (hc : Cond.constantDouble (kOwn k) index v ∈ xTs) (kk : V k (pc + 3) lv (.double v :: st) nc ns M Q X) : V k pc lv st nc ns M Q X := by
  intro p l e R s m args below meth c base D Z M0 ad0 mc ms ad H locs cells slots d ls rst hF hN hst
  exact lv_ldc2d (s := s.setDrawn d) hF.1 hF.2.1 hF.2.2.2.2.2.2.2.1 (dr_words hF.2.2.2.2.2.2.2.2.1 d _ hc) hd (kk p l e R s m args below meth c base D Z M0 ad0 mc ms ad H locs cells slots d ls _ hF hN ⟨⟨_, rfl, alq_num hv⟩, hst⟩)
theorem V_dconst0 (hd : decode (kCC k) pc = .ok (.dconst 0, 1)) (kk : V k (pc + 1) lv (.double FP.dconst0 :: st) nc ns M Q X) : V k pc lv st nc ns M Q X := by
  intro p l e R s m args below meth c base D Z M0 ad0 mc ms ad H locs cells slots d ls rst hF hN hst
  exact lv_dconst0 hF.1 hF.2.1 hd (kk p l e R s m args below meth c base D Z M0 ad0 mc ms ad H locs cells slots d ls _ hF hN ⟨⟨_, rfl, alq_num (by decide)⟩, hst⟩)
theorem V_dconst1 (hd : decode (kCC k) pc = .ok (.dconst 1, 1)) (kk : V k (pc + 1) lv (.double FP.dconst1 :: st) nc ns M Q X) : V k pc lv st nc ns M Q X := by
  intro p l e R s m args below meth c base D Z M0 ad0 mc ms ad H locs cells slots d ls rst hF hN hst
  exact lv_dconst1 hF.1 hF.2.1 hd (kk p l e R s m args below meth c base D Z M0 ad0 mc ms ad H locs cells slots d ls _ hF hN ⟨⟨_, rfl, alq_num (by decide)⟩, hst⟩)
theorem V_null (hd : decode (kCC k) pc = .ok (.aconst_null, 1)) (kk : V k (pc + 1) lv (.null :: st) nc ns M Q X) : V k pc lv st nc ns M Q X := by
  intro p l e R s m args below meth c base D Z M0 ad0 mc ms ad H locs cells slots d ls rst hF hN hst
  exact lv_null hF.1 hF.2.1 hd (kk p l e R s m args below meth c base D Z M0 ad0 mc ms ad H locs cells slots d ls _ hF hN ⟨rfl, hst⟩)
theorem V_iload_n {q : Fin 4} {i j : Nat} {x : Int32} (hd : decode (kCC k) pc = .ok (.iload_n q, 1)) (hi : (q : Nat) = i) (hl : lv[j]? = some (i, .int x)) (kk : V k (pc + 1) lv (.int x :: st) nc ns M Q X) : V k pc lv st nc ns M Q X := by
  intro p l e R s m args below meth c base D Z M0 ad0 mc ms ad H locs cells slots d ls rst hF hN hst
  obtain ⟨lvr, a7, a8⟩ := hN.2.2.2.2.2.2
  obtain ⟨y, hy, e9⟩ := xRl_at a8 hl
  cases (show y = Value.int x from e9)
  exact lv_iload_n hF.1 hF.2.1 hd hi (lv_at a7 j hy) (kk p l e R s m args below meth c base D Z M0 ad0 mc ms ad H locs cells slots d ls _ hF hN ⟨rfl, hst⟩)
theorem V_iload {i j : Nat} {x : Int32} (hd : decode (kCC k) pc = .ok (.iload i, 2)) (hl : lv[j]? = some (i, .int x)) (kk : V k (pc + 2) lv (.int x :: st) nc ns M Q X) : V k pc lv st nc ns M Q X := by
  intro p l e R s m args below meth c base D Z M0 ad0 mc ms ad H locs cells slots d ls rst hF hN hst
  obtain ⟨lvr, a7, a8⟩ := hN.2.2.2.2.2.2
  obtain ⟨y, hy, e9⟩ := xRl_at a8 hl
  cases (show y = Value.int x from e9)
  exact lv_iload hF.1 hF.2.1 hd (lv_at a7 j hy) (kk p l e R s m args below meth c base D Z M0 ad0 mc ms ad H locs cells slots d ls _ hF hN ⟨rfl, hst⟩)
theorem V_lload_n {q : Fin 4} {i j : Nat} {x : Int64} (hd : decode (kCC k) pc = .ok (.lload_n q, 1)) (hi : (q : Nat) = i) (hl : lv[j]? = some (i, .long x)) (kk : V k (pc + 1) lv (.long x :: st) nc ns M Q X) : V k pc lv st nc ns M Q X := by
  intro p l e R s m args below meth c base D Z M0 ad0 mc ms ad H locs cells slots d ls rst hF hN hst
  obtain ⟨lvr, a7, a8⟩ := hN.2.2.2.2.2.2
  obtain ⟨y, hy, e9⟩ := xRl_at a8 hl
  cases (show y = Value.long x from e9)
  exact lv_lload_n hF.1 hF.2.1 hd hi (lv_at a7 j hy) (kk p l e R s m args below meth c base D Z M0 ad0 mc ms ad H locs cells slots d ls _ hF hN ⟨rfl, hst⟩)
theorem V_lload {i j : Nat} {x : Int64} (hd : decode (kCC k) pc = .ok (.lload i, 2)) (hl : lv[j]? = some (i, .long x)) (kk : V k (pc + 2) lv (.long x :: st) nc ns M Q X) : V k pc lv st nc ns M Q X := by
  intro p l e R s m args below meth c base D Z M0 ad0 mc ms ad H locs cells slots d ls rst hF hN hst
  obtain ⟨lvr, a7, a8⟩ := hN.2.2.2.2.2.2
  obtain ⟨y, hy, e9⟩ := xRl_at a8 hl
  cases (show y = Value.long x from e9)
  exact lv_lload hF.1 hF.2.1 hd (lv_at a7 j hy) (kk p l e R s m args below meth c base D Z M0 ad0 mc ms ad H locs cells slots d ls _ hF hN ⟨rfl, hst⟩)
theorem V_dload_n {q : Fin 4} {i j : Nat} {x : UInt64} (hd : decode (kCC k) pc = .ok (.dload_n q, 1)) (hi : (q : Nat) = i) (hl : lv[j]? = some (i, .double x)) (kk : V k (pc + 1) lv (.double x :: st) nc ns M Q X) : V k pc lv st nc ns M Q X := by
  intro p l e R s m args below meth c base D Z M0 ad0 mc ms ad H locs cells slots d ls rst hF hN hst
  obtain ⟨lvr, a7, a8⟩ := hN.2.2.2.2.2.2
  obtain ⟨y, hy, e9⟩ := xRl_at a8 hl
  obtain ⟨w, rfl, e9⟩ := e9
  exact lv_dload_n hF.1 hF.2.1 hd hi (lv_at a7 j hy) (kk p l e R s m args below meth c base D Z M0 ad0 mc ms ad H locs cells slots d ls _ hF hN ⟨⟨_, rfl, e9⟩, hst⟩)
theorem V_dload {i j : Nat} {x : UInt64} (hd : decode (kCC k) pc = .ok (.dload i, 2)) (hl : lv[j]? = some (i, .double x)) (kk : V k (pc + 2) lv (.double x :: st) nc ns M Q X) : V k pc lv st nc ns M Q X := by
  intro p l e R s m args below meth c base D Z M0 ad0 mc ms ad H locs cells slots d ls rst hF hN hst
  obtain ⟨lvr, a7, a8⟩ := hN.2.2.2.2.2.2
  obtain ⟨y, hy, e9⟩ := xRl_at a8 hl
  obtain ⟨w, rfl, e9⟩ := e9
  exact lv_dload hF.1 hF.2.1 hd (lv_at a7 j hy) (kk p l e R s m args below meth c base D Z M0 ad0 mc ms ad H locs cells slots d ls _ hF hN ⟨⟨_, rfl, e9⟩, hst⟩)
theorem V_aload_n {q : Fin 4} {i j : Nat} {x : Nat} (hd : decode (kCC k) pc = .ok (.aload_n q, 1)) (hi : (q : Nat) = i) (hl : lv[j]? = some (i, .ref x)) (kk : V k (pc + 1) lv (.ref x :: st) nc ns M Q X) : V k pc lv st nc ns M Q X := by
  intro p l e R s m args below meth c base D Z M0 ad0 mc ms ad H locs cells slots d ls rst hF hN hst
  obtain ⟨lvr, a7, a8⟩ := hN.2.2.2.2.2.2
  obtain ⟨y, hy, e9⟩ := xRl_at a8 hl
  obtain ⟨rfl, hk⟩ := e9
  exact lv_aload_n hF.1 hF.2.1 hd hi (lv_at a7 j hy) (kk p l e R s m args below meth c base D Z M0 ad0 mc ms ad H locs cells slots d ls _ hF hN ⟨⟨rfl, hk⟩, hst⟩)
theorem V_aload {i j : Nat} {x : Nat} (hd : decode (kCC k) pc = .ok (.aload i, 2)) (hl : lv[j]? = some (i, .ref x)) (kk : V k (pc + 2) lv (.ref x :: st) nc ns M Q X) : V k pc lv st nc ns M Q X := by
  intro p l e R s m args below meth c base D Z M0 ad0 mc ms ad H locs cells slots d ls rst hF hN hst
  obtain ⟨lvr, a7, a8⟩ := hN.2.2.2.2.2.2
  obtain ⟨y, hy, e9⟩ := xRl_at a8 hl
  obtain ⟨rfl, hk⟩ := e9
  exact lv_aload hF.1 hF.2.1 hd (lv_at a7 j hy) (kk p l e R s m args below meth c base D Z M0 ad0 mc ms ad H locs cells slots d ls _ hF hN ⟨⟨rfl, hk⟩, hst⟩)
theorem V_fload {i j : Nat} {x : UInt32} (hd : decode (kCC k) pc = .ok (.fload i, 2)) (hl : lv[j]? = some (i, .float x)) (kk : V k (pc + 2) lv (.float x :: st) nc ns M Q X) : V k pc lv st nc ns M Q X := by
  intro p l e R s m args below meth c base D Z M0 ad0 mc ms ad H locs cells slots d ls rst hF hN hst
  obtain ⟨lvr, a7, a8⟩ := hN.2.2.2.2.2.2
  obtain ⟨y, hy, e9⟩ := xRl_at a8 hl
  cases (show y = Value.float x from e9)
  exact lv_fload hF.1 hF.2.1 hd (lv_at a7 j hy) (kk p l e R s m args below meth c base D Z M0 ad0 mc ms ad H locs cells slots d ls _ hF hN ⟨rfl, hst⟩)
theorem V_istore_n {q : Fin 4} {i : Nat} {x : Int32} (hd : decode (kCC k) pc = .ok (.istore_n q, 1)) (hi : (q : Nat) = i) (hn : i < kNL k) (hl : (i, Value.int x) :: lv.filter (fun q => !(q.1 == i) && !(q.1 + 1 == i && q.2.category == 2)) = lv1) (kk : V k (pc + 1) lv1 st nc ns M Q X) : V k pc lv (.int x :: st) nc ns M Q X := by
  intro p l e R s m args below meth c base D Z M0 ad0 mc ms ad H locs cells slots d ls rst hF hN hst
  obtain ⟨y0, r0, rfl, e0, hst1⟩ := xRvs_cons hst
  clear hst
  cases (show y0 = Value.int x from e0)
  obtain ⟨a1, a2, a3, a4, a5, a6, lvr, a7, a8⟩ := hN
  subst hl
  exact lv_istore_n hF.1 hF.2.1 hd hi a7 hn rfl (fun ls' h' => kk p l e R s m args below meth c base D Z M0 ad0 mc ms ad H locs cells slots d ls' _ hF ⟨a1, a2, a3, a4, a5, a6, _, h', ⟨rfl, rfl⟩, xRl_filter (fun a b => !(a == i) && !(a + 1 == i && b == 2)) a8⟩ hst1)
theorem V_istore {i : Nat} {x : Int32} (hd : decode (kCC k) pc = .ok (.istore i, 2)) (hn : i < kNL k) (hl : (i, Value.int x) :: lv.filter (fun q => !(q.1 == i) && !(q.1 + 1 == i && q.2.category == 2)) = lv1) (kk : V k (pc + 2) lv1 st nc ns M Q X) : V k pc lv (.int x :: st) nc ns M Q X := by
  intro p l e R s m args below meth c base D Z M0 ad0 mc ms ad H locs cells slots d ls rst hF hN hst
  obtain ⟨y0, r0, rfl, e0, hst1⟩ := xRvs_cons hst
  clear hst
  cases (show y0 = Value.int x from e0)
  obtain ⟨a1, a2, a3, a4, a5, a6, lvr, a7, a8⟩ := hN
  subst hl
  exact lv_istore hF.1 hF.2.1 hd a7 hn rfl (fun ls' h' => kk p l e R s m args below meth c base D Z M0 ad0 mc ms ad H locs cells slots d ls' _ hF ⟨a1, a2, a3, a4, a5, a6, _, h', ⟨rfl, rfl⟩, xRl_filter (fun a b => !(a == i) && !(a + 1 == i && b == 2)) a8⟩ hst1)
theorem V_lstore_n {q : Fin 4} {i : Nat} {x : Int64} (hd : decode (kCC k) pc = .ok (.lstore_n q, 1)) (hi : (q : Nat) = i) (hn : i + 1 < kNL k) (hl : (i, Value.long x) :: lv.filter (fun q => !(q.1 == i) && (!(q.1 == i + 1) && !(q.1 + 1 == i && q.2.category == 2))) = lv1) (kk : V k (pc + 1) lv1 st nc ns M Q X) : V k pc lv (.long x :: st) nc ns M Q X := by
  intro p l e R s m args below meth c base D Z M0 ad0 mc ms ad H locs cells slots d ls rst hF hN hst
  obtain ⟨y0, r0, rfl, e0, hst1⟩ := xRvs_cons hst
  clear hst
  cases (show y0 = Value.long x from e0)
  obtain ⟨a1, a2, a3, a4, a5, a6, lvr, a7, a8⟩ := hN
  subst hl
  exact lv_lstore_n hF.1 hF.2.1 hd hi a7 hn rfl (fun ls' h' => kk p l e R s m args below meth c base D Z M0 ad0 mc ms ad H locs cells slots d ls' _ hF ⟨a1, a2, a3, a4, a5, a6, _, h', ⟨rfl, rfl⟩, xRl_filter (fun a b => !(a == i) && (!(a == i + 1) && !(a + 1 == i && b == 2))) a8⟩ hst1)
theorem V_lstore {i : Nat} {x : Int64} (hd : decode (kCC k) pc = .ok (.lstore i, 2)) (hn : i + 1 < kNL k) (hl : (i, Value.long x) :: lv.filter (fun q => !(q.1 == i) && (!(q.1 == i + 1) && !(q.1 + 1 == i && q.2.category == 2))) = lv1) (kk : V k (pc + 2) lv1 st nc ns M Q X) : V k pc lv (.long x :: st) nc ns M Q X := by
  intro p l e R s m args below meth c base D Z M0 ad0 mc ms ad H locs cells slots d ls rst hF hN hst
  obtain ⟨y0, r0, rfl, e0, hst1⟩ := xRvs_cons hst
  clear hst
  cases (show y0 = Value.long x from e0)
  obtain ⟨a1, a2, a3, a4, a5, a6, lvr, a7, a8⟩ := hN
  subst hl
  exact lv_lstore hF.1 hF.2.1 hd a7 hn rfl (fun ls' h' => kk p l e R s m args below meth c base D Z M0 ad0 mc ms ad H locs cells slots d ls' _ hF ⟨a1, a2, a3, a4, a5, a6, _, h', ⟨rfl, rfl⟩, xRl_filter (fun a b => !(a == i) && (!(a == i + 1) && !(a + 1 == i && b == 2))) a8⟩ hst1)
theorem V_dstore_n {q : Fin 4} {i : Nat} {x : UInt64} (hd : decode (kCC k) pc = .ok (.dstore_n q, 1)) (hi : (q : Nat) = i) (hn : i + 1 < kNL k) (hl : (i, Value.double x) :: lv.filter (fun q => !(q.1 == i) && (!(q.1 == i + 1) && !(q.1 + 1 == i && q.2.category == 2))) = lv1) (kk : V k (pc + 1) lv1 st nc ns M Q X) : V k pc lv (.double x :: st) nc ns M Q X := by
  intro p l e R s m args below meth c base D Z M0 ad0 mc ms ad H locs cells slots d ls rst hF hN hst
  obtain ⟨y0, r0, rfl, e0, hst1⟩ := xRvs_cons hst
  clear hst
  obtain ⟨w0, rfl, e0⟩ := e0
  obtain ⟨a1, a2, a3, a4, a5, a6, lvr, a7, a8⟩ := hN
  subst hl
  exact lv_dstore_n hF.1 hF.2.1 hd hi a7 hn rfl (fun ls' h' => kk p l e R s m args below meth c base D Z M0 ad0 mc ms ad H locs cells slots d ls' _ hF ⟨a1, a2, a3, a4, a5, a6, _, h', ⟨rfl, ⟨_, rfl, e0⟩⟩, xRl_filter (fun a b => !(a == i) && (!(a == i + 1) && !(a + 1 == i && b == 2))) a8⟩ hst1)
theorem V_dstore {i : Nat} {x : UInt64} (hd : decode (kCC k) pc = .ok (.dstore i, 2)) (hn : i + 1 < kNL k) (hl : (i, Value.double x) :: lv.filter (fun q => !(q.1 == i) && (!(q.1 == i + 1) && !(q.1 + 1 == i && q.2.category == 2))) = lv1) (kk : V k (pc + 2) lv1 st nc ns M Q X) : V k pc lv (.double x :: st) nc ns M Q X := by
  intro p l e R s m args below meth c base D Z M0 ad0 mc ms ad H locs cells slots d ls rst hF hN hst
  obtain ⟨y0, r0, rfl, e0, hst1⟩ := xRvs_cons hst
  clear hst
  obtain ⟨w0, rfl, e0⟩ := e0
  obtain ⟨a1, a2, a3, a4, a5, a6, lvr, a7, a8⟩ := hN
  subst hl
  exact lv_dstore hF.1 hF.2.1 hd a7 hn rfl (fun ls' h' => kk p l e R s m args below meth c base D Z M0 ad0 mc ms ad H locs cells slots d ls' _ hF ⟨a1, a2, a3, a4, a5, a6, _, h', ⟨rfl, ⟨_, rfl, e0⟩⟩, xRl_filter (fun a b => !(a == i) && (!(a == i + 1) && !(a + 1 == i && b == 2))) a8⟩ hst1)
theorem V_astore_n {q : Fin 4} {i : Nat} {x : Nat} (hd : decode (kCC k) pc = .ok (.astore_n q, 1)) (hi : (q : Nat) = i) (hn : i < kNL k) (hl : (i, Value.ref x) :: lv.filter (fun q => !(q.1 == i) && !(q.1 + 1 == i && q.2.category == 2)) = lv1) (kk : V k (pc + 1) lv1 st nc ns M Q X) : V k pc lv (.ref x :: st) nc ns M Q X := by
  intro p l e R s m args below meth c base D Z M0 ad0 mc ms ad H locs cells slots d ls rst hF hN hst
  obtain ⟨y0, r0, rfl, e0, hst1⟩ := xRvs_cons hst
  clear hst
  obtain ⟨rfl, hka0⟩ := e0
  obtain ⟨a1, a2, a3, a4, a5, a6, lvr, a7, a8⟩ := hN
  subst hl
  exact lv_astore_n hF.1 hF.2.1 hd hi a7 hn rfl (fun ls' h' => kk p l e R s m args below meth c base D Z M0 ad0 mc ms ad H locs cells slots d ls' _ hF ⟨a1, a2, a3, a4, a5, a6, _, h', ⟨rfl, ⟨rfl, hka0⟩⟩, xRl_filter (fun a b => !(a == i) && !(a + 1 == i && b == 2)) a8⟩ hst1)
theorem V_astore {i : Nat} {x : Nat} (hd : decode (kCC k) pc = .ok (.astore i, 2)) (hn : i < kNL k) (hl : (i, Value.ref x) :: lv.filter (fun q => !(q.1 == i) && !(q.1 + 1 == i && q.2.category == 2)) = lv1) (kk : V k (pc + 2) lv1 st nc ns M Q X) : V k pc lv (.ref x :: st) nc ns M Q X := by
  intro p l e R s m args below meth c base D Z M0 ad0 mc ms ad H locs cells slots d ls rst hF hN hst
  obtain ⟨y0, r0, rfl, e0, hst1⟩ := xRvs_cons hst
  clear hst
  obtain ⟨rfl, hka0⟩ := e0
  obtain ⟨a1, a2, a3, a4, a5, a6, lvr, a7, a8⟩ := hN
  subst hl
  exact lv_astore hF.1 hF.2.1 hd a7 hn rfl (fun ls' h' => kk p l e R s m args below meth c base D Z M0 ad0 mc ms ad H locs cells slots d ls' _ hF ⟨a1, a2, a3, a4, a5, a6, _, h', ⟨rfl, ⟨rfl, hka0⟩⟩, xRl_filter (fun a b => !(a == i) && !(a + 1 == i && b == 2)) a8⟩ hst1)
theorem V_fstore {i : Nat} {x : UInt32} (hd : decode (kCC k) pc = .ok (.fstore i, 2)) (hn : i < kNL k) (hl : (i, Value.float x) :: lv.filter (fun q => !(q.1 == i) && !(q.1 + 1 == i && q.2.category == 2)) = lv1) (kk : V k (pc + 2) lv1 st nc ns M Q X) : V k pc lv (.float x :: st) nc ns M Q X := by
  intro p l e R s m args below meth c base D Z M0 ad0 mc ms ad H locs cells slots d ls rst hF hN hst
  obtain ⟨y0, r0, rfl, e0, hst1⟩ := xRvs_cons hst
  clear hst
  cases (show y0 = Value.float x from e0)
  obtain ⟨a1, a2, a3, a4, a5, a6, lvr, a7, a8⟩ := hN
  subst hl
  exact lv_fstore hF.1 hF.2.1 hd a7 hn rfl (fun ls' h' => kk p l e R s m args below meth c base D Z M0 ad0 mc ms ad H locs cells slots d ls' _ hF ⟨a1, a2, a3, a4, a5, a6, _, h', ⟨rfl, rfl⟩, xRl_filter (fun a b => !(a == i) && !(a + 1 == i && b == 2)) a8⟩ hst1)
theorem V_iinc {i j : Nat} {n : Int} {x v : Int32} (hd : decode (kCC k) pc = .ok (.iinc i n, 3)) (hj : lv[j]? = some (i, .int x)) (hv : x + Int32.ofInt n = v) (hn : i < kNL k) (hl : (i, Value.int v) :: lv.filter (fun q => !(q.1 == i) && !(q.1 + 1 == i && q.2.category == 2)) = lv1) (kk : V k (pc + 3) lv1 st nc ns M Q X) : V k pc lv st nc ns M Q X := by
  intro p l e R s m args below meth c base D Z M0 ad0 mc ms ad H locs cells slots d ls rst hF hN hst
  obtain ⟨a1, a2, a3, a4, a5, a6, lvr, a7, a8⟩ := hN
  obtain ⟨y, hy, e9⟩ := xRl_at a8 hj
  cases (show y = Value.int x from e9)
  subst hl
  exact lv_iinc hF.1 hF.2.1 hd a7 hy hv hn rfl (fun ls' h' => kk p l e R s m args below meth c base D Z M0 ad0 mc ms ad H locs cells slots d ls' _ hF ⟨a1, a2, a3, a4, a5, a6, _, h', ⟨rfl, rfl⟩, xRl_filter (fun a b => !(a == i) && !(a + 1 == i && b == 2)) a8⟩ hst)
theorem V_dup {x : Value} (hd : decode (kCC k) pc = .ok (.dup, 1)) (hx : x.category = 1) (kk : V k (pc + 1) lv (x :: x :: st) nc ns M Q X) : V k pc lv (x :: st) nc ns M Q X := by
  intro p l e R s m args below meth c base D Z M0 ad0 mc ms ad H locs cells slots d ls rst hF hN hst
  obtain ⟨y0, r0, rfl, e0, hst1⟩ := xRvs_cons hst
  clear hst
  exact lv_dup hF.1 hF.2.1 hd (by rw [xRv_cat e0]; exact hx) (kk p l e R s m args below meth c base D Z M0 ad0 mc ms ad H locs cells slots d ls _ hF hN ⟨e0, e0, hst1⟩)
theorem V_dup2 {x y : Value} (hd : decode (kCC k) pc = .ok (.dup2, 1)) (hx : x.category = 1) (hy : y.category = 1) (kk : V k (pc + 1) lv (x :: y :: x :: y :: st) nc ns M Q X) : V k pc lv (x :: y :: st) nc ns M Q X := by
  intro p l e R s m args below meth c base D Z M0 ad0 mc ms ad H locs cells slots d ls rst hF hN hst
  obtain ⟨y0, r0, rfl, e0, hst1⟩ := xRvs_cons hst
  clear hst
  obtain ⟨y1, r1, rfl, e1, hst2⟩ := xRvs_cons hst1
  clear hst1
  exact lv_dup2_11 hF.1 hF.2.1 hd (by rw [xRv_cat e0]; exact hx) (by rw [xRv_cat e1]; exact hy) (kk p l e R s m args below meth c base D Z M0 ad0 mc ms ad H locs cells slots d ls _ hF hN ⟨e0, e1, e0, e1, hst2⟩)
theorem V_pop {x : Value} (hd : decode (kCC k) pc = .ok (.pop, 1)) (hx : x.category = 1) (kk : V k (pc + 1) lv st nc ns M Q X) : V k pc lv (x :: st) nc ns M Q X := by
  intro p l e R s m args below meth c base D Z M0 ad0 mc ms ad H locs cells slots d ls rst hF hN hst
  obtain ⟨y0, r0, rfl, e0, hst1⟩ := xRvs_cons hst
  clear hst
  exact lv_pop hF.1 hF.2.1 hd (by rw [xRv_cat e0]; exact hx) (kk p l e R s m args below meth c base D Z M0 ad0 mc ms ad H locs cells slots d ls _ hF hN hst1)
theorem V_if_eq {x : Int32} {off : Int} {tgt : Nat} (hd : decode (kCC k) pc = .ok (.ifCond .eq off, 3)) (ht : (pc : Int) + off = (tgt : Int)) (kt : x = 0 → V k tgt lv st nc ns M Q X) (kf : ¬ x = 0 → V k (pc + 3) lv st nc ns M Q X) : V k pc lv (.int x :: st) nc ns M Q X := by
  intro p l e R s m args below meth c base D Z M0 ad0 mc ms ad H locs cells slots d ls rst hF hN hst
  obtain ⟨y0, r0, rfl, e0, hst1⟩ := xRvs_cons hst
  clear hst
  cases (show y0 = Value.int x from e0)
  exact lv_if_eq hF.1 hF.2.1 hd ht (fun h => kt h p l e R s m args below meth c base D Z M0 ad0 mc ms ad H locs cells slots d ls _ hF hN hst1) (fun h => kf h p l e R s m args below meth c base D Z M0 ad0 mc ms ad H locs cells slots d ls _ hF hN hst1)
theorem V_if_ne {x : Int32} {off : Int} {tgt : Nat} (hd : decode (kCC k) pc = .ok (.ifCond .ne off, 3)) (ht : (pc : Int) + off = (tgt : Int)) (kt : ¬ x = 0 → V k tgt lv st nc ns M Q X) (kf : x = 0 → V k (pc + 3) lv st nc ns M Q X) : V k pc lv (.int x :: st) nc ns M Q X := by
  intro p l e R s m args below meth c base D Z M0 ad0 mc ms ad H locs cells slots d ls rst hF hN hst
  obtain ⟨y0, r0, rfl, e0, hst1⟩ := xRvs_cons hst
  clear hst
  cases (show y0 = Value.int x from e0)
  exact lv_if_ne hF.1 hF.2.1 hd ht (fun h => kt h p l e R s m args below meth c base D Z M0 ad0 mc ms ad H locs cells slots d ls _ hF hN hst1) (fun h => kf h p l e R s m args below meth c base D Z M0 ad0 mc ms ad H locs cells slots d ls _ hF hN hst1)
theorem V_if_lt {x : Int32} {off : Int} {tgt : Nat} (hd : decode (kCC k) pc = .ok (.ifCond .lt off, 3)) (ht : (pc : Int) + off = (tgt : Int)) (kt : x < 0 → V k tgt lv st nc ns M Q X) (kf : ¬ x < 0 → V k (pc + 3) lv st nc ns M Q X) : V k pc lv (.int x :: st) nc ns M Q X := by
  intro p l e R s m args below meth c base D Z M0 ad0 mc ms ad H locs cells slots d ls rst hF hN hst
  obtain ⟨y0, r0, rfl, e0, hst1⟩ := xRvs_cons hst
  clear hst
  cases (show y0 = Value.int x from e0)
  exact lv_if_lt hF.1 hF.2.1 hd ht (fun h => kt h p l e R s m args below meth c base D Z M0 ad0 mc ms ad H locs cells slots d ls _ hF hN hst1) (fun h => kf h p l e R s m args below meth c base D Z M0 ad0 mc ms ad H locs cells slots d ls _ hF hN hst1)
theorem V_if_ge {x : Int32} {off : Int} {tgt : Nat} (hd : decode (kCC k) pc = .ok (.ifCond .ge off, 3)) (ht : (pc : Int) + off = (tgt : Int)) (kt : 0 ≤ x → V k tgt lv st nc ns M Q X) (kf : ¬ 0 ≤ x → V k (pc + 3) lv st nc ns M Q X) : V k pc lv (.int x :: st) nc ns M Q X := by
  intro p l e R s m args below meth c base D Z M0 ad0 mc ms ad H locs cells slots d ls rst hF hN hst
  obtain ⟨y0, r0, rfl, e0, hst1⟩ := xRvs_cons hst
  clear hst
  cases (show y0 = Value.int x from e0)
  exact lv_if_ge hF.1 hF.2.1 hd ht (fun h => kt h p l e R s m args below meth c base D Z M0 ad0 mc ms ad H locs cells slots d ls _ hF hN hst1) (fun h => kf h p l e R s m args below meth c base D Z M0 ad0 mc ms ad H locs cells slots d ls _ hF hN hst1)
theorem V_if_gt {x : Int32} {off : Int} {tgt : Nat} (hd : decode (kCC k) pc = .ok (.ifCond .gt off, 3)) (ht : (pc : Int) + off = (tgt : Int)) (kt : 0 < x → V k tgt lv st nc ns M Q X) (kf : ¬ 0 < x → V k (pc + 3) lv st nc ns M Q X) : V k pc lv (.int x :: st) nc ns M Q X := by
  intro p l e R s m args below meth c base D Z M0 ad0 mc ms ad H locs cells slots d ls rst hF hN hst
  obtain ⟨y0, r0, rfl, e0, hst1⟩ := xRvs_cons hst
  clear hst
  cases (show y0 = Value.int x from e0)
  exact lv_if_gt hF.1 hF.2.1 hd ht (fun h => kt h p l e R s m args below meth c base D Z M0 ad0 mc ms ad H locs cells slots d ls _ hF hN hst1) (fun h => kf h p l e R s m args below meth c base D Z M0 ad0 mc ms ad H locs cells slots d ls _ hF hN hst1)
theorem V_if_le {x : Int32} {off : Int} {tgt : Nat} (hd : decode (kCC k) pc = .ok (.ifCond .le off, 3)) (ht : (pc : Int) + off = (tgt : Int)) (kt : x ≤ 0 → V k tgt lv st nc ns M Q X) (kf : ¬ x ≤ 0 → V k (pc + 3) lv st nc ns M Q X) : V k pc lv (.int x :: st) nc ns M Q X := by
  intro p l e R s m args below meth c base D Z M0 ad0 mc ms ad H locs cells slots d ls rst hF hN hst
  obtain ⟨y0, r0, rfl, e0, hst1⟩ := xRvs_cons hst
  clear hst
  cases (show y0 = Value.int x from e0)
  exact lv_if_le hF.1 hF.2.1 hd ht (fun h => kt h p l e R s m args below meth c base D Z M0 ad0 mc ms ad H locs cells slots d ls _ hF hN hst1) (fun h => kf h p l e R s m args below meth c base D Z M0 ad0 mc ms ad H locs cells slots d ls _ hF hN hst1)
theorem V_icmp_eq {x y : Int32} {off : Int} {tgt : Nat} (hd : decode (kCC k) pc = .ok (.if_icmp .eq off, 3)) (ht : (pc : Int) + off = (tgt : Int)) (kt : x = y → V k tgt lv st nc ns M Q X) (kf : ¬ x = y → V k (pc + 3) lv st nc ns M Q X) : V k pc lv (.int y :: .int x :: st) nc ns M Q X := by
  intro p l e R s m args below meth c base D Z M0 ad0 mc ms ad H locs cells slots d ls rst hF hN hst
  obtain ⟨y0, r0, rfl, e0, hst1⟩ := xRvs_cons hst
  clear hst
  cases (show y0 = Value.int y from e0)
  obtain ⟨y1, r1, rfl, e1, hst2⟩ := xRvs_cons hst1
  clear hst1
  cases (show y1 = Value.int x from e1)
  exact lv_icmp_eq hF.1 hF.2.1 hd ht (fun h => kt h p l e R s m args below meth c base D Z M0 ad0 mc ms ad H locs cells slots d ls _ hF hN hst2) (fun h => kf h p l e R s m args below meth c base D Z M0 ad0 mc ms ad H locs cells slots d ls _ hF hN hst2)
theorem V_icmp_ne {x y : Int32} {off : Int} {tgt : Nat} (hd : decode (kCC k) pc = .ok (.if_icmp .ne off, 3)) (ht : (pc : Int) + off = (tgt : Int)) (kt : ¬ x = y → V k tgt lv st nc ns M Q X) (kf : x = y → V k (pc + 3) lv st nc ns M Q X) : V k pc lv (.int y :: .int x :: st) nc ns M Q X := by
  intro p l e R s m args below meth c base D Z M0 ad0 mc ms ad H locs cells slots d ls rst hF hN hst
  obtain ⟨y0, r0, rfl, e0, hst1⟩ := xRvs_cons hst
  clear hst
  cases (show y0 = Value.int y from e0)
  obtain ⟨y1, r1, rfl, e1, hst2⟩ := xRvs_cons hst1
  clear hst1
  cases (show y1 = Value.int x from e1)
  exact lv_icmp_ne hF.1 hF.2.1 hd ht (fun h => kt h p l e R s m args below meth c base D Z M0 ad0 mc ms ad H locs cells slots d ls _ hF hN hst2) (fun h => kf h p l e R s m args below meth c base D Z M0 ad0 mc ms ad H locs cells slots d ls _ hF hN hst2)
theorem V_icmp_lt {x y : Int32} {off : Int} {tgt : Nat} (hd : decode (kCC k) pc = .ok (.if_icmp .lt off, 3)) (ht : (pc : Int) + off = (tgt : Int)) (kt : x < y → V k tgt lv st nc ns M Q X) (kf : ¬ x < y → V k (pc + 3) lv st nc ns M Q X) : V k pc lv (.int y :: .int x :: st) nc ns M Q X := by
  intro p l e R s m args below meth c base D Z M0 ad0 mc ms ad H locs cells slots d ls rst hF hN hst
  obtain ⟨y0, r0, rfl, e0, hst1⟩ := xRvs_cons hst
  clear hst
  cases (show y0 = Value.int y from e0)
  obtain ⟨y1, r1, rfl, e1, hst2⟩ := xRvs_cons hst1
  clear hst1
  cases (show y1 = Value.int x from e1)
  exact lv_icmp_lt hF.1 hF.2.1 hd ht (fun h => kt h p l e R s m args below meth c base D Z M0 ad0 mc ms ad H locs cells slots d ls _ hF hN hst2) (fun h => kf h p l e R s m args below meth c base D Z M0 ad0 mc ms ad H locs cells slots d ls _ hF hN hst2)
theorem V_icmp_ge {x y : Int32} {off : Int} {tgt : Nat} (hd : decode (kCC k) pc = .ok (.if_icmp .ge off, 3)) (ht : (pc : Int) + off = (tgt : Int)) (kt : y ≤ x → V k tgt lv st nc ns M Q X) (kf : ¬ y ≤ x → V k (pc + 3) lv st nc ns M Q X) : V k pc lv (.int y :: .int x :: st) nc ns M Q X := by
  intro p l e R s m args below meth c base D Z M0 ad0 mc ms ad H locs cells slots d ls rst hF hN hst
  obtain ⟨y0, r0, rfl, e0, hst1⟩ := xRvs_cons hst
  clear hst
  cases (show y0 = Value.int y from e0)
  obtain ⟨y1, r1, rfl, e1, hst2⟩ := xRvs_cons hst1
  clear hst1
  cases (show y1 = Value.int x from e1)
  exact lv_icmp_ge hF.1 hF.2.1 hd ht (fun h => kt h p l e R s m args below meth c base D Z M0 ad0 mc ms ad H locs cells slots d ls _ hF hN hst2) (fun h => kf h p l e R s m args below meth c base D Z M0 ad0 mc ms ad H locs cells slots d ls _ hF hN hst2)
theorem V_icmp_gt {x y : Int32} {off : Int} {tgt : Nat} (hd : decode (kCC k) pc = .ok (.if_icmp .gt off, 3)) (ht : (pc : Int) + off = (tgt : Int)) (kt : y < x → V k tgt lv st nc ns M Q X) (kf : ¬ y < x → V k (pc + 3) lv st nc ns M Q X) : V k pc lv (.int y :: .int x :: st) nc ns M Q X := by
  intro p l e R s m args below meth c base D Z M0 ad0 mc ms ad H locs cells slots d ls rst hF hN hst
  obtain ⟨y0, r0, rfl, e0, hst1⟩ := xRvs_cons hst
  clear hst
  cases (show y0 = Value.int y from e0)
  obtain ⟨y1, r1, rfl, e1, hst2⟩ := xRvs_cons hst1
  clear hst1
  cases (show y1 = Value.int x from e1)
  exact lv_icmp_gt hF.1 hF.2.1 hd ht (fun h => kt h p l e R s m args below meth c base D Z M0 ad0 mc ms ad H locs cells slots d ls _ hF hN hst2) (fun h => kf h p l e R s m args below meth c base D Z M0 ad0 mc ms ad H locs cells slots d ls _ hF hN hst2)
theorem V_icmp_le {x y : Int32} {off : Int} {tgt : Nat} (hd : decode (kCC k) pc = .ok (.if_icmp .le off, 3)) (ht : (pc : Int) + off = (tgt : Int)) (kt : x ≤ y → V k tgt lv st nc ns M Q X) (kf : ¬ x ≤ y → V k (pc + 3) lv st nc ns M Q X) : V k pc lv (.int y :: .int x :: st) nc ns M Q X := by
  intro p l e R s m args below meth c base D Z M0 ad0 mc ms ad H locs cells slots d ls rst hF hN hst
  obtain ⟨y0, r0, rfl, e0, hst1⟩ := xRvs_cons hst
  clear hst
  cases (show y0 = Value.int y from e0)
  obtain ⟨y1, r1, rfl, e1, hst2⟩ := xRvs_cons hst1
  clear hst1
  cases (show y1 = Value.int x from e1)
  exact lv_icmp_le hF.1 hF.2.1 hd ht (fun h => kt h p l e R s m args below meth c base D Z M0 ad0 mc ms ad H locs cells slots d ls _ hF hN hst2) (fun h => kf h p l e R s m args below meth c base D Z M0 ad0 mc ms ad H locs cells slots d ls _ hF hN hst2)
theorem V_goto {off : Int} {tgt : Nat} (hd : decode (kCC k) pc = .ok (.goto off, 3)) (ht : (pc : Int) + off = (tgt : Int)) (kk : V k tgt lv st nc ns M Q X) : V k pc lv st nc ns M Q X := by
  intro p l e R s m args below meth c base D Z M0 ad0 mc ms ad H locs cells slots d ls rst hF hN hst
  exact lv_goto hF.1 hF.2.1 hd ht (kk p l e R s m args below meth c base D Z M0 ad0 mc ms ad H locs cells slots d ls _ hF hN hst)
theorem lk_off : ∀ (ps : List (Int × Int)) (dflt v : Int), (∀ q ∈ ps, v ≠ q.1) → Op.lookupswitch.offset ps dflt v = dflt
  | [], _, _, _ => rfl
  | (a, o) :: r, dflt, v, h => by
    rw [Op.lookupswitch.offset_cons, if_neg (fun e => h (a, o) List.mem_cons_self e.symm)]
    exact lk_off r dflt v (fun q hq => h q (List.mem_cons_of_mem _ hq))
theorem lk_on : ∀ (ps : List (Int × Int)) (dflt v o : Int), (ps.zip (ps.drop 1)).all (fun (a, next) => a.1 < next.1) = true → (v, o) ∈ ps → Op.lookupswitch.offset ps dflt v = o
  | [], _, _, _, _, h => absurd h List.not_mem_nil
  | (a, o1) :: r, dflt, v, o, hs, h => by
    rw [Op.lookupswitch.offset_cons]
    have hsr : (r.zip (r.drop 1)).all (fun (a, next) => a.1 < next.1) = true := by
      cases r with
      | nil => rfl
      | cons b r2 =>
        simp only [List.drop_succ_cons, List.drop_zero, List.zip_cons_cons, List.all_cons, Bool.and_eq_true] at hs ⊢
        exact hs.2
    have hlt : ∀ (r2 : List (Int × Int)) (a1 : Int) (o3 : Int), (((a1, o3) :: r2).zip (((a1, o3) :: r2).drop 1)).all (fun (a, next) => a.1 < next.1) = true → ∀ q ∈ r2, a1 < q.1 := by
      intro r2
      induction r2 with
      | nil => intro _ _ _ q hq; exact absurd hq List.not_mem_nil
      | cons b r3 ih =>
        intro a1 o3 hz q hq
        simp only [List.drop_succ_cons, List.drop_zero, List.zip_cons_cons, List.all_cons, Bool.and_eq_true, decide_eq_true_eq] at hz
        rcases List.mem_cons.mp hq with rfl | hq
        · exact hz.1
        · exact Int.lt_trans hz.1 (ih b.1 b.2 (by simpa using hz.2) q hq)
    rcases List.mem_cons.mp h with e | h
    · cases e
      rw [if_pos rfl]
    · have := hlt r a o1 hs (v, o) h
      rw [if_neg (fun e => by omega)]
      exact lk_on r dflt v o hsr h
theorem V_lookup {dflt : Int} {ps : Array (Int × Int)} {len : Nat} {x : Int32} (hd : decode (kCC k) pc = .ok (.lookupswitch dflt ps, len)) (hp : (ps.toList.zip (ps.toList.drop 1)).all (fun (a, next) => a.1 < next.1) = true) (cs : List (Int32 × Nat)) (dt : Nat)
    (hcs : ps.toList = cs.map (fun q => (q.1.toInt, (q.2 : Int) - (pc : Int)))) (hdt : (pc : Int) + dflt = (dt : Int)) (kc : ∀ q ∈ cs, x = q.1 → V k q.2 lv st nc ns M Q X) (kd : (∀ q ∈ cs, x ≠ q.1) → V k dt lv st nc ns M Q X) : V k pc lv (.int x :: st) nc ns M Q X := by
  intro p l e R s m args below meth c base D Z M0 ad0 mc ms ad H locs cells slots d ls rst hF hN hst
  obtain ⟨y0, r0, rfl, e0, hst1⟩ := xRvs_cons hst
  clear hst
  cases (show y0 = Value.int x from e0)
  by_cases hx : ∃ q ∈ cs, x = q.1
  · obtain ⟨q, hq, e9⟩ := hx
    refine lv_lookup (tgt := q.2) (off := (q.2 : Int) - (pc : Int)) hF.1 hF.2.1 hd hp (lk_on _ _ _ _ hp ?_) (by omega) (kc q hq e9 p l e R s m args below meth c base D Z M0 ad0 mc ms ad H locs cells slots d ls _ hF hN hst1)
    rw [hcs, e9]
    exact List.mem_map.mpr ⟨q, hq, rfl⟩
  · have hx' : ∀ q ∈ cs, x ≠ q.1 := fun q hq e9 => hx ⟨q, hq, e9⟩
    refine lv_lookup (tgt := dt) (off := dflt) hF.1 hF.2.1 hd hp (lk_off _ _ _ fun q hq => ?_) hdt (kd hx' p l e R s m args below meth c base D Z M0 ad0 mc ms ad H locs cells slots d ls _ hF hN hst1)
    rw [hcs] at hq
    obtain ⟨q2, hq2, rfl⟩ := List.mem_map.mp hq
    exact fun e => hx' q2 hq2 (Int32.toInt_inj.mp e)
theorem V_table {dflt lo hi : Int} {offs : Array Int} {len : Nat} {x : Int32} (hd : decode (kCC k) pc = .ok (.tableswitch dflt lo hi offs, len)) (cs : List (Int32 × Nat)) (dt : Nat)
    (hsz : hi = lo + (cs.length : Int) - 1) (hcs : ∀ i, i < cs.length → ∃ q, cs[i]? = some q ∧ q.1.toInt = lo + (i : Int) ∧ offs[i]? = some ((q.2 : Int) - (pc : Int))) (hdt : (pc : Int) + dflt = (dt : Int)) (kc : ∀ q ∈ cs, x = q.1 → V k q.2 lv st nc ns M Q X) (kd : (∀ q ∈ cs, x ≠ q.1) → V k dt lv st nc ns M Q X) : V k pc lv (.int x :: st) nc ns M Q X := by
  intro p l e R s m args below meth c base D Z M0 ad0 mc ms ad H locs cells slots d ls rst hF hN hst
  obtain ⟨y0, r0, rfl, e0, hst1⟩ := xRvs_cons hst
  clear hst
  cases (show y0 = Value.int x from e0)
  by_cases h1 : x.toInt < lo ∨ hi < x.toInt
  · refine lv_tableOut (tgt := dt) hF.1 hF.2.1 hd h1 hdt (kd (fun q hq e9 => ?_) p l e R s m args below meth c base D Z M0 ad0 mc ms ad H locs cells slots d ls _ hF hN hst1)
    obtain ⟨i, hi', hq2⟩ := List.getElem_of_mem hq
    obtain ⟨q2, g1, g2, -⟩ := hcs i hi'
    have : q2 = q := by rw [List.getElem?_eq_getElem hi', hq2] at g1; exact (Option.some.inj g1).symm
    subst this
    rw [← e9] at g2
    omega
  · have h2 : ¬ x.toInt < lo := fun h => h1 (Or.inl h)
    have h3 : ¬ hi < x.toInt := fun h => h1 (Or.inr h)
    obtain ⟨q, g1, g2, g3⟩ := hcs (x.toInt - lo).toNat (by omega)
    have e9 : x = q.1 := Int32.toInt_inj.mp (by omega)
    exact lv_tableIn (tgt := q.2) hF.1 hF.2.1 hd h2 h3 g3 (by omega) (kc q (List.mem_of_getElem? g1) e9 p l e R s m args below meth c base D Z M0 ad0 mc ms ad H locs cells slots d ls _ hF hN hst1)
end VMO
