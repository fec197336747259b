/-! ===== what stands outside the named cells; V, VT, CT ===== -/
section VMV
def xMsg : List (String × Nat × String) := [("Tracewheel", 50, "a function has 0 to 3 parameters"), ("Tracewheel", 61, "there are 8 functions"), ("Tracewheel", 146, "there is no such function"), ("Tracewheel", 79, "there is no such letter"), ("Tracewheel", 85, "the operand is not one for the letter"), ("Tracewheel", 91, "there are 40 instructions"), ("Tracewheel", 405, "the index is out of range"), ("Tracewheel", 109, "there is no such parent"), ("Tracewheel", 115, "there are 5 classes"), ("Tracewheel", 122, "there are 60 shapes"), ("Tracewheel", 134, "there is no such class"), ("Tracewheel", 139, "there is no such name"), ("Tracewheel", 152, "a method has one parameter"), ("Tracewheel", 177, "there is no such cell"), ("Tracewheel", 182, "a limit is out of range"), ("Tracewheel", 197, "the function has no parameters"), ("Tracewheel", 407, "the last run has not ended so"), ("Tracewheel", 409, "there is no such value"), ("Tracewheel", 411, "there is no such object"), ("Tracewheel", 285, "the object has no such field"), ("Tracewheel", 413, "there is no such shape"), ("Tracewheel", 297, "the shape has no such field"), ("Tracewheel", 305, "no such shape has come to be"), ("Tracewheel", 423, "there is no cache at the index"), ("Tracewheel", 425, "no such trace has come to be"), ("Tracewheel", 348, "the trace has no such step"), ("Tracewheel", 431, "the trace has no such guard"), ("Tracewheel", 372, "the guard has no side trace"), ("Tracewheel", 388, "no instruction was executed"), ("Tracewheel", 394, "no trace is there")]
def xSTab : List (String × Nat × String × List Int32) := [("Tracewheel", 72, "iklsud+-*/%<w=jzngpcmrt", [105, 107, 108, 115, 117, 100, 43, 45, 42, 47, 37, 60, 119, 61, 106, 122, 110, 103, 112, 99, 109, 114, 116]), ("Tracewheel$Machine", 173, "+-*/%<=", [43, 45, 42, 47, 37, 60, 61]), ("Tracewheel$Machine", 187, "+-*/%<", [43, 45, 42, 47, 37, 60]), ("Tracewheel$Recorder", 120, "+-*/%<=", [43, 45, 42, 47, 37, 60, 61]), ("Tracewheel$Recorder", 135, "+-*/", [43, 45, 42, 47]), ("Tracewheel$Recorder", 167, "ikngw+-*/%<=", [105, 107, 110, 103, 119, 43, 45, 42, 47, 37, 60, 61]), ("Tracewheel", 418, "gpm", [103, 112, 109])]

def xS1 (base : Nat) (U : State) (H : Heap) (q : String × Nat × String × List Int32) : Prop := ∃ a v : Nat, vk_R q.1 q.2.1 q.2.2.1 a U ∧ va_O "java/lang/String" a (xA base) U H ∧ va_OF "java/lang/String" "coder" "B" (.int 0) a (xA base) U H ∧ va_OF "java/lang/String" "value" "[B" (.ref v) a (xA base) U H ∧ va_T .byte v q.2.2.2.length (fun j => .int (q.2.2.2.getD j 0)) (xA base) U H
def xEv (base : Nat) (U : State) (H : Heap) : Prop :=
  vx_Zq Bundle.tN "UNASSIGNED_STACK" Bundle.steD (xA base) U H ∧ vx_Zq Bundle.tN "SUPPRESSED_SENTINEL" Bundle.listD (xA base) U H ∧ (∀ q ∈ xMsg, ∃ sa : Nat, vk_R q.1 q.2.1 q.2.2 sa U) ∧ va_Z "java/lang/String" "COMPACT_STRINGS" "Z" (.int 1) (xA base) U H ∧ ∀ q ∈ xSTab, xS1 base U H q
def xW (D : xG) (base : Nat) (ad : Nat → Nat) (M : Mem) (U : State) : Prop := base ≤ U.heap.size ∧ xRep D ad base M U.heap ∧ xKn D U ∧ xEv base U U.heap
/-- a method: own class, name, code, locals, what it returns, its depth, its locals' room, its exception table -/
abbrev MI : Type := String × MethodName × ByteArray × Nat × Option FieldType × Nat × Nat × List (Nat × Nat × Nat × Nat)
abbrev kOwn (k : MI) : String := k.1
abbrev kY (k : MI) : MethodName := k.2.1
abbrev kCC (k : MI) : ByteArray := k.2.2.1
abbrev kNL (k : MI) : Nat := k.2.2.2.1
abbrev kRet (k : MI) : Option FieldType := k.2.2.2.2.1
abbrev kDep (k : MI) : Nat := k.2.2.2.2.2.1
abbrev kLoc (k : MI) : Nat := k.2.2.2.2.2.2.1
abbrev kHH (k : MI) : List (Nat × Nat × Nat × Nat) := k.2.2.2.2.2.2.2
def kHd (k : MI) : Cond := if kHH k = [] then .code (kY k) (kCC k) (kNL k) (kRet k) else .codeWith (kY k) (kCC k) (kNL k) (kRet k) (kHH k)
def xws (k : MI) : List Cond := kHd k :: xTs
abbrev xQ : Type := Option Value → Mem → Prop
abbrev xX : Type := String → Mem → Prop
def xFr (base : Nat) (H0 H : Heap) : Prop := H0.size ≤ H.size ∧ ∀ q : Nat, q < H0.size → ¬ xA base q → H[q]? = H0[q]?
def xEnd (s : State) (args : Array Value) (below : List Frame) (base : Nat) (D : xG) (Z : State → Prop) (M0 : Mem) (ad0 : Nat → Nat) (mc ms : Nat) (Q : xQ) (X : xX) : Prop :=
  (∀ (r rv : Option Value) (M' : Mem) (ad' : Nat → Nat) (H : Heap) (d : Drawn), Q r M' → xExt M0 ad0 M' ad' → xRep D ad' base M' H → s.drawn.sameBut d lw_cs → xRo ad' M' r rv → xFr base s.heap H →
    ∀ t : State, MQ below (fun _ st o t => o = .returned rv ∧ t.heap = H ∧ st.WarmedH t.vm) args (s.setDrawn d) mc ms (xA base) t → Z t) ∧
  (∀ (E : String) (M' : Mem) (ad' : Nat → Nat) (H : Heap) (d : Drawn), X E M' → xExt M0 ad0 M' ad' → xRep D ad' base M' H → s.drawn.sameBut d lw_cs → xFr base s.heap H →
    ∀ t : State, vx_MQ below (fun _ _ _ _ => False) (fun E' st t => E' = E ∧ st.vm.Alike t.vm ∧ H.size ≤ t.heap.size ∧ ∀ q : Nat, q < H.size → t.heap[q]? = H[q]?) args (s.setDrawn d) mc ms (xA base) t → Z t)
def xFix (k : MI) (p : Program) (l : Launch) (R : Room) (s : State) (m : MethodId) (args : Array Value) (below : List Frame) (meth : Method) (c : Code) (base : Nat) (D : xG) (Z : State → Prop) (M0 : Mem) (ad0 : Nat → Nat) (mc ms : Nat) (Q : xQ) (X : xX) : Prop :=
  p.tables.exec = Jvm.exec ∧ c.code = kCC k ∧ c.maxLocals = kNL k ∧ meth.locks = false ∧ meth.sig.returnType = kRet k ∧ meth.name = (kY k).name ∧ c.exceptionTable.toList = tableOf (kHH k) ∧ s.vm.findClass (kOwn k) = some m.cls ∧ (∀ w ∈ xTs, w.before args s = true) ∧
  l.flags = flags0 ∧ xKn D s ∧ xEv base s s.heap ∧ base ≤ s.heap.size ∧ kDep k ≤ R.frames ∧ kLoc k ≤ R.locals ∧ mc ≤ R.cells ∧ ms ≤ R.slots ∧ xEnd s args below base D Z M0 ad0 mc ms Q X
def xNow (k : MI) (s : State) (base : Nat) (D : xG) (M0 : Mem) (ad0 : Nat → Nat) (M : Mem) (ad : Nat → Nat) (H : Heap) (locs : List Loc) (cells slots mc ms nc ns : Nat) (d : Drawn) (lv : List (Nat × Value)) (ls : Array Slot) : Prop :=
  xRep D ad base M H ∧ va_S (xA base) s.heap H locs ∧ s.drawn.sameBut d lw_cs ∧ cells + nc ≤ mc ∧ slots + ns ≤ ms ∧ xExt M0 ad0 M ad ∧ ∃ lvr : List (Nat × Value), lv_has ls (kNL k) lvr ∧ xRl ad M lv lvr
/-- from this place of method k, with these locals, this stack and this memory, the method comes to its end: it returns with Q or throws with X; nc, ns: the room that is left -/
def V (k : MI) (pc : Nat) (lv : List (Nat × Value)) (st : List Value) (nc ns : Nat) (M : Mem) (Q : xQ) (X : xX) : Prop :=
  ∀ (p : Program) (l : Launch) (e : Env) (R : Room) (s : State) (m : MethodId) (args : Array Value) (below : List Frame) (meth : Method) (c : Code) (base : Nat) (D : xG) (Z : State → Prop) (M0 : Mem) (ad0 : Nat → Nat) (mc ms : Nat)
    (ad : Nat → Nat) (H : Heap) (locs : List Loc) (cells slots : Nat) (d : Drawn) (ls : Array Slot) (rst : List Value),
    xFix k p l R s m args below meth c base D Z M0 ad0 mc ms Q X → xNow k s base D M0 ad0 M ad H locs cells slots mc ms nc ns d lv ls → xRvs ad M st rst →
    W p l e R (s.setDrawn d) m args below meth c H locs cells slots Z (F0 m pc ls rst)
/-- the same, with an exception of class E on its way -/
def VT (k : MI) (pc : Nat) (lv : List (Nat × Value)) (E : String) (nc ns : Nat) (M : Mem) (Q : xQ) (X : xX) : Prop :=
  ∀ (p : Program) (l : Launch) (e : Env) (R : Room) (s : State) (m : MethodId) (args : Array Value) (below : List Frame) (meth : Method) (c : Code) (base : Nat) (D : xG) (Z : State → Prop) (M0 : Mem) (ad0 : Nat → Nat) (mc ms : Nat)
    (ad : Nat → Nat) (H : Heap) (locs : List Loc) (cells slots : Nat) (d : Drawn) (ls : Array Slot) (rst : List Value) (q : Addr) (ce : Cell),
    xFix k p l R s m args below meth c base D Z M0 ad0 mc ms Q X → xNow k s base D M0 ad0 M ad H locs cells slots mc ms nc ns d lv ls → H[q]? = some ce → ce.vm = .none → s.vm.findClass E = some ce.cls →
    vx_W p l e R (s.setDrawn d) m args below meth c H locs cells slots Z (F0 m pc ls rst) q
/-- the contract of method k, at this memory: it returns with Q or throws with X, and makes at most nc cells of ns slots -/
def CT (k : MI) (nc ns : Nat) (avs : List Value) (M : Mem) (Q : xQ) (X : xX) : Prop :=
  ∀ (l : Launch) (base : Nat) (D : xG) (ad : Nat → Nat) (ravs : List Value), l.flags = flags0 → xRvs ad M avs ravs →
    xd_Met l (kY k) (xws k) { frames := kDep k, cells := nc, slots := ns, locals := kLoc k } (fun a U => a = ravs.toArray ∧ xW D base ad M U)
      (fun _ st o t => ∃ (r rv : Option Value) (M' : Mem) (ad' : Nat → Nat), o = .returned rv ∧ xRo ad' M' r rv ∧ Q r M' ∧ xExt M ad M' ad' ∧ xW D base ad' M' t ∧ va_F (xA base) st t)
      (fun E st t => ∃ (M' : Mem) (ad' : Nat → Nat), X E M' ∧ xExt M ad M' ad' ∧ xW D base ad' M' t ∧ va_F (xA base) st t) nc ns (xA base)
end VMV
