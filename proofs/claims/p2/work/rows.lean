section
/-! ===== evidence, no proof of this row: why it can't be proved as printed (the same for whole and p3 .. p46). The reference's rounded calls Math.rint; at a NaN a draw is made of a stream that the frame does not name ===== -/
section EVR
abbrev ev_sgn : Choice := .named "Math.copySign of a NaN"
abbrev ev_two : List Choice := [Jvm.Choice.named "NaN.bits", Jvm.Choice.named "NaN.copy"]
/-- the tables of this claim: the reference's Math.rint, what Math.rint's bytecode would call, the code of StrictMath.rint, its call of Math.copySign -/
theorem ev_w1 : Cond.methodLink "TracewheelModel" 375 ⟨"java/lang/Math", "rint", "(D)D"⟩ ∈ tables_1_9 := List.mem_of_getElem? (i := 210) (by decide +kernel)
theorem ev_w2 : Cond.code ⟨"java/lang/StrictMath", "rint", "(D)D"⟩ prog_30_method_19_code 6 (some .double) ∈ tables_1_9 := List.mem_of_getElem? (i := 215) (by decide +kernel)
theorem ev_w3 : Cond.methodLink "java/lang/StrictMath" 95 ⟨"java/lang/Math", "copySign", "(DD)D"⟩ ∈ tables_1_9 := List.mem_of_getElem? (i := 217) (by decide +kernel)
theorem ev_w0 : Cond.code ⟨"TracewheelModel", "rounded", "(D)D"⟩ prog_14_method_50_code 2 (some .double) ∈ tables_1_9 := List.mem_of_getElem? (i := 209) (by decide +kernel)
theorem ev_d1 : decode prog_14_method_50_code 1 = .ok (.invokestatic 375, 3) := by decide +kernel
/-- ahead of this call StrictMath.rint has no branch: ldc2_w, dstore_2, dconst_1, dload_0, invokestatic copySign -/
theorem ev_d0 : decode prog_30_method_19_code 0 = .ok (.ldc2_w 93, 3) := by decide +kernel
theorem ev_d6 : decode prog_30_method_19_code 6 = .ok (.invokestatic 95, 3) := by decide +kernel
/-- Math is one of the classes whose methods are run by an entry where the table has one -/
theorem ev_in : overriddenIn.contains "java/lang/Math" = true := by decide
set_option maxRecDepth 100000 in
/-- Math.rint's entry: it calls StrictMath.rint -/
theorem ev_row_rint (p : Program) : NativeRow.find? p.tables.natives "java/lang/Math" "rint" "(D)D" = some (Native.java_lang_Math.nans.byStrictMath "rint" "nat.java_lang_Math.rint") := by
  cases p <;> rfl
/-- copySign has an entry, which at a NaN as its second argument begins with a choice by the stream ev_sgn -/
theorem ev_sign (p : Program) (a b : UInt64) (hb : FP.dIsNaN b = true) : ∃ row, NativeRow.find? p.tables.natives "java/lang/Math" "copySign" "(DD)D" = some row ∧ ∃ k, row.sem #[.double a, .double b] = .choose ev_sgn k := by
  refine ⟨Native.java_lang_Math.nans.rowCopySign64, mathCopySign64_row p, ?_⟩
  have h : Native.java_lang_Math.nans.rowCopySign64.sem #[.double a, .double b] = (do
      let negative ← Native.java_lang_Math.nans.signOf (FP.dIsNaN b) (b >>> 63 == 1)
      Jvm.mark "nat.java_lang_Math.copySign"
      Pure.pure (some (Value.double ((a &&& 0x7fffffffffffffff) ||| (if negative then 0x8000000000000000 else 0))))) := rfl
  rw [h, hb]
  exact ⟨_, rfl⟩
/-- the model lets a contract name that stream; the frame of this one doesn't -/
theorem ev_could : Choice.nameable ev_sgn = true := rfl
theorem ev_not : ev_sgn ∉ ev_two := by decide
/-- a draw moves the stream's count, -/
theorem ev_next (d : Drawn) : d.count ev_sgn < (d.next ev_sgn).count ev_sgn := by
  simp [Drawn.next, Drawn.count]
/-- and where it has moved, neither half of the claim can hold of the end, whatever the answer is -/
theorem ev_no_1 {tb : Tables} {e : Env} {a : Array Value} {s t : State} {o : Outcome} (h : s.drawn.count ev_sgn < t.drawn.count ev_sgn) : ¬ Post_1_1 tb e a s o t := fun hp =>
  absurd ((hp.2.2.1 ev_sgn).2 ev_not) (by omega)
theorem ev_no_2 {tb : Tables} {e : Env} {a : Array Value} {s t : State} {o : Outcome} (h : s.drawn.count ev_sgn < t.drawn.count ev_sgn) : ¬ Post_1_2 tb e a s o t := fun hp =>
  absurd ((hp.2.2.1 ev_sgn).2 ev_not) (by omega)
end EVR
end
