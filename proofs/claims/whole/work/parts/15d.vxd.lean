/-! ===== members of the JDK: indexOf, rint, copyOf; arrays of traces ===== -/
section VXD
variable {k k' : MI} {pc : Nat} {lv lv1 : List (Nat × Value)} {st : List Value} {nc ns : Nat} {M z : Mem} {Q : xQ} {X : xX} {P : Mem → Prop}
def xIdxF (x : Int32) : List Int32 → Nat → Int32
  | [], _ => -1
  | b :: t, k => if b = x then Int32.ofNat k else xIdxF x t (k + 1)
/-- String.indexOf(char) of the i-th string constant -/
def xIdx (i : Nat) (x : Int32) : Int32 := xIdxF x (sB i) 0
theorem Y_indexOf {index i : Nat} {x : Int32} (hd : decode (kCC k) pc = .ok (.invokevirtual index, 3)) (hl : Cond.methodLink (kOwn k) index ⟨"java/lang/String", "indexOf", "(I)I"⟩ ∈ xTs) (hi : i < 7) (hdep : 10 ≤ kDep k) (hloc : 400 ≤ kLoc k) (hcat : (st.map fun v => v.category).sum ≤ 8)
    (kk : VV P k (pc + 3) lv (.int (xIdx i x) :: st) M z Q X) : VV P k pc lv (.int x :: .retAddr i :: st) M z Q X := by
  sorry
/-- Math.rint -/
def xrint (x : UInt64) : UInt64 := if isNaN64 x then 0x7ff8000000000000 else
  FP.dmul ((x.toInt64 &&& (-9223372036854775808)) ||| 4607182418800017408).toUInt64
    (if FP.cmpInt 1 (FP.dcmp (x.toInt64 &&& 9223372036854775807).toUInt64 4841369599423283200) < 0 then FP.dsub (FP.dadd 4841369599423283200 (x.toInt64 &&& 9223372036854775807).toUInt64) 4841369599423283200 else (x.toInt64 &&& 9223372036854775807).toUInt64)
theorem Y_rint {index : Nat} {x : UInt64} (hd : decode (kCC k) pc = .ok (.invokestatic index, 3)) (hl : Cond.methodLink (kOwn k) index ⟨"java/lang/Math", "rint", "(D)D"⟩ ∈ xTs) (hdep : 8 ≤ kDep k) (hloc : 300 ≤ kLoc k) (hcat : (st.map fun v => v.category).sum ≤ 8)
    (kk : VV P k (pc + 3) lv (.double (xrint x) :: st) M z Q X) : VV P k pc lv (.double x :: st) M z Q X := by
  sorry
/-- the memory behind Arrays.copyOf: n ints of a in the new cell b -/
def sC (M : Mem) (a b n : Nat) : Mem := ((fun c j => if c = b then (if j < n then M.1 a j else 0) else M.1 c j), (sN M b 21 n).2)
noncomputable def d_J7_copyOf_59c91 (r0 : Nat) (x1 : Int32) (M : Mem) : Option (Nat × Mem) :=
  okk (mK M r0 = 21) <| okk (0 ≤ x1 ∧ x1 ≤ 100000) <| okk (x1.toNatClampNeg ≤ mN M r0) <| okk (nx M < 2147483648) <| some (nx M, sC M r0 (nx M) x1.toNatClampNeg)
end VXD
