/-! ===== masks of shapes, bit by bit ===== -/
section MR5
theorem bit0 (y : BitVec 32) : (y &&& 1#32 = 0#32) ↔ y.getLsbD 0 = false := by
  constructor
  · intro h
    have := congrArg (fun z => BitVec.getLsbD z 0) h
    simpa using this
  · intro h
    apply BitVec.eq_of_getLsbD_eq
    intro i hi
    by_cases e : i = 0
    · subst e; rw [BitVec.getLsbD_and, h]; simp
    · simp [e]
theorem hbit (x : Int32) {m : Nat} (hm : m < 6) : ((x >>> (nI m &&& nI 31)) &&& nI 1) = nI 0 ↔ x.toBitVec.getLsbD m = false := by
  have key : ∀ k : Nat, k < 6 → (nI k &&& nI 31).toBitVec.smod 32 = BitVec.ofNat 32 k := by decide
  rw [← Int32.toBitVec_inj, Int32.toBitVec_and, Int32.toBitVec_shiftRight, key m hm, BitVec.sshiftRight_eq']
  have e1 : (nI 1).toBitVec = 1#32 := by decide
  have e0 : (nI 0).toBitVec = 0#32 := by decide
  rw [e1, e0, bit0, BitVec.getLsbD_sshiftRight]
  have e2 : (BitVec.ofNat 32 m).toNat = m := by rw [BitVec.toNat_ofNat]; omega
  rw [e2]
  simp; omega
theorem hbit_or (x : Int32) {n m : Nat} (hn : n < 6) (hm : m < 6) : (x ||| (nI 1 <<< (nI n &&& nI 31))).toBitVec.getLsbD m = (x.toBitVec.getLsbD m || decide (m = n)) := by
  have key : ∀ k : Nat, k < 6 → ∀ j, j < 6 → (nI 1 <<< (nI k &&& nI 31)).toBitVec.getLsbD j = decide (j = k) := by decide
  rw [Int32.toBitVec_or, BitVec.getLsbD_or, key n hn m hm]
theorem hM_bit (M : Mem) (s : Nat) {m : Nat} (hm : m < 6) : hM M s m ↔ (mI M 14 s).toBitVec.getLsbD m = true := by
  unfold hM
  rw [hbit _ hm]
  cases (mI M 14 s).toBitVec.getLsbD m <;> simp
end MR5
