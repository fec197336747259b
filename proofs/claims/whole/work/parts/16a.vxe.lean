/-! ===== Arrays.copyOf ===== -/
section VXE
theorem v_J7_copyOf_59c91 {r0 : Nat} {x1 : Int32} {M z} (hP : Fsh M) (h : d_J7_copyOf_59c91 r0 x1 M = some z) : CC (Kx (nx M) M) k_J7_copyOf_59c91 [.ref r0, .int x1] M z.2 (Qv (some (.ref z.1)) z.2) xF := by
  sorry
end VXE
