/-! ===== what the methods reckon (printed by a program) ===== -/
section VCD
noncomputable def d_X12_nextShape (x1 : Int32) (x2 : Int32) (M : Mem) : Option (Int32 × Mem) :=
  bnd (sI M 69 0 (0 : Int32)) fun M1 =>
  (d_X12_in x1 (0 : Int32) ((mI M1 69 12) - (1 : Int32)) M1).bind fun y1 =>
  if y1.1 = 0 then (
    (d_X12_fails (1 : Int32) y1.2).bind fun y5 =>
    some (y5.1, y5.2))
  else (
    (d_X12_in x2 (0 : Int32) (5 : Int32) y1.2).bind fun y2 =>
    if y2.1 = 0 then (
      (d_X12_fails (2 : Int32) y2.2).bind fun y3 =>
      some (y3.1, y3.2))
    else (
      okk (vp_in (((6 : Int32) * x1) + x2) 360) <|
      if (mI y2.2 82 (((6 : Int32) * x1) + x2).toNatClampNeg) = (-1 : Int32) then (
        (d_X12_fails (2 : Int32) y2.2).bind fun y4 =>
        some (y4.1, y4.2))
      else (
        okk (vp_in (((6 : Int32) * x1) + x2) 360) <|
        some ((mI y2.2 82 (((6 : Int32) * x1) + x2).toNatClampNeg), y2.2))))
noncomputable def d_X12_cache_77 (x1 : Int32) (x2 : Int32) (s1 : Int32) (M : Mem) : Option (Int32 × Mem) :=
  bnd (sI M 69 0 s1) fun M1 =>
  if (mI M1 69 0) ≤ 0 then (
    some ((((40 : Int32) * x1) + x2), M1))
  else (
    some ((-1 : Int32), M1))
noncomputable def d_X12_cache_72 (x1 : Int32) (x2 : Int32) (M : Mem) : Option (Int32 × Mem) :=
  d_X12_cache_77 x1 x2 (0 : Int32) M
noncomputable def d_X12_cache_52 (x1 : Int32) (x2 : Int32) (s0 : Int32) (M : Mem) : Option (Int32 × Mem) :=
  if s0 = (103 : Int32) then (
    d_X12_cache_72 x1 x2 M)
  else (
    if s0 = (112 : Int32) then (
      d_X12_cache_72 x1 x2 M)
    else (
      if s0 = (109 : Int32) then (
        d_X12_cache_72 x1 x2 M)
      else (
        d_X12_cache_77 x1 x2 (2 : Int32) M)))
noncomputable def d_X12_cache (x1 : Int32) (x2 : Int32) (M : Mem) : Option (Int32 × Mem) :=
  bnd (sI M 69 0 (0 : Int32)) fun M1 =>
  (d_X12_isFunction x1 M1).bind fun y1 =>
  if y1.1 = 0 then (
    bnd (sI y1.2 69 0 (1 : Int32)) fun M2 =>
    some ((-1 : Int32), M2))
  else (
    okk (vp_in x1 8) <|
    (d_X12_in x2 (0 : Int32) ((mI y1.2 71 x1.toNatClampNeg) - (1 : Int32)) y1.2).bind fun y2 =>
    if y2.1 = 0 then (
      d_X12_cache_52 x1 x2 (32 : Int32) y2.2)
    else (
      okk (vp_in (((40 : Int32) * x1) + x2) 320) <|
      d_X12_cache_52 x1 x2 (mI y2.2 72 (((40 : Int32) * x1) + x2).toNatClampNeg) y2.2))
noncomputable def d_X12_cacheState (x1 : Int32) (x2 : Int32) (M : Mem) : Option (Int32 × Mem) :=
  (d_X12_cache x1 x2 M).bind fun y1 =>
  if y1.1 = (-1 : Int32) then (
    some ((0 : Int32), y1.2))
  else (
    okk (vp_in y1.1 320) <|
    if (mI y1.2 83 y1.1.toNatClampNeg) = (-1 : Int32) then (
      some ((120 : Int32), y1.2))
    else (
      okk (vp_in y1.1 320) <|
      if (mI y1.2 83 y1.1.toNatClampNeg) = 0 then (
        some ((101 : Int32), y1.2))
      else (
        okk (vp_in y1.1 320) <|
        okk (isCh ((((48 : Int32) + (mI y1.2 83 y1.1.toNatClampNeg)).toUInt32 % 65536).toInt32)) <|
        some (((((48 : Int32) + (mI y1.2 83 y1.1.toNatClampNeg)).toUInt32 % 65536).toInt32), y1.2))))
noncomputable def d_X12_hits (x1 : Int32) (x2 : Int32) (M : Mem) : Option (Int32 × Mem) :=
  (d_X12_cache x1 x2 M).bind fun y1 =>
  if y1.1 = (-1 : Int32) then (
    some ((0 : Int32), y1.2))
  else (
    okk (vp_in y1.1 320) <|
    some ((mI y1.2 85 y1.1.toNatClampNeg), y1.2))
noncomputable def d_X12_misses (x1 : Int32) (x2 : Int32) (M : Mem) : Option (Int32 × Mem) :=
  (d_X12_cache x1 x2 M).bind fun y1 =>
  if y1.1 = (-1 : Int32) then (
    some ((0 : Int32), y1.2))
  else (
    okk (vp_in y1.1 320) <|
    some ((mI y1.2 86 y1.1.toNatClampNeg), y1.2))
noncomputable def d_X12_isHead_28 (s1 : Int32) (M : Mem) : Option (Int32 × Mem) :=
  bnd (sI M 69 0 s1) fun M1 =>
  if (mI M1 69 0) = 0 then (
    some ((1 : Int32), M1))
  else (
    some ((0 : Int32), M1))
noncomputable def d_X12_isHead (x1 : Int32) (x2 : Int32) (M : Mem) : Option (Int32 × Mem) :=
  (d_X12_isFunction x1 M).bind fun y1 =>
  if y1.1 = 0 then (
    d_X12_isHead_28 (1 : Int32) y1.2)
  else (
    (d_X12_in x2 (0 : Int32) (39 : Int32) y1.2).bind fun y2 =>
    if y2.1 = 0 then (
      d_X12_isHead_28 (2 : Int32) y2.2)
    else (
      d_X12_isHead_28 (0 : Int32) y2.2))
noncomputable def d_X12_counter (x1 : Int32) (x2 : Int32) (M : Mem) : Option (Int32 × Mem) :=
  (d_X12_isHead x1 x2 M).bind fun y1 =>
  if y1.1 = 0 then (
    some ((0 : Int32), y1.2))
  else (
    okk (vp_in (((40 : Int32) * x1) + x2) 320) <|
    some ((mI y1.2 87 (((40 : Int32) * x1) + x2).toNatClampNeg), y1.2))
noncomputable def d_X12_isBarred (x1 : Int32) (x2 : Int32) (M : Mem) : Option (Int32 × Mem) :=
  (d_X12_isHead x1 x2 M).bind fun y1 =>
  if y1.1 = 0 then (
    some ((0 : Int32), y1.2))
  else (
    okk (vp_in (((40 : Int32) * x1) + x2) 320) <|
    if (mI y1.2 88 (((40 : Int32) * x1) + x2).toNatClampNeg) < (2 : Int32) then (
      some ((0 : Int32), y1.2))
    else (
      some ((1 : Int32), y1.2)))
noncomputable def d_X12_traces (M : Mem) : Option (Int32 × Mem) :=
  bnd (sI M 69 0 (0 : Int32)) fun M1 =>
  some ((mI M1 69 26), M1)
noncomputable def d_X12_isTrace_20 (s1 : Int32) (M : Mem) : Option (Int32 × Mem) :=
  bnd (sI M 69 0 s1) fun M1 =>
  if (mI M1 69 0) = 0 then (
    some ((1 : Int32), M1))
  else (
    some ((0 : Int32), M1))
noncomputable def d_X12_isTrace (x1 : Int32) (M : Mem) : Option (Int32 × Mem) :=
  (d_X12_in x1 (0 : Int32) ((mI M 69 26) - (1 : Int32)) M).bind fun y1 =>
  if y1.1 = 0 then (
    d_X12_isTrace_20 (1 : Int32) y1.2)
  else (
    d_X12_isTrace_20 (0 : Int32) y1.2)
noncomputable def d_X12_isGuard_36 (s1 : Int32) (M : Mem) : Option (Int32 × Mem) :=
  bnd (sI M 69 0 s1) fun M1 =>
  if (mI M1 69 0) = 0 then (
    some ((1 : Int32), M1))
  else (
    some ((0 : Int32), M1))
noncomputable def d_X12_isGuard_35 (M : Mem) : Option (Int32 × Mem) :=
  d_X12_isGuard_36 (1 : Int32) M
noncomputable def d_X12_isGuard (x1 : Int32) (x2 : Int32) (M : Mem) : Option (Int32 × Mem) :=
  (d_X12_in x1 (0 : Int32) ((mI M 69 26) - (1 : Int32)) M).bind fun y1 =>
  if y1.1 = 0 then (
    d_X12_isGuard_35 y1.2)
  else (
    okk (vp_in x1 20) <|
    (d_X12_in x2 (0 : Int32) ((mI y1.2 92 x1.toNatClampNeg) - (1 : Int32)) y1.2).bind fun y2 =>
    if y2.1 = 0 then (
      d_X12_isGuard_35 y2.2)
    else (
      d_X12_isGuard_36 (0 : Int32) y2.2))
noncomputable def d_X12_isThere (x1 : Int32) (M : Mem) : Option (Int32 × Mem) :=
  (d_X12_isTrace x1 M).bind fun y1 =>
  if y1.1 = 0 then (
    some ((0 : Int32), y1.2))
  else (
    okk (vp_in x1 20) <|
    if (mI y1.2 89 x1.toNatClampNeg) = 0 then (
      some ((0 : Int32), y1.2))
    else (
      some ((1 : Int32), y1.2)))
noncomputable def d_X12_steps (x1 : Int32) (M : Mem) : Option (Int32 × Mem) :=
  (d_X12_isTrace x1 M).bind fun y1 =>
  if y1.1 = 0 then (
    some ((0 : Int32), y1.2))
  else (
    okk (vp_in x1 20) <|
    some ((mI y1.2 90 x1.toNatClampNeg), y1.2))
noncomputable def d_X12_lineAt (x1 : Int32) (x2 : Int32) (M : Mem) : Option (Int32 × Mem) :=
  (d_X12_isTrace x1 M).bind fun y1 =>
  if y1.1 = 0 then (
    some ((0 : Int32), y1.2))
  else (
    okk (vp_in x1 20) <|
    (d_X12_in x2 (0 : Int32) ((mI y1.2 90 x1.toNatClampNeg) - (1 : Int32)) y1.2).bind fun y2 =>
    if y2.1 = 0 then (
      (d_X12_fails (2 : Int32) y2.2).bind fun y3 =>
      some (y3.1, y3.2))
    else (
      okk (vp_in (((30 : Int32) * x1) + x2) 600) <|
      some ((mI y2.2 91 (((30 : Int32) * x1) + x2).toNatClampNeg), y2.2)))
noncomputable def d_X12_guards_ (x1 : Int32) (M : Mem) : Option (Int32 × Mem) :=
  (d_X12_isTrace x1 M).bind fun y1 =>
  if y1.1 = 0 then (
    some ((0 : Int32), y1.2))
  else (
    okk (vp_in x1 20) <|
    some ((mI y1.2 92 x1.toNatClampNeg), y1.2))
noncomputable def d_X12_guardAt (x1 : Int32) (x2 : Int32) (M : Mem) : Option (Int32 × Mem) :=
  (d_X12_isGuard x1 x2 M).bind fun y1 =>
  if y1.1 = 0 then (
    some ((0 : Int32), y1.2))
  else (
    okk (vp_in (((120 : Int32) * x1) + x2) 2400) <|
    okk (isCh (mI y1.2 97 (((120 : Int32) * x1) + x2).toNatClampNeg)) <|
    some ((mI y1.2 97 (((120 : Int32) * x1) + x2).toNatClampNeg), y1.2))
noncomputable def d_X12_guardStep (x1 : Int32) (x2 : Int32) (M : Mem) : Option (Int32 × Mem) :=
  (d_X12_isGuard x1 x2 M).bind fun y1 =>
  if y1.1 = 0 then (
    some ((0 : Int32), y1.2))
  else (
    okk (vp_in (((120 : Int32) * x1) + x2) 2400) <|
    some ((mI y1.2 98 (((120 : Int32) * x1) + x2).toNatClampNeg), y1.2))
noncomputable def d_X12_exits (x1 : Int32) (x2 : Int32) (M : Mem) : Option (Int32 × Mem) :=
  (d_X12_isGuard x1 x2 M).bind fun y1 =>
  if y1.1 = 0 then (
    some ((0 : Int32), y1.2))
  else (
    okk (vp_in (((120 : Int32) * x1) + x2) 2400) <|
    some ((mI y1.2 101 (((120 : Int32) * x1) + x2).toNatClampNeg), y1.2))
noncomputable def d_X12_sideOf (x1 : Int32) (x2 : Int32) (M : Mem) : Option (Int32 × Mem) :=
  (d_X12_isGuard x1 x2 M).bind fun y1 =>
  if y1.1 = 0 then (
    some ((0 : Int32), y1.2))
  else (
    okk (vp_in (((120 : Int32) * x1) + x2) 2400) <|
    bnd ((mI y1.2 104 (((120 : Int32) * x1) + x2).toNatClampNeg)) fun b1 =>
    if b1 = (-1 : Int32) then (
      (d_X12_fails (2 : Int32) y1.2).bind fun y2 =>
      some (y2.1, y2.2))
    else (
      some (b1, y1.2)))
noncomputable def d_X12_rootOf (x1 : Int32) (M : Mem) : Option (Int32 × Mem) :=
  (d_X12_isTrace x1 M).bind fun y1 =>
  if y1.1 = 0 then (
    some ((0 : Int32), y1.2))
  else (
    okk (vp_in x1 20) <|
    some ((mI y1.2 93 x1.toNatClampNeg), y1.2))
noncomputable def d_X12_begun (x1 : Int32) (M : Mem) : Option (Int32 × Mem) :=
  (d_X12_isTrace x1 M).bind fun y1 =>
  if y1.1 = 0 then (
    some ((0 : Int32), y1.2))
  else (
    okk (vp_in x1 20) <|
    some ((mI y1.2 95 x1.toNatClampNeg), y1.2))
noncomputable def d_X12_inTraces (M : Mem) : Option (Int32 × Mem) :=
  bnd (sI M 69 0 (0 : Int32)) fun M1 =>
  some ((mI M1 69 58), M1)
noncomputable def d_X12_codeSize (M : Mem) : Option (Int32 × Mem) :=
  bnd (sI M 69 0 (0 : Int32)) fun M1 =>
  (d_X12_size M1).bind fun y1 =>
  some (y1.1, y1.2)
noncomputable def d_X12_agrees (M : Mem) : Option (Int32 × Mem) :=
  bnd (sI M 69 0 (0 : Int32)) fun M1 =>
  some ((1 : Int32), M1)
noncomputable def d_X12_tracedShare_13 (s1 : Int32) (M : Mem) : Option (UInt32 × Mem) :=
  bnd (sI M 69 0 s1) fun M1 =>
  if (mI M1 69 0) ≤ 0 then (
    okk (vf_n32 (FP.fdiv (FP.i2f (mI M1 69 58)) (FP.i2f (mI M1 69 57)))) <|
    some ((FP.fdiv (FP.i2f (mI M1 69 58)) (FP.i2f (mI M1 69 57))), M1))
  else (
    some (FP.fconst0, M1))
noncomputable def d_X12_tracedShare (M : Mem) : Option (UInt32 × Mem) :=
  if (mI M 69 57) = 0 then (
    d_X12_tracedShare_13 (1 : Int32) M)
  else (
    d_X12_tracedShare_13 (0 : Int32) M)
noncomputable def d_X12_meanGuards_69 (x1 : Int32) (x2 : Int32) (s1 : Int32) (M : Mem) : Option (UInt64 × Mem) :=
  bnd (sI M 69 0 s1) fun M1 =>
  if (mI M1 69 0) ≤ 0 then (
    some ((FP.ddiv (FP.i2d x2) (FP.i2d x1)), M1))
  else (
    some (FP.dconst0, M1))
noncomputable def d_X12_meanGuards_51 (k6 : (Int32 × Int32 × Int32) → Mem → Option (UInt64 × Mem)) (x1 : Int32) (x3 : Int32) (s0 : Int32) (s1 : Int32) (M : Mem) : Option (UInt64 × Mem) :=
  bnd ((s0 + s1)) fun b1 =>
  bnd ((x3 + (1 : Int32))) fun b2 =>
  k6 (x1, b1, b2) M
noncomputable def d_X12_meanGuards_29 (k6 : (Int32 × Int32 × Int32) → Mem → Option (UInt64 × Mem)) (x2 : Int32) (x3 : Int32) (s0 : Int32) (s1 : Int32) (M : Mem) : Option (UInt64 × Mem) :=
  bnd ((s0 + s1)) fun b1 =>
  okk (vp_in x3 20) <|
  if (mI M 89 x3.toNatClampNeg) = 0 then (
    d_X12_meanGuards_51 k6 b1 x3 x2 (0 : Int32) M)
  else (
    okk (vp_in x3 20) <|
    d_X12_meanGuards_51 k6 b1 x3 x2 (mI M 92 x3.toNatClampNeg) M)
noncomputable def d_X12_meanGuards_6b (k6 : (Int32 × Int32 × Int32) → Mem → Option (UInt64 × Mem)) (x1 : Int32) (x2 : Int32) (x3 : Int32) (M : Mem) : Option (UInt64 × Mem) :=
  if (mI M 69 26) ≤ x3 then (
    if x1 = 0 then (
      d_X12_meanGuards_69 x1 x2 (1 : Int32) M)
    else (
      d_X12_meanGuards_69 x1 x2 (0 : Int32) M))
  else (
    okk (vp_in x3 20) <|
    if (mI M 89 x3.toNatClampNeg) = 0 then (
      d_X12_meanGuards_29 k6 x2 x3 x1 (0 : Int32) M)
    else (
      d_X12_meanGuards_29 k6 x2 x3 x1 (1 : Int32) M))
noncomputable def d_X12_meanGuards_6 : Nat → (Int32 × Int32 × Int32) → Mem → Option (UInt64 × Mem) := lp fun k a M => d_X12_meanGuards_6b k a.1 a.2.1 a.2.2 M
noncomputable def d_X12_meanGuards (M : Mem) : Option (UInt64 × Mem) :=
  d_X12_meanGuards_6 fuel ((0 : Int32), (0 : Int32), (0 : Int32)) M
noncomputable def d_X12_isSound (M : Mem) : Option (Int32 × Mem) :=
  bnd (sI M 69 0 (0 : Int32)) fun M1 =>
  (d_X12_size M1).bind fun y1 =>
  if (mI y1.2 69 25) < y1.1 then (
    some ((0 : Int32), y1.2))
  else (
    some ((1 : Int32), y1.2))
noncomputable def d_X0_init (r0 : Nat) (M : Mem) : Option (Unit × Mem) :=
  bnd (nx M) fun r_1 => okk (r_1 < 2147483648) <|
  bnd (sN M r_1 21 960) fun M1 =>
  okk (mK M1 r0 = 1) <|
  bnd (sR M1 r0 0 (some r_1)) fun M2 =>
  bnd (nx M2) fun r_2 => okk (r_2 < 2147483648) <|
  bnd (sN M2 r_2 21 320) fun M3 =>
  okk (mK M3 r0 = 1) <|
  bnd (sR M3 r0 1 (some r_2)) fun M4 =>
  bnd (nx M4) fun r_3 => okk (r_3 < 2147483648) <|
  bnd (sN M4 r_3 21 320) fun M5 =>
  okk (mK M5 r0 = 1) <|
  bnd (sR M5 r0 2 (some r_3)) fun M6 =>
  bnd (nx M6) fun r_4 => okk (r_4 < 2147483648) <|
  bnd (sN M6 r_4 21 320) fun M7 =>
  okk (mK M7 r0 = 1) <|
  bnd (sR M7 r0 3 (some r_4)) fun M8 =>
  some ((), M8)
noncomputable def d_X0_stateAt (x1 : Int32) (M : Mem) : Option (Int32 × Mem) :=
  okk (vp_in x1 320) <|
  if (mI M 41 x1.toNatClampNeg) = (-1 : Int32) then (
    some ((120 : Int32), M))
  else (
    okk (vp_in x1 320) <|
    if (mI M 41 x1.toNatClampNeg) = 0 then (
      some ((101 : Int32), M))
    else (
      okk (vp_in x1 320) <|
      okk (isCh ((((48 : Int32) + (mI M 41 x1.toNatClampNeg)).toUInt32 % 65536).toInt32)) <|
      some (((((48 : Int32) + (mI M 41 x1.toNatClampNeg)).toUInt32 % 65536).toInt32), M)))
noncomputable def d_X0_keeps_2b (k2 : (Int32) → Mem → Option (Int32 × Mem)) (x1 : Int32) (x2 : Int32) (x3 : Int32) (M : Mem) : Option (Int32 × Mem) :=
  okk (vp_in x1 320) <|
  if (mI M 41 x1.toNatClampNeg) ≤ x3 then (
    some ((0 : Int32), M))
  else (
    okk (vp_in ((x1 * (3 : Int32)) + x3) 960) <|
    if (mI M 40 ((x1 * (3 : Int32)) + x3).toNatClampNeg) = x2 then (
      some ((1 : Int32), M))
    else (
      bnd ((x3 + (1 : Int32))) fun b1 =>
      k2 (b1) M))
noncomputable def d_X0_keeps_2 (x1 : Int32) (x2 : Int32) : Nat → (Int32) → Mem → Option (Int32 × Mem) := lp fun k a M => d_X0_keeps_2b k x1 x2 a M
noncomputable def d_X0_keeps (x1 : Int32) (x2 : Int32) (M : Mem) : Option (Int32 × Mem) :=
  d_X0_keeps_2 x1 x2 fuel ((0 : Int32)) M
noncomputable def d_X0_meet (x1 : Int32) (x2 : Int32) (M : Mem) : Option (Unit × Mem) :=
  okk (vp_in x1 320) <|
  if (mI M 41 x1.toNatClampNeg) = (-1 : Int32) then (
    some ((), M))
  else (
    (d_X0_keeps x1 x2 M).bind fun y1 =>
    if y1.1 = 0 then (
      okk (vp_in x1 320) <|
      okk (vp_in x1 320) <|
      bnd (sI y1.2 43 x1.toNatClampNeg ((mI y1.2 43 x1.toNatClampNeg) + (1 : Int32))) fun M1 =>
      okk (vp_in x1 320) <|
      if (mI M1 41 x1.toNatClampNeg) < (3 : Int32) then (
        okk (vp_in x1 320) <|
        okk (vp_in ((x1 * (3 : Int32)) + (mI M1 41 x1.toNatClampNeg)) 960) <|
        bnd (sI M1 40 ((x1 * (3 : Int32)) + (mI M1 41 x1.toNatClampNeg)).toNatClampNeg x2) fun M2 =>
        okk (vp_in x1 320) <|
        okk (vp_in x1 320) <|
        bnd (sI M2 41 x1.toNatClampNeg ((mI M2 41 x1.toNatClampNeg) + (1 : Int32))) fun M3 =>
        some ((), M3))
      else (
        okk (vp_in x1 320) <|
        bnd (sI M1 41 x1.toNatClampNeg (-1 : Int32)) fun M4 =>
        some ((), M4)))
    else (
      okk (vp_in x1 320) <|
      okk (vp_in x1 320) <|
      bnd (sI y1.2 42 x1.toNatClampNeg ((mI y1.2 42 x1.toNatClampNeg) + (1 : Int32))) fun M5 =>
      some ((), M5)))
noncomputable def d_X0_emptyMethods_37 (k2 : (Int32) → Mem → Option (Unit × Mem)) (x2 : Int32) (M : Mem) : Option (Unit × Mem) :=
  bnd ((x2 + (1 : Int32))) fun b1 =>
  k2 (b1) M
noncomputable def d_X0_emptyMethods_2b (k2 : (Int32) → Mem → Option (Unit × Mem)) (x2 : Int32) (M : Mem) : Option (Unit × Mem) :=
  if (320 : Int32) ≤ x2 then (
    some ((), M))
  else (
    okk (vp_in x2 320) <|
    if (mI M 6 x2.toNatClampNeg) = (109 : Int32) then (
      okk (vp_in x2 320) <|
      if (mI M 41 x2.toNatClampNeg) = (-1 : Int32) then (
        d_X0_emptyMethods_37 k2 x2 M)
      else (
        okk (vp_in x2 320) <|
        bnd (sI M 41 x2.toNatClampNeg (0 : Int32)) fun M1 =>
        d_X0_emptyMethods_37 k2 x2 M1))
    else (
      d_X0_emptyMethods_37 k2 x2 M))
noncomputable def d_X0_emptyMethods_2 : Nat → (Int32) → Mem → Option (Unit × Mem) := lp fun k a M => d_X0_emptyMethods_2b k a M
noncomputable def d_X0_emptyMethods (M : Mem) : Option (Unit × Mem) :=
  d_X0_emptyMethods_2 fuel ((0 : Int32)) M
noncomputable def d_X0_areSmall_30 (k4 : (Int32 × Int32) → Mem → Option (Int32 × Mem)) (x2 : Int32) (s0 : Int32) (M : Mem) : Option (Int32 × Mem) :=
  bnd ((x2 + (1 : Int32))) fun b1 =>
  k4 (s0, b1) M
noncomputable def d_X0_areSmall_29 (k4 : (Int32 × Int32) → Mem → Option (Int32 × Mem)) (x2 : Int32) (M : Mem) : Option (Int32 × Mem) :=
  d_X0_areSmall_30 k4 x2 (0 : Int32) M
noncomputable def d_X0_areSmall_4b (k4 : (Int32 × Int32) → Mem → Option (Int32 × Mem)) (x1 : Int32) (x2 : Int32) (M : Mem) : Option (Int32 × Mem) :=
  if (320 : Int32) ≤ x2 then (
    okk (isBo x1) <|
    some (x1, M))
  else (
    if x1 = 0 then (
      d_X0_areSmall_29 k4 x2 M)
    else (
      okk (vp_in x2 320) <|
      if (3 : Int32) < (mI M 41 x2.toNatClampNeg) then (
        d_X0_areSmall_29 k4 x2 M)
      else (
        d_X0_areSmall_30 k4 x2 (1 : Int32) M)))
noncomputable def d_X0_areSmall_4 : Nat → (Int32 × Int32) → Mem → Option (Int32 × Mem) := lp fun k a M => d_X0_areSmall_4b k a.1 a.2 M
noncomputable def d_X0_areSmall (M : Mem) : Option (Int32 × Mem) :=
  d_X0_areSmall_4 fuel ((1 : Int32), (0 : Int32)) M
noncomputable def d_X1_init_26b (k26 : (Int32) → Mem → Option (Unit × Mem)) (r0 : Nat) (r3 : Nat) (x4 : Int32) (M : Mem) : Option (Unit × Mem) :=
  if (20 : Int32) ≤ x4 then (
    okk (mK M r0 = 2) <|
    bnd (sI M r0 4 (80 : Int32)) fun M1 =>
    some ((), M1))
  else (
    okk (mK M r0 = 2) <|
    (mR M r0 2).bind fun r_1 =>
    okk (mK M r_1 = 26) <|
    okk (vp_in x4 (mN M r_1)) <|
    okk (mK M r3 = 9) <|
    okk (r0 ≤ r_1) <|
    bnd (sR M r_1 x4.toNatClampNeg (some r3)) fun M2 =>
    bnd ((x4 + (1 : Int32))) fun b1 =>
    k26 (b1) M2)
noncomputable def d_X1_init_26 (r0 : Nat) (r3 : Nat) : Nat → (Int32) → Mem → Option (Unit × Mem) := lp fun k a M => d_X1_init_26b k r0 r3 a M
noncomputable def d_X1_init (r0 : Nat) (r1 : Nat) (r2 : Nat) (r3 : Nat) (M : Mem) : Option (Unit × Mem) :=
  okk (mK M r0 = 2) <|
  bnd (sR M r0 0 (some r1)) fun M1 =>
  okk (mK M1 r0 = 2) <|
  bnd (sR M1 r0 1 (some r2)) fun M2 =>
  bnd (nx M2) fun r_1 => okk (r_1 < 2147483648) <|
  bnd (sN M2 r_1 26 20) fun M3 =>
  okk (mK M3 r0 = 2) <|
  bnd (sR M3 r0 2 (some r_1)) fun M4 =>
  d_X1_init_26 r0 r3 fuel ((0 : Int32)) M4
noncomputable def d_X1_isFull (M : Mem) : Option (Int32 × Mem) :=
  if (mI M 67 3) < (20 : Int32) then (
    some ((0 : Int32), M))
  else (
    some ((1 : Int32), M))
noncomputable def d_X1_size_38 (k4 : (Int32 × Int32) → Mem → Option (Int32 × Mem)) (x2 : Int32) (s0 : Int32) (s1 : Int32) (M : Mem) : Option (Int32 × Mem) :=
  bnd ((s0 + s1)) fun b1 =>
  bnd ((x2 + (1 : Int32))) fun b2 =>
  k4 (b1, b2) M
noncomputable def d_X1_size_4b (k4 : (Int32 × Int32) → Mem → Option (Int32 × Mem)) (x1 : Int32) (x2 : Int32) (M : Mem) : Option (Int32 × Mem) :=
  if (mI M 67 3) ≤ x2 then (
    some (x1, M))
  else (
    okk (vp_in x2 20) <|
    (mR M 68 x2.toNatClampNeg).bind fun r_1 =>
    okk (mK M r_1 = 9) <|
    if (mI M r_1 14) = 0 then (
      d_X1_size_38 k4 x2 x1 (0 : Int32) M)
    else (
      okk (vp_in x2 20) <|
      (mR M 68 x2.toNatClampNeg).bind fun r_2 =>
      okk (mK M r_2 = 9) <|
      d_X1_size_38 k4 x2 x1 (mI M r_2 0) M))
noncomputable def d_X1_size_4 : Nat → (Int32 × Int32) → Mem → Option (Int32 × Mem) := lp fun k a M => d_X1_size_4b k a.1 a.2 M
noncomputable def d_X1_size (M : Mem) : Option (Int32 × Mem) :=
  d_X1_size_4 fuel ((0 : Int32), (0 : Int32)) M
noncomputable def d_X1_countThere_30 (k4 : (Int32 × Int32) → Mem → Option (Int32 × Mem)) (x2 : Int32) (s0 : Int32) (s1 : Int32) (M : Mem) : Option (Int32 × Mem) :=
  bnd ((s0 + s1)) fun b1 =>
  bnd ((x2 + (1 : Int32))) fun b2 =>
  k4 (b1, b2) M
noncomputable def d_X1_countThere_4b (k4 : (Int32 × Int32) → Mem → Option (Int32 × Mem)) (x1 : Int32) (x2 : Int32) (M : Mem) : Option (Int32 × Mem) :=
  if (mI M 67 3) ≤ x2 then (
    some (x1, M))
  else (
    okk (vp_in x2 20) <|
    (mR M 68 x2.toNatClampNeg).bind fun r_1 =>
    okk (mK M r_1 = 9) <|
    if (mI M r_1 14) = 0 then (
      d_X1_countThere_30 k4 x2 x1 (0 : Int32) M)
    else (
      d_X1_countThere_30 k4 x2 x1 (1 : Int32) M))
noncomputable def d_X1_countThere_4 : Nat → (Int32 × Int32) → Mem → Option (Int32 × Mem) := lp fun k a M => d_X1_countThere_4b k a.1 a.2 M
noncomputable def d_X1_countThere (M : Mem) : Option (Int32 × Mem) :=
  d_X1_countThere_4 fuel ((0 : Int32), (0 : Int32)) M
noncomputable def d_X1_guardsThere_38 (k4 : (Int32 × Int32) → Mem → Option (Int32 × Mem)) (x2 : Int32) (s0 : Int32) (s1 : Int32) (M : Mem) : Option (Int32 × Mem) :=
  bnd ((s0 + s1)) fun b1 =>
  bnd ((x2 + (1 : Int32))) fun b2 =>
  k4 (b1, b2) M
noncomputable def d_X1_guardsThere_4b (k4 : (Int32 × Int32) → Mem → Option (Int32 × Mem)) (x1 : Int32) (x2 : Int32) (M : Mem) : Option (Int32 × Mem) :=
  if (mI M 67 3) ≤ x2 then (
    some (x1, M))
  else (
    okk (vp_in x2 20) <|
    (mR M 68 x2.toNatClampNeg).bind fun r_1 =>
    okk (mK M r_1 = 9) <|
    if (mI M r_1 14) = 0 then (
      d_X1_guardsThere_38 k4 x2 x1 (0 : Int32) M)
    else (
      okk (vp_in x2 20) <|
      (mR M 68 x2.toNatClampNeg).bind fun r_2 =>
      okk (mK M r_2 = 9) <|
      d_X1_guardsThere_38 k4 x2 x1 (mI M r_2 1) M))
noncomputable def d_X1_guardsThere_4 : Nat → (Int32 × Int32) → Mem → Option (Int32 × Mem) := lp fun k a M => d_X1_guardsThere_4b k a.1 a.2 M
noncomputable def d_X1_guardsThere (M : Mem) : Option (Int32 × Mem) :=
  d_X1_guardsThere_4 fuel ((0 : Int32), (0 : Int32)) M
noncomputable def d_X1_hasRoots_53 (k4 : (Int32 × Int32) → Mem → Option (Int32 × Mem)) (x2 : Int32) (s0 : Int32) (M : Mem) : Option (Int32 × Mem) :=
  bnd ((x2 + (1 : Int32))) fun b1 =>
  k4 (s0, b1) M
noncomputable def d_X1_hasRoots_52 (k4 : (Int32 × Int32) → Mem → Option (Int32 × Mem)) (x2 : Int32) (M : Mem) : Option (Int32 × Mem) :=
  d_X1_hasRoots_53 k4 x2 (0 : Int32) M
noncomputable def d_X1_hasRoots_48 (k4 : (Int32 × Int32) → Mem → Option (Int32 × Mem)) (x2 : Int32) (M : Mem) : Option (Int32 × Mem) :=
  d_X1_hasRoots_53 k4 x2 (1 : Int32) M
noncomputable def d_X1_hasRoots_4b (k4 : (Int32 × Int32) → Mem → Option (Int32 × Mem)) (x1 : Int32) (x2 : Int32) (M : Mem) : Option (Int32 × Mem) :=
  if (mI M 67 3) ≤ x2 then (
    okk (isBo x1) <|
    some (x1, M))
  else (
    if x1 = 0 then (
      d_X1_hasRoots_52 k4 x2 M)
    else (
      okk (vp_in x2 20) <|
      (mR M 68 x2.toNatClampNeg).bind fun r_1 =>
      okk (mK M r_1 = 9) <|
      if (mI M r_1 14) = 0 then (
        d_X1_hasRoots_48 k4 x2 M)
      else (
        okk (vp_in x2 20) <|
        (mR M 68 x2.toNatClampNeg).bind fun r_2 =>
        okk (mK M r_2 = 9) <|
        okk (vp_in (mI M r_2 12) 20) <|
        (mR M 68 (mI M r_2 12).toNatClampNeg).bind fun r_3 =>
        okk (mK M r_3 = 9) <|
        if (mI M r_3 14) = 0 then (
          d_X1_hasRoots_52 k4 x2 M)
        else (
          d_X1_hasRoots_48 k4 x2 M))))
noncomputable def d_X1_hasRoots_4 : Nat → (Int32 × Int32) → Mem → Option (Int32 × Mem) := lp fun k a M => d_X1_hasRoots_4b k a.1 a.2 M
noncomputable def d_X1_hasRoots (M : Mem) : Option (Int32 × Mem) :=
  d_X1_hasRoots_4 fuel ((1 : Int32), (0 : Int32)) M
noncomputable def d_X1_leastLatelyEntered_82 (k4 : (Int32 × Int32) → Mem → Option (Int32 × Mem)) (x1 : Int32) (x2 : Int32) (x3 : Int32) (M : Mem) : Option (Int32 × Mem) :=
  bnd ((x3 + (1 : Int32))) fun b1 =>
  k4 (x2, b1) M
noncomputable def d_X1_leastLatelyEntered_80 (k4 : (Int32 × Int32) → Mem → Option (Int32 × Mem)) (x1 : Int32) (x3 : Int32) (M : Mem) : Option (Int32 × Mem) :=
  d_X1_leastLatelyEntered_82 k4 x1 x3 x3 M
noncomputable def d_X1_leastLatelyEntered_47 (k4 : (Int32 × Int32) → Mem → Option (Int32 × Mem)) (x1 : Int32) (x2 : Int32) (x3 : Int32) (s0 : Int32) (M : Mem) : Option (Int32 × Mem) :=
  if s0 = 0 then (
    d_X1_leastLatelyEntered_82 k4 x1 x2 x3 M)
  else (
    if x2 = (-1 : Int32) then (
      d_X1_leastLatelyEntered_80 k4 x1 x3 M)
    else (
      okk (vp_in x3 20) <|
      (mR M 68 x3.toNatClampNeg).bind fun r_1 =>
      okk (mK M r_1 = 9) <|
      okk (vp_in x2 20) <|
      (mR M 68 x2.toNatClampNeg).bind fun r_2 =>
      okk (mK M r_2 = 9) <|
      if (mI M r_2 16) ≤ (mI M r_1 16) then (
        d_X1_leastLatelyEntered_82 k4 x1 x2 x3 M)
      else (
        d_X1_leastLatelyEntered_80 k4 x1 x3 M)))
noncomputable def d_X1_leastLatelyEntered_46 (k4 : (Int32 × Int32) → Mem → Option (Int32 × Mem)) (x1 : Int32) (x2 : Int32) (x3 : Int32) (M : Mem) : Option (Int32 × Mem) :=
  d_X1_leastLatelyEntered_47 k4 x1 x2 x3 (0 : Int32) M
noncomputable def d_X1_leastLatelyEntered_4b (k4 : (Int32 × Int32) → Mem → Option (Int32 × Mem)) (x1 : Int32) (x2 : Int32) (x3 : Int32) (M : Mem) : Option (Int32 × Mem) :=
  if (mI M 67 3) ≤ x3 then (
    some (x2, M))
  else (
    okk (vp_in x3 20) <|
    (mR M 68 x3.toNatClampNeg).bind fun r_1 =>
    okk (mK M r_1 = 9) <|
    if (mI M r_1 14) = 0 then (
      d_X1_leastLatelyEntered_46 k4 x1 x2 x3 M)
    else (
      okk (vp_in x3 20) <|
      (mR M 68 x3.toNatClampNeg).bind fun r_2 =>
      okk (mK M r_2 = 9) <|
      if (mI M r_2 12) = x3 then (
        if x3 = x1 then (
          d_X1_leastLatelyEntered_46 k4 x1 x2 x3 M)
        else (
          d_X1_leastLatelyEntered_47 k4 x1 x2 x3 (1 : Int32) M))
      else (
        d_X1_leastLatelyEntered_46 k4 x1 x2 x3 M)))
noncomputable def d_X1_leastLatelyEntered_4 (x1 : Int32) : Nat → (Int32 × Int32) → Mem → Option (Int32 × Mem) := lp fun k a M => d_X1_leastLatelyEntered_4b k x1 a.1 a.2 M
noncomputable def d_X1_leastLatelyEntered (x1 : Int32) (M : Mem) : Option (Int32 × Mem) :=
  d_X1_leastLatelyEntered_4 x1 fuel ((-1 : Int32), (0 : Int32)) M
noncomputable def d_X1_throwTree_39 (k8 : (Int32) → Mem → Option (Unit × Mem)) (x1 : Int32) (x2 : Int32) (M : Mem) : Option (Unit × Mem) :=
  bnd ((x2 + (1 : Int32))) fun b1 =>
  k8 (b1) M
noncomputable def d_X1_throwTree_8b (k8 : (Int32) → Mem → Option (Unit × Mem)) (x1 : Int32) (x2 : Int32) (M : Mem) : Option (Unit × Mem) :=
  if (mI M 67 3) ≤ x2 then (
    okk (vp_in x1 20) <|
    (mR M 68 x1.toNatClampNeg).bind fun r_1 =>
    okk (mK M r_1 = 9) <|
    bnd ((mI M r_1 13)) fun b1 =>
    okk (vp_in b1 320) <|
    bnd (sI M 47 b1.toNatClampNeg (-1 : Int32)) fun M1 =>
    okk (vp_in b1 320) <|
    bnd (sI M1 45 b1.toNatClampNeg (0 : Int32)) fun M2 =>
    some ((), M2))
  else (
    okk (vp_in x2 20) <|
    (mR M 68 x2.toNatClampNeg).bind fun r_2 =>
    okk (mK M r_2 = 9) <|
    if (mI M r_2 12) = x1 then (
      okk (vp_in x2 20) <|
      (mR M 68 x2.toNatClampNeg).bind fun r_3 =>
      okk (mK M r_3 = 9) <|
      bnd (sI M r_3 14 (0 : Int32)) fun M3 =>
      d_X1_throwTree_39 k8 x1 x2 M3)
    else (
      d_X1_throwTree_39 k8 x1 x2 M))
noncomputable def d_X1_throwTree_8 (x1 : Int32) : Nat → (Int32) → Mem → Option (Unit × Mem) := lp fun k a M => d_X1_throwTree_8b k x1 a M
noncomputable def d_X1_throwTree (x1 : Int32) (M : Mem) : Option (Unit × Mem) :=
  if x1 = (-1 : Int32) then (
    some ((), M))
  else (
    d_X1_throwTree_8 x1 fuel ((0 : Int32)) M)
noncomputable def d_X1_shrink_2b (k2 : (Int32) → Mem → Option (Int32 × Mem)) (x1 : Int32) (M : Mem) : Option (Int32 × Mem) :=
  if (20 : Int32) ≤ x1 then (
    some (x1, M))
  else (
    (d_X1_size M).bind fun y1 =>
    if y1.1 ≤ (mI y1.2 67 4) then (
      some (x1, y1.2))
    else (
      (d_X1_leastLatelyEntered (-1 : Int32) y1.2).bind fun y2 =>
      (d_X1_throwTree y2.1 y2.2).bind fun y3 =>
      bnd ((x1 + (1 : Int32))) fun b1 =>
      k2 (b1) y3.2))
noncomputable def d_X1_shrink_2 : Nat → (Int32) → Mem → Option (Int32 × Mem) := lp fun k a M => d_X1_shrink_2b k a M
noncomputable def d_X1_shrink (M : Mem) : Option (Int32 × Mem) :=
  d_X1_shrink_2 fuel ((0 : Int32)) M
noncomputable def d_X1_makeRoom_36 (x1 : Int32) (M : Mem) : Option (Int32 × Mem) :=
  (d_X1_size M).bind fun y1 =>
  if (mI y1.2 67 4) < (y1.1 + x1) then (
    some ((0 : Int32), y1.2))
  else (
    some ((1 : Int32), y1.2))
noncomputable def d_X1_makeRoom_2b (k2 : (Int32) → Mem → Option (Int32 × Mem)) (x1 : Int32) (x2 : Int32) (x3 : Int32) (M : Mem) : Option (Int32 × Mem) :=
  if (20 : Int32) ≤ x3 then (
    d_X1_makeRoom_36 x1 M)
  else (
    (d_X1_size M).bind fun y1 =>
    if (y1.1 + x1) ≤ (mI y1.2 67 4) then (
      d_X1_makeRoom_36 x1 y1.2)
    else (
      (d_X1_leastLatelyEntered x2 y1.2).bind fun y2 =>
      (d_X1_throwTree y2.1 y2.2).bind fun y3 =>
      bnd ((x3 + (1 : Int32))) fun b1 =>
      k2 (b1) y3.2))
noncomputable def d_X1_makeRoom_2 (x1 : Int32) (x2 : Int32) : Nat → (Int32) → Mem → Option (Int32 × Mem) := lp fun k a M => d_X1_makeRoom_2b k x1 x2 a M
noncomputable def d_X1_makeRoom (x1 : Int32) (x2 : Int32) (M : Mem) : Option (Int32 × Mem) :=
  d_X1_makeRoom_2 x1 x2 fuel ((0 : Int32)) M
noncomputable def d_X11_siteOf (x0 : Int32) (x1 : Int32) (M : Mem) : Option (Int32 × Mem) :=
  some (((x0 * (40 : Int32)) + x1), M)
noncomputable def d_X11_siteOfLine (x0 : Int32) (M : Mem) : Option (Int32 × Mem) :=
  (d_X11_siteOf (x0 / (100 : Int32)) (x0 - x0 / (100 : Int32) * (100 : Int32)) M).bind fun y1 =>
  some (y1.1, y1.2)
noncomputable def d_X1_hasStep_71 (k6 : (Int32 × Int32) → Mem → Option (Int32 × Mem)) (r1 : Nat) (x2 : Int32) (x3 : Int32) (x5 : Int32) (s0 : Int32) (M : Mem) : Option (Int32 × Mem) :=
  bnd ((x5 + (1 : Int32))) fun b1 =>
  k6 (s0, b1) M
noncomputable def d_X1_hasStep_66 (k6 : (Int32 × Int32) → Mem → Option (Int32 × Mem)) (r1 : Nat) (x2 : Int32) (x3 : Int32) (x5 : Int32) (M : Mem) : Option (Int32 × Mem) :=
  d_X1_hasStep_71 k6 r1 x2 x3 x5 (1 : Int32) M
noncomputable def d_X1_hasStep_70 (k6 : (Int32 × Int32) → Mem → Option (Int32 × Mem)) (r1 : Nat) (x2 : Int32) (x3 : Int32) (x5 : Int32) (M : Mem) : Option (Int32 × Mem) :=
  d_X1_hasStep_71 k6 r1 x2 x3 x5 (0 : Int32) M
noncomputable def d_X1_hasStep_6b (k6 : (Int32 × Int32) → Mem → Option (Int32 × Mem)) (r1 : Nat) (x2 : Int32) (x3 : Int32) (x4 : Int32) (x5 : Int32) (M : Mem) : Option (Int32 × Mem) :=
  okk (mK M r1 = 9) <|
  if (mI M r1 0) ≤ x5 then (
    okk (isBo x4) <|
    some (x4, M))
  else (
    okk (mK M r1 = 9) <|
    (mR M r1 2).bind fun r_1 =>
    okk (mK M r_1 = 21) <|
    okk (vp_in x5 (mN M r_1)) <|
    (d_X11_siteOfLine (mI M r_1 x5.toNatClampNeg) M).bind fun y1 =>
    if x4 = 0 then (
      okk (vp_in y1.1 320) <|
      if (mI y1.2 6 y1.1.toNatClampNeg) = x2 then (
        if x2 = (109 : Int32) then (
          d_X1_hasStep_66 k6 r1 x2 x3 x5 y1.2)
        else (
          okk (vp_in y1.1 320) <|
          if (mI y1.2 7 y1.1.toNatClampNeg) = x3 then (
            d_X1_hasStep_66 k6 r1 x2 x3 x5 y1.2)
          else (
            d_X1_hasStep_70 k6 r1 x2 x3 x5 y1.2)))
      else (
        d_X1_hasStep_70 k6 r1 x2 x3 x5 y1.2))
    else (
      d_X1_hasStep_66 k6 r1 x2 x3 x5 y1.2))
noncomputable def d_X1_hasStep_6 (r1 : Nat) (x2 : Int32) (x3 : Int32) : Nat → (Int32 × Int32) → Mem → Option (Int32 × Mem) := lp fun k a M => d_X1_hasStep_6b k r1 x2 x3 a.1 a.2 M
noncomputable def d_X1_hasStep (r1 : Nat) (x2 : Int32) (x3 : Int32) (M : Mem) : Option (Int32 × Mem) :=
  d_X1_hasStep_6 r1 x2 x3 fuel ((0 : Int32), (0 : Int32)) M
noncomputable def d_X1_throwThoseWith_60 (k5 : (Int32 × Int32) → Mem → Option (Int32 × Mem)) (x1 : Int32) (x2 : Int32) (x3 : Int32) (x4 : Int32) (M : Mem) : Option (Int32 × Mem) :=
  bnd ((x4 + (1 : Int32))) fun b1 =>
  k5 (x3, b1) M
noncomputable def d_X1_throwThoseWith_5b (k5 : (Int32 × Int32) → Mem → Option (Int32 × Mem)) (x1 : Int32) (x2 : Int32) (x3 : Int32) (x4 : Int32) (M : Mem) : Option (Int32 × Mem) :=
  if (mI M 67 3) ≤ x4 then (
    some (x3, M))
  else (
    okk (vp_in x4 20) <|
    (mR M 68 x4.toNatClampNeg).bind fun r_1 =>
    okk (mK M r_1 = 9) <|
    if (mI M r_1 14) = 0 then (
      d_X1_throwThoseWith_60 k5 x1 x2 x3 x4 M)
    else (
      okk (vp_in x4 20) <|
      (mR M 68 x4.toNatClampNeg).bind fun r_2 =>
      (d_X1_hasStep r_2 x1 x2 M).bind fun y1 =>
      if y1.1 = 0 then (
        d_X1_throwThoseWith_60 k5 x1 x2 x3 x4 y1.2)
      else (
        okk (vp_in x4 20) <|
        (mR y1.2 68 x4.toNatClampNeg).bind fun r_3 =>
        okk (mK y1.2 r_3 = 9) <|
        (d_X1_throwTree (mI y1.2 r_3 12) y1.2).bind fun y2 =>
        bnd ((x3 + (1 : Int32))) fun b1 =>
        d_X1_throwThoseWith_60 k5 x1 x2 b1 x4 y2.2)))
noncomputable def d_X1_throwThoseWith_5 (x1 : Int32) (x2 : Int32) : Nat → (Int32 × Int32) → Mem → Option (Int32 × Mem) := lp fun k a M => d_X1_throwThoseWith_5b k x1 x2 a.1 a.2 M
noncomputable def d_X1_throwThoseWith (x1 : Int32) (x2 : Int32) (M : Mem) : Option (Int32 × Mem) :=
  d_X1_throwThoseWith_5 x1 x2 fuel ((0 : Int32), (0 : Int32)) M
noncomputable def d_J7_fill_53178_5b (k5 : (Int32) → Mem → Option (Unit × Mem)) (r0 : Nat) (x1 : Int32) (x2 : Int32) (x3 : Int32) (M : Mem) : Option (Unit × Mem) :=
  if x3 ≤ x2 then (
    some ((), M))
  else (
    okk (mK M r0 = 21) <|
    okk (vp_in x2 (mN M r0)) <|
    bnd (sI M r0 x2.toNatClampNeg x1) fun M1 =>
    bnd ((x2 + (1 : Int32))) fun b1 =>
    k5 (b1) M1)
noncomputable def d_J7_fill_53178_5 (r0 : Nat) (x1 : Int32) (x3 : Int32) : Nat → (Int32) → Mem → Option (Unit × Mem) := lp fun k a M => d_J7_fill_53178_5b k r0 x1 a x3 M
noncomputable def d_J7_fill_53178 (r0 : Nat) (x1 : Int32) (M : Mem) : Option (Unit × Mem) :=
  okk (mK M r0 = 21) <|
  bnd ((nI (mN M r0))) fun b1 =>
  d_J7_fill_53178_5 r0 x1 b1 fuel ((0 : Int32)) M
noncomputable def d_X2_init (r0 : Nat) (M : Mem) : Option (Unit × Mem) :=
  bnd (nx M) fun r_1 => okk (r_1 < 2147483648) <|
  bnd (sN M r_1 21 320) fun M1 =>
  okk (mK M1 r0 = 3) <|
  bnd (sR M1 r0 0 (some r_1)) fun M2 =>
  bnd (nx M2) fun r_2 => okk (r_2 < 2147483648) <|
  bnd (sN M2 r_2 21 320) fun M3 =>
  okk (mK M3 r0 = 3) <|
  bnd (sR M3 r0 1 (some r_2)) fun M4 =>
  bnd (nx M4) fun r_3 => okk (r_3 < 2147483648) <|
  bnd (sN M4 r_3 21 320) fun M5 =>
  okk (mK M5 r0 = 3) <|
  bnd (sR M5 r0 2 (some r_3)) fun M6 =>
  okk (mK M6 r0 = 3) <|
  (mR M6 r0 2).bind fun r_4 =>
  (d_J7_fill_53178 r_4 (-1 : Int32) M6).bind fun y1 =>
  some ((), y1.2)
noncomputable def d_X2_bars (x1 : Int32) (M : Mem) : Option (Int32 × Mem) :=
  okk (vp_in x1 320) <|
  if (mI M 46 x1.toNatClampNeg) < (2 : Int32) then (
    some ((0 : Int32), M))
  else (
    some ((1 : Int32), M))
noncomputable def d_X2_breakOff (x1 : Int32) (M : Mem) : Option (Unit × Mem) :=
  okk (vp_in x1 320) <|
  bnd (sI M 45 x1.toNatClampNeg (0 : Int32)) fun M1 =>
  okk (vp_in x1 320) <|
  okk (vp_in x1 320) <|
  bnd (sI M1 46 x1.toNatClampNeg ((mI M1 46 x1.toNatClampNeg) + (1 : Int32))) fun M2 =>
  some ((), M2)
noncomputable def d_X8_init (r0 : Nat) (M : Mem) : Option (Unit × Mem) :=
  bnd (nx M) fun r_1 => okk (r_1 < 2147483648) <|
  bnd (sN M r_1 22 549) fun M1 =>
  okk (mK M1 r0 = 8) <|
  bnd (sR M1 r0 0 (some r_1)) fun M2 =>
  bnd (nx M2) fun r_2 => okk (r_2 < 2147483648) <|
  bnd (sN M2 r_2 21 549) fun M3 =>
  okk (mK M3 r0 = 8) <|
  bnd (sR M3 r0 1 (some r_2)) fun M4 =>
  bnd (nx M4) fun r_3 => okk (r_3 < 2147483648) <|
  bnd (sN M4 r_3 25 549) fun M5 =>
  okk (mK M5 r0 = 8) <|
  bnd (sR M5 r0 2 (some r_3)) fun M6 =>
  bnd (nx M6) fun r_4 => okk (r_4 < 2147483648) <|
  bnd (sN M6 r_4 21 549) fun M7 =>
  okk (mK M7 r0 = 8) <|
  bnd (sR M7 r0 3 (some r_4)) fun M8 =>
  some ((), M8)
noncomputable def d_X3_init (r0 : Nat) (r1 : Nat) (r2 : Nat) (M : Mem) : Option (Unit × Mem) :=
  okk (mK M r0 = 4) <|
  bnd (sR M r0 0 (some r1)) fun M1 =>
  okk (mK M1 r0 = 4) <|
  bnd (sR M1 r0 1 (some r2)) fun M2 =>
  bnd (nx M2) fun r_1 => okk (r_1 < 2147483648) <|
  bnd (sN M2 r_1 8 4) fun M3 =>
  okk (r_1 ≤ nx M3) <| okk (r0 ≤ r_1) <|
  (d_X8_init r_1 M3).bind fun y1 =>
  okk (mK y1.2 r0 = 4) <|
  bnd (sR y1.2 r0 2 (some r_1)) fun M4 =>
  bnd (nx M4) fun r_2 => okk (r_2 < 2147483648) <|
  bnd (sN M4 r_2 21 12) fun M5 =>
  okk (mK M5 r0 = 4) <|
  bnd (sR M5 r0 3 (some r_2)) fun M6 =>
  bnd (nx M6) fun r_3 => okk (r_3 < 2147483648) <|
  bnd (sN M6 r_3 21 12) fun M7 =>
  okk (mK M7 r0 = 4) <|
  bnd (sR M7 r0 4 (some r_3)) fun M8 =>
  bnd (nx M8) fun r_4 => okk (r_4 < 2147483648) <|
  bnd (sN M8 r_4 21 12) fun M9 =>
  okk (mK M9 r0 = 4) <|
  bnd (sR M9 r0 5 (some r_4)) fun M10 =>
  bnd (nx M10) fun r_5 => okk (r_5 < 2147483648) <|
  bnd (sN M10 r_5 21 60) fun M11 =>
  okk (mK M11 r0 = 4) <|
  bnd (sR M11 r0 6 (some r_5)) fun M12 =>
  okk (mK M12 r0 = 4) <|
  bnd (sI M12 r0 13 (45 : Int32)) fun M13 =>
  okk (mK M13 r0 = 4) <|
  bnd (sI M13 r0 14 (45 : Int32)) fun M14 =>
  some ((), M14)
noncomputable def d_X11_localPlace (x0 : Int32) (x1 : Int32) (M : Mem) : Option (Int32 × Mem) :=
  some (((x0 * (14 : Int32)) + x1), M)
noncomputable def d_X8_put (o : Nat) (x1 : Int32) (x2 : Int32) (x3 : Int32) (M : Mem) : Option (Unit × Mem) :=
  okk (vp_in x1 549) <|
  okk (isCh x2) <|
  bnd (sI M (o + 2) x1.toNatClampNeg x2) fun M1 =>
  okk (vp_in x1 549) <|
  bnd (sI M1 (o + 3) x1.toNatClampNeg x3) fun M2 =>
  okk (vp_in x1 549) <|
  bnd (sD M2 (o + 4) x1.toNatClampNeg FP.dconst0) fun M3 =>
  some ((), M3)
noncomputable def d_X3_addFrame_32b (k32 : (Int32) → Mem → Option (Unit × Mem)) (o : Nat) (x2 : Int32) (M : Mem) : Option (Unit × Mem) :=
  if (6 : Int32) ≤ x2 then (
    bnd (sI M o 9 ((mI M o 9) + (1 : Int32))) fun M1 =>
    some ((), M1))
  else (
    (d_X11_localPlace (mI M o 9) x2 M).bind fun y1 =>
    (d_X8_put o y1.1 (110 : Int32) (0 : Int32) y1.2).bind fun y2 =>
    bnd ((x2 + (1 : Int32))) fun b1 =>
    k32 (b1) y2.2)
noncomputable def d_X3_addFrame_32 (o : Nat) : Nat → (Int32) → Mem → Option (Unit × Mem) := lp fun k a M => d_X3_addFrame_32b k o a M
noncomputable def d_X3_addFrame (o : Nat) (x1 : Int32) (M : Mem) : Option (Unit × Mem) :=
  okk (vp_in (mI M o 9) 12) <|
  bnd (sI M (o + 6) (mI M o 9).toNatClampNeg x1) fun M1 =>
  okk (vp_in (mI M1 o 9) 12) <|
  bnd (sI M1 (o + 7) (mI M1 o 9).toNatClampNeg (0 : Int32)) fun M2 =>
  okk (vp_in (mI M2 o 9) 12) <|
  bnd (sI M2 (o + 8) (mI M2 o 9).toNatClampNeg (0 : Int32)) fun M3 =>
  d_X3_addFrame_32 o fuel ((0 : Int32)) M3
noncomputable def d_X3_begin (o : Nat) (x1 : Int32) (x2 : Int32) (M : Mem) : Option (Unit × Mem) :=
  bnd (sI M o 9 (0 : Int32)) fun M1 =>
  bnd (sI M1 o 10 (0 : Int32)) fun M2 =>
  bnd (sI M2 o 11 (0 : Int32)) fun M3 =>
  bnd (sI M3 o 12 (0 : Int32)) fun M4 =>
  bnd (sI M4 o 13 (45 : Int32)) fun M5 =>
  bnd (sI M5 o 14 (45 : Int32)) fun M6 =>
  bnd (sI M6 o 15 (0 : Int32)) fun M7 =>
  (d_X3_addFrame o x1 M7).bind fun y1 =>
  (d_X11_localPlace (0 : Int32) (0 : Int32) y1.2).bind fun y2 =>
  (d_X8_put o y2.1 (105 : Int32) x2 y2.2).bind fun y3 =>
  some ((), y3.2)
noncomputable def d_X3_isRunning (o : Nat) (M : Mem) : Option (Int32 × Mem) :=
  if (mI M o 13) = (45 : Int32) then (
    some ((1 : Int32), M))
  else (
    some ((0 : Int32), M))
noncomputable def d_X3_isAtLimit (o : Nat) (M : Mem) : Option (Int32 × Mem) :=
  if (mI M o 12) < (1000 : Int32) then (
    some ((0 : Int32), M))
  else (
    some ((1 : Int32), M))
noncomputable def d_X3_functionAhead (o : Nat) (M : Mem) : Option (Int32 × Mem) :=
  okk (vp_in ((mI M o 9) - (1 : Int32)) 12) <|
  some ((mI M (o + 6) ((mI M o 9) - (1 : Int32)).toNatClampNeg), M)
noncomputable def d_X3_indexAhead (o : Nat) (M : Mem) : Option (Int32 × Mem) :=
  okk (vp_in ((mI M o 9) - (1 : Int32)) 12) <|
  some ((mI M (o + 7) ((mI M o 9) - (1 : Int32)).toNatClampNeg), M)
noncomputable def d_X3_lineAhead (o : Nat) (M : Mem) : Option (Int32 × Mem) :=
  (d_X3_functionAhead o M).bind fun y1 =>
  (d_X3_indexAhead o y1.2).bind fun y2 =>
  some (((y1.1 * (100 : Int32)) + y2.1), y2.2)
noncomputable def d_X3_endWith (o : Nat) (x1 : Int32) (x2 : Int32) (M : Mem) : Option (Unit × Mem) :=
  bnd (sI M o 13 (120 : Int32)) fun M1 =>
  okk (isCh x1) <|
  bnd (sI M1 o 14 x1) fun M2 =>
  bnd (sI M2 o 15 x2) fun M3 =>
  some ((), M3)
noncomputable def d_X3_endAtLimit (o : Nat) (M : Mem) : Option (Unit × Mem) :=
  (d_X3_lineAhead o M).bind fun y1 =>
  (d_X3_endWith o (108 : Int32) y1.1 y1.2).bind fun y2 =>
  some ((), y2.2)
noncomputable def d_X5_hasCode (x1 : Int32) (x2 : Int32) (M : Mem) : Option (Int32 × Mem) :=
  if x2 < 0 then (
    some ((0 : Int32), M))
  else (
    okk (vp_in x1 8) <|
    if (mI M 4 x1.toNatClampNeg) ≤ x2 then (
      some ((0 : Int32), M))
    else (
      some ((1 : Int32), M)))
noncomputable def d_X3_siteAhead (o : Nat) (M : Mem) : Option (Int32 × Mem) :=
  (d_X3_functionAhead o M).bind fun y1 =>
  (d_X3_indexAhead o y1.2).bind fun y2 =>
  (d_X11_siteOf y1.1 y2.1 y2.2).bind fun y3 =>
  some (y3.1, y3.2)
noncomputable def d_X3_takes (o : Nat) (x1 : Int32) (x2 : Int32) (M : Mem) : Option (Int32 × Mem) :=
  if x1 = (99 : Int32) then (
    okk (vp_in x2 8) <|
    some ((mI M 3 x2.toNatClampNeg), M))
  else if x1 = (105 : Int32) ∨ x1 = (106 : Int32) ∨ x1 = (107 : Int32) ∨ x1 = (108 : Int32) ∨ x1 = (110 : Int32) then (
    some ((0 : Int32), M))
  else if x1 = (112 : Int32) then (
    some ((2 : Int32), M))
  else (
    if (xIdx 1 x1) < 0 then (
      some ((1 : Int32), M))
    else (
      some ((2 : Int32), M)))
noncomputable def d_X3_pushes (o : Nat) (x1 : Int32) (M : Mem) : Option (Int32 × Mem) :=
  if x1 = (99 : Int32) ∨ x1 = (100 : Int32) ∨ x1 = (106 : Int32) ∨ x1 = (109 : Int32) ∨ x1 = (112 : Int32) ∨ x1 = (114 : Int32) ∨ x1 = (115 : Int32) ∨ x1 = (116 : Int32) ∨ x1 = (122 : Int32) then (
    some ((0 : Int32), M))
  else if x1 = (117 : Int32) then (
    some ((2 : Int32), M))
  else (
    some ((1 : Int32), M))
noncomputable def d_X3_failsByStack (o : Nat) (x1 : Int32) (x2 : Int32) (M : Mem) : Option (Int32 × Mem) :=
  okk (vp_in ((mI M o 9) - (1 : Int32)) 12) <|
  bnd ((mI M (o + 8) ((mI M o 9) - (1 : Int32)).toNatClampNeg)) fun b1 =>
  (d_X3_takes o x1 x2 M).bind fun y1 =>
  if b1 < y1.1 then (
    some ((1 : Int32), y1.2))
  else (
    (d_X3_pushes o x1 y1.2).bind fun y2 =>
    if ((b1 - y1.1) + y2.1) ≤ (8 : Int32) then (
      if x1 = (114 : Int32) then (
        if (mI y2.2 o 9) ≤ (1 : Int32) then (
          some ((0 : Int32), y2.2))
        else (
          okk (vp_in ((mI y2.2 o 9) - (2 : Int32)) 12) <|
          if (mI y2.2 (o + 8) ((mI y2.2 o 9) - (2 : Int32)).toNatClampNeg) < (8 : Int32) then (
            some ((0 : Int32), y2.2))
          else (
            some ((1 : Int32), y2.2))))
      else (
        some ((0 : Int32), y2.2)))
    else (
      some ((1 : Int32), y2.2)))
noncomputable def d_X3_fromTop (o : Nat) (x1 : Int32) (M : Mem) : Option (Int32 × Mem) :=
  bnd (((mI M o 9) - (1 : Int32))) fun b1 =>
  okk (vp_in b1 12) <|
  some (((((b1 * (14 : Int32)) + (6 : Int32)) + (mI M (o + 8) b1.toNatClampNeg)) - x1), M)
noncomputable def d_X8_isNumber (o : Nat) (x1 : Int32) (M : Mem) : Option (Int32 × Mem) :=
  okk (vp_in x1 549) <|
  if (mI M (o + 2) x1.toNatClampNeg) = (105 : Int32) then (
    some ((1 : Int32), M))
  else (
    okk (vp_in x1 549) <|
    if (mI M (o + 2) x1.toNatClampNeg) = (102 : Int32) then (
      some ((1 : Int32), M))
    else (
      some ((0 : Int32), M)))
noncomputable def d_X3_failsByKind (o : Nat) (x1 : Int32) (M : Mem) : Option (Int32 × Mem) :=
  if x1 = (103 : Int32) ∨ x1 = (109 : Int32) then (
    (d_X3_fromTop o (1 : Int32) M).bind fun y1 =>
    okk (vp_in y1.1 549) <|
    if (mI y1.2 (o + 2) y1.1.toNatClampNeg) = (111 : Int32) then (
      some ((0 : Int32), y1.2))
    else (
      some ((1 : Int32), y1.2)))
  else if x1 = (112 : Int32) then (
    (d_X3_fromTop o (2 : Int32) M).bind fun y2 =>
    okk (vp_in y2.1 549) <|
    if (mI y2.2 (o + 2) y2.1.toNatClampNeg) = (111 : Int32) then (
      some ((0 : Int32), y2.2))
    else (
      some ((1 : Int32), y2.2)))
  else if x1 = (119 : Int32) then (
    (d_X3_fromTop o (1 : Int32) M).bind fun y3 =>
    (d_X8_isNumber o y3.1 y3.2).bind fun y4 =>
    if y4.1 = 0 then (
      some ((1 : Int32), y4.2))
    else (
      some ((0 : Int32), y4.2)))
  else (
    if (xIdx 2 x1) < 0 then (
      some ((0 : Int32), M))
    else (
      (d_X3_fromTop o (2 : Int32) M).bind fun y5 =>
      (d_X8_isNumber o y5.1 y5.2).bind fun y6 =>
      if y6.1 = 0 then (
        some ((1 : Int32), y6.2))
      else (
        (d_X3_fromTop o (1 : Int32) y6.2).bind fun y7 =>
        (d_X8_isNumber o y7.1 y7.2).bind fun y8 =>
        if y8.1 = 0 then (
          some ((1 : Int32), y8.2))
        else (
          some ((0 : Int32), y8.2)))))
noncomputable def d_X8_areIntegers (o : Nat) (x1 : Int32) (x2 : Int32) (M : Mem) : Option (Int32 × Mem) :=
  okk (vp_in x1 549) <|
  if (mI M (o + 2) x1.toNatClampNeg) = (105 : Int32) then (
    okk (vp_in x2 549) <|
    if (mI M (o + 2) x2.toNatClampNeg) = (105 : Int32) then (
      some ((1 : Int32), M))
    else (
      some ((0 : Int32), M)))
  else (
    some ((0 : Int32), M))
noncomputable def d_X3_dividesByZero (o : Nat) (M : Mem) : Option (Int32 × Mem) :=
  (d_X3_fromTop o (2 : Int32) M).bind fun y1 =>
  (d_X3_fromTop o (1 : Int32) y1.2).bind fun y2 =>
  (d_X8_areIntegers o y1.1 y2.1 y2.2).bind fun y3 =>
  if y3.1 = 0 then (
    some ((0 : Int32), y3.2))
  else (
    (d_X3_fromTop o (1 : Int32) y3.2).bind fun y4 =>
    okk (vp_in y4.1 549) <|
    if (mI y4.2 (o + 3) y4.1.toNatClampNeg) = 0 then (
      some ((1 : Int32), y4.2))
    else (
      some ((0 : Int32), y4.2)))
noncomputable def d_X8_isUndefined (o : Nat) (x1 : Int32) (M : Mem) : Option (Int32 × Mem) :=
  okk (vp_in x1 549) <|
  if (mI M (o + 2) x1.toNatClampNeg) = (102 : Int32) then (
    okk (vp_in x1 549) <|
    if (mI M (o + 3) x1.toNatClampNeg) = (1 : Int32) then (
      some ((1 : Int32), M))
    else (
      some ((0 : Int32), M)))
  else (
    some ((0 : Int32), M))
noncomputable def d_X4_hasNearest (x0 : UInt64) (M : Mem) : Option (Int32 × Mem) :=
  if (Op.cmpValue (FP.dcmp x0 (13970166044104327168 : UInt64)) .l) < 0 then (
    some ((0 : Int32), M))
  else (
    if 0 ≤ (Op.cmpValue (FP.dcmp x0 (4746794007246405632 : UInt64)) .g) then (
      some ((0 : Int32), M))
    else (
      some ((1 : Int32), M)))
noncomputable def d_X8_hasNearest (o : Nat) (x1 : Int32) (M : Mem) : Option (Int32 × Mem) :=
  okk (vp_in x1 549) <|
  if (mI M (o + 2) x1.toNatClampNeg) = (105 : Int32) then (
    some ((1 : Int32), M))
  else (
    (d_X8_isUndefined o x1 M).bind fun y1 =>
    if y1.1 = 0 then (
      okk (vp_in x1 549) <|
      (d_X4_hasNearest (mD y1.2 (o + 4) x1.toNatClampNeg) y1.2).bind fun y2 =>
      if y2.1 = 0 then (
        some ((0 : Int32), y2.2))
      else (
        some ((1 : Int32), y2.2)))
    else (
      some ((0 : Int32), y1.2)))
noncomputable def d_X3_shapeFromTop (o : Nat) (x1 : Int32) (M : Mem) : Option (Int32 × Mem) :=
  (d_X3_fromTop o x1 M).bind fun y1 =>
  okk (vp_in y1.1 549) <|
  okk (vp_in (mI y1.2 (o + 3) y1.1.toNatClampNeg) 60) <|
  some ((mI y1.2 (o + 9) (mI y1.2 (o + 3) y1.1.toNatClampNeg).toNatClampNeg), y1.2)
noncomputable def d_X7_has (x1 : Int32) (x2 : Int32) (M : Mem) : Option (Int32 × Mem) :=
  okk (vp_in x1 60) <|
  if (((mI M 14 x1.toNatClampNeg) >>> (x2 &&& 31)) &&& (1 : Int32)) = 0 then (
    some ((0 : Int32), M))
  else (
    some ((1 : Int32), M))
noncomputable def d_X7_canPut (x1 : Int32) (x2 : Int32) (M : Mem) : Option (Int32 × Mem) :=
  (d_X7_has x1 x2 M).bind fun y1 =>
  if y1.1 = 0 then (
    okk (vp_in ((x1 * (6 : Int32)) + x2) 360) <|
    if (mI y1.2 16 ((x1 * (6 : Int32)) + x2).toNatClampNeg) = (-1 : Int32) then (
      if (60 : Int32) ≤ (mI y1.2 11 6) then (
        some ((0 : Int32), y1.2))
      else (
        some ((1 : Int32), y1.2)))
    else (
      some ((1 : Int32), y1.2)))
  else (
    some ((1 : Int32), y1.2))
noncomputable def d_X3_classFromTop (o : Nat) (M : Mem) : Option (Int32 × Mem) :=
  (d_X3_shapeFromTop o (1 : Int32) M).bind fun y1 =>
  okk (vp_in y1.1 60) <|
  some ((mI y1.2 12 y1.1.toNatClampNeg), y1.2)
noncomputable def d_X5_methodOf_5b (k5 : (Int32 × Int32) → Mem → Option (Int32 × Mem)) (x2 : Int32) (x3 : Int32) (x4 : Int32) (M : Mem) : Option (Int32 × Mem) :=
  if (5 : Int32) ≤ x4 then (
    some ((-1 : Int32), M))
  else (
    if x3 = (-1 : Int32) then (
      some ((-1 : Int32), M))
    else (
      okk (vp_in ((x3 * (6 : Int32)) + x2) 30) <|
      if (mI M 10 ((x3 * (6 : Int32)) + x2).toNatClampNeg) = (-1 : Int32) then (
        okk (vp_in x3 5) <|
        bnd ((mI M 9 x3.toNatClampNeg)) fun b1 =>
        bnd ((x4 + (1 : Int32))) fun b2 =>
        k5 (b1, b2) M)
      else (
        okk (vp_in ((x3 * (6 : Int32)) + x2) 30) <|
        some ((mI M 10 ((x3 * (6 : Int32)) + x2).toNatClampNeg), M))))
noncomputable def d_X5_methodOf_5 (x2 : Int32) : Nat → (Int32 × Int32) → Mem → Option (Int32 × Mem) := lp fun k a M => d_X5_methodOf_5b k x2 a.1 a.2 M
noncomputable def d_X5_methodOf (x1 : Int32) (x2 : Int32) (M : Mem) : Option (Int32 × Mem) :=
  d_X5_methodOf_5 x2 fuel (x1, (0 : Int32)) M
noncomputable def d_X3_failureByDepth (o : Nat) (M : Mem) : Option (Int32 × Mem) :=
  if (mI M o 9) < (12 : Int32) then (
    some ((45 : Int32), M))
  else (
    some ((100 : Int32), M))
noncomputable def d_X3_failureByValue (o : Nat) (x1 : Int32) (x2 : Int32) (M : Mem) : Option (Int32 × Mem) :=
  if x1 = (37 : Int32) ∨ x1 = (47 : Int32) then (
    (d_X3_dividesByZero o M).bind fun y1 =>
    if y1.1 = 0 then (
      some ((45 : Int32), y1.2))
    else (
      some ((48 : Int32), y1.2)))
  else if x1 = (99 : Int32) then (
    (d_X3_failureByDepth o M).bind fun y2 =>
    okk (isCh y2.1) <|
    some (y2.1, y2.2))
  else if x1 = (103 : Int32) then (
    (d_X3_shapeFromTop o (1 : Int32) M).bind fun y3 =>
    (d_X7_has y3.1 x2 y3.2).bind fun y4 =>
    if y4.1 = 0 then (
      some ((102 : Int32), y4.2))
    else (
      some ((45 : Int32), y4.2)))
  else if x1 = (109 : Int32) then (
    (d_X3_classFromTop o M).bind fun y5 =>
    (d_X5_methodOf y5.1 x2 y5.2).bind fun y6 =>
    if y6.1 = (-1 : Int32) then (
      some ((109 : Int32), y6.2))
    else (
      (d_X3_failureByDepth o y6.2).bind fun y7 =>
      okk (isCh y7.1) <|
      some (y7.1, y7.2)))
  else if x1 = (110 : Int32) then (
    if (mI M o 10) < (60 : Int32) then (
      some ((45 : Int32), M))
    else (
      some ((111 : Int32), M)))
  else if x1 = (112 : Int32) then (
    (d_X3_shapeFromTop o (2 : Int32) M).bind fun y8 =>
    (d_X7_canPut y8.1 x2 y8.2).bind fun y9 =>
    if y9.1 = 0 then (
      some ((102 : Int32), y9.2))
    else (
      some ((45 : Int32), y9.2)))
  else if x1 = (119 : Int32) then (
    (d_X3_fromTop o (1 : Int32) M).bind fun y10 =>
    (d_X8_hasNearest o y10.1 y10.2).bind fun y11 =>
    if y11.1 = 0 then (
      some ((119 : Int32), y11.2))
    else (
      some ((45 : Int32), y11.2)))
  else (
    some ((45 : Int32), M))
noncomputable def d_X3_failureAhead (o : Nat) (M : Mem) : Option (Int32 × Mem) :=
  (d_X3_functionAhead o M).bind fun y1 =>
  (d_X3_indexAhead o y1.2).bind fun y2 =>
  (d_X5_hasCode y1.1 y2.1 y2.2).bind fun y3 =>
  if y3.1 = 0 then (
    some ((101 : Int32), y3.2))
  else (
    (d_X3_siteAhead o y3.2).bind fun y4 =>
    okk (vp_in y4.1 320) <|
    okk (isCh (mI y4.2 6 y4.1.toNatClampNeg)) <|
    bnd (sI y4.2 o 7 (mI y4.2 6 y4.1.toNatClampNeg)) fun M1 =>
    (d_X3_siteAhead o M1).bind fun y5 =>
    okk (vp_in y5.1 320) <|
    bnd (sI y5.2 o 8 (mI y5.2 7 y5.1.toNatClampNeg)) fun M2 =>
    (d_X3_failsByStack o (mI M2 o 7) (mI M2 o 8) M2).bind fun y6 =>
    if y6.1 = 0 then (
      (d_X3_failsByKind o (mI y6.2 o 7) y6.2).bind fun y7 =>
      if y7.1 = 0 then (
        (d_X3_failureByValue o (mI y7.2 o 7) (mI y7.2 o 8) y7.2).bind fun y8 =>
        okk (isCh y8.1) <|
        some (y8.1, y8.2))
      else (
        some ((107 : Int32), y7.2)))
    else (
      some ((115 : Int32), y6.2)))
noncomputable def d_X3_pushPut (o : Nat) (x1 : Int32) (x2 : Int32) (M : Mem) : Option (Unit × Mem) :=
  okk (vp_in ((mI M o 9) - (1 : Int32)) 12) <|
  okk (vp_in ((mI M o 9) - (1 : Int32)) 12) <|
  bnd (sI M (o + 8) ((mI M o 9) - (1 : Int32)).toNatClampNeg ((mI M (o + 8) ((mI M o 9) - (1 : Int32)).toNatClampNeg) + (1 : Int32))) fun M1 =>
  (d_X3_fromTop o (1 : Int32) M1).bind fun y1 =>
  (d_X8_put o y1.1 x1 x2 y1.2).bind fun y2 =>
  some ((), y2.2)
noncomputable def d_X3_failWith_45 (o : Nat) (x1 : Int32) (x2 : Int32) (M : Mem) : Option (Unit × Mem) :=
  if 0 ≤ x2 then (
    bnd (sI M o 9 (x2 + (1 : Int32))) fun M1 =>
    okk (vp_in x2 12) <|
    okk (vp_in (mI M1 (o + 6) x2.toNatClampNeg) 8) <|
    okk (vp_in x2 12) <|
    bnd (sI M1 (o + 7) x2.toNatClampNeg (mI M1 5 (mI M1 (o + 6) x2.toNatClampNeg).toNatClampNeg)) fun M2 =>
    okk (vp_in x2 12) <|
    bnd (sI M2 (o + 8) x2.toNatClampNeg (0 : Int32)) fun M3 =>
    (d_X3_pushPut o (105 : Int32) x1 M3).bind fun y1 =>
    some ((), y1.2))
  else (
    (d_X3_lineAhead o M).bind fun y2 =>
    (d_X3_endWith o x1 y2.1 y2.2).bind fun y3 =>
    some ((), y3.2))
noncomputable def d_X3_failWith_17b (k17 : (Int32) → Mem → Option (Unit × Mem)) (o : Nat) (x1 : Int32) (x2 : Int32) (M : Mem) : Option (Unit × Mem) :=
  if x2 < 0 then (
    d_X3_failWith_45 o x1 x2 M)
  else (
    okk (vp_in x2 12) <|
    okk (vp_in (mI M (o + 6) x2.toNatClampNeg) 8) <|
    if (mI M 5 (mI M (o + 6) x2.toNatClampNeg).toNatClampNeg) = (-1 : Int32) then (
      bnd ((x2 + (-1 : Int32))) fun b1 =>
      k17 (b1) M)
    else (
      d_X3_failWith_45 o x1 x2 M))
noncomputable def d_X3_failWith_17 (o : Nat) (x1 : Int32) : Nat → (Int32) → Mem → Option (Unit × Mem) := lp fun k a M => d_X3_failWith_17b k o x1 a M
noncomputable def d_X3_failWith (o : Nat) (x1 : Int32) (M : Mem) : Option (Unit × Mem) :=
  bnd (sI M o 12 ((mI M o 12) + (1 : Int32))) fun M1 =>
  bnd (((mI M1 o 9) - (1 : Int32))) fun b1 =>
  d_X3_failWith_17 o x1 fuel (b1) M1
noncomputable def d_X3_take (o : Nat) (M : Mem) : Option (Int32 × Mem) :=
  okk (vp_in ((mI M o 9) - (1 : Int32)) 12) <|
  okk (vp_in ((mI M o 9) - (1 : Int32)) 12) <|
  bnd (sI M (o + 8) ((mI M o 9) - (1 : Int32)).toNatClampNeg ((mI M (o + 8) ((mI M o 9) - (1 : Int32)).toNatClampNeg) - (1 : Int32))) fun M1 =>
  (d_X3_fromTop o (0 : Int32) M1).bind fun y1 =>
  some (y1.1, y1.2)
noncomputable def d_X8_isNull (o : Nat) (x1 : Int32) (M : Mem) : Option (Int32 × Mem) :=
  okk (vp_in x1 549) <|
  bnd ((mI M (o + 2) x1.toNatClampNeg)) fun b1 =>
  if b1 = (102 : Int32) then (
    (d_X8_isUndefined o x1 M).bind fun y1 =>
    if y1.1 = 0 then (
      okk (vp_in x1 549) <|
      if (Op.cmpValue (FP.dcmp (mD y1.2 (o + 4) x1.toNatClampNeg) FP.dconst0) .l) = 0 then (
        some ((1 : Int32), y1.2))
      else (
        some ((0 : Int32), y1.2)))
    else (
      some ((0 : Int32), y1.2)))
  else if b1 = (105 : Int32) then (
    okk (vp_in x1 549) <|
    if (mI M (o + 3) x1.toNatClampNeg) = 0 then (
      some ((1 : Int32), M))
    else (
      some ((0 : Int32), M)))
  else (
    okk (vp_in x1 549) <|
    if (mI M (o + 2) x1.toNatClampNeg) = (110 : Int32) then (
      some ((1 : Int32), M))
    else (
      some ((0 : Int32), M)))
noncomputable def d_X3_jumpsAtNull (o : Nat) (x1 : Int32) (x2 : Int32) (M : Mem) : Option (Int32 × Mem) :=
  (d_X3_take o M).bind fun y1 =>
  (d_X8_isNull o y1.1 y1.2).bind fun y2 =>
  if y2.1 = 0 then (
    some ((0 : Int32), y2.2))
  else (
    okk (vp_in ((mI y2.2 o 9) - (1 : Int32)) 12) <|
    bnd (sI y2.2 (o + 7) ((mI y2.2 o 9) - (1 : Int32)).toNatClampNeg x1) fun M1 =>
    if x2 < x1 then (
      some ((0 : Int32), M1))
    else (
      some ((1 : Int32), M1)))
noncomputable def d_X8_move (o : Nat) (x1 : Int32) (x2 : Int32) (M : Mem) : Option (Unit × Mem) :=
  okk (vp_in x1 549) <|
  okk (vp_in x2 549) <|
  okk (isCh (mI M (o + 2) x1.toNatClampNeg)) <|
  bnd (sI M (o + 2) x2.toNatClampNeg (mI M (o + 2) x1.toNatClampNeg)) fun M1 =>
  okk (vp_in x1 549) <|
  okk (vp_in x2 549) <|
  bnd (sI M1 (o + 3) x2.toNatClampNeg (mI M1 (o + 3) x1.toNatClampNeg)) fun M2 =>
  okk (vp_in x1 549) <|
  okk (vp_in x2 549) <|
  bnd (sD M2 (o + 4) x2.toNatClampNeg (mD M2 (o + 4) x1.toNatClampNeg)) fun M3 =>
  okk (vp_in x1 549) <|
  okk (vp_in x2 549) <|
  bnd (sI M3 (o + 5) x2.toNatClampNeg (mI M3 (o + 5) x1.toNatClampNeg)) fun M4 =>
  some ((), M4)
noncomputable def d_X3_call_25b (k25 : (Int32) → Mem → Option (Unit × Mem)) (o : Nat) (x2 : Int32) (x3 : Int32) (x4 : Int32) (M : Mem) : Option (Unit × Mem) :=
  if x2 ≤ x4 then (
    some ((), M))
  else (
    okk (vp_in x3 12) <|
    (d_X11_localPlace (x3 + (1 : Int32)) x4 M).bind fun y1 =>
    (d_X8_move o ((((x3 * (14 : Int32)) + (6 : Int32)) + (mI M (o + 8) x3.toNatClampNeg)) + x4) y1.1 y1.2).bind fun y2 =>
    bnd ((x4 + (1 : Int32))) fun b1 =>
    k25 (b1) y2.2)
noncomputable def d_X3_call_25 (o : Nat) (x2 : Int32) (x3 : Int32) : Nat → (Int32) → Mem → Option (Unit × Mem) := lp fun k a M => d_X3_call_25b k o x2 x3 a M
noncomputable def d_X3_call (o : Nat) (x1 : Int32) (x2 : Int32) (M : Mem) : Option (Unit × Mem) :=
  bnd (((mI M o 9) - (1 : Int32))) fun b1 =>
  okk (vp_in b1 12) <|
  okk (vp_in b1 12) <|
  bnd (sI M (o + 8) b1.toNatClampNeg ((mI M (o + 8) b1.toNatClampNeg) - x2)) fun M1 =>
  (d_X3_addFrame o x1 M1).bind fun y1 =>
  d_X3_call_25 o x2 b1 fuel ((0 : Int32)) y1.2
noncomputable def d_X3_pushMoved (o : Nat) (x1 : Int32) (M : Mem) : Option (Unit × Mem) :=
  okk (vp_in ((mI M o 9) - (1 : Int32)) 12) <|
  okk (vp_in ((mI M o 9) - (1 : Int32)) 12) <|
  bnd (sI M (o + 8) ((mI M o 9) - (1 : Int32)).toNatClampNeg ((mI M (o + 8) ((mI M o 9) - (1 : Int32)).toNatClampNeg) + (1 : Int32))) fun M1 =>
  (d_X3_fromTop o (1 : Int32) M1).bind fun y1 =>
  (d_X8_move o x1 y1.1 y1.2).bind fun y2 =>
  some ((), y2.2)
noncomputable def d_X3_giveBack (o : Nat) (M : Mem) : Option (Unit × Mem) :=
  (d_X3_take o M).bind fun y1 =>
  bnd (sI y1.2 o 9 ((mI y1.2 o 9) - (1 : Int32))) fun M1 =>
  if (mI M1 o 9) = 0 then (
    (d_X8_move o y1.1 (548 : Int32) M1).bind fun y3 =>
    bnd (sI y3.2 o 13 (118 : Int32)) fun M2 =>
    some ((), M2))
  else (
    (d_X3_pushMoved o y1.1 M1).bind fun y2 =>
    some ((), y2.2))
noncomputable def d_X11_fieldPlace (x0 : Int32) (x1 : Int32) (M : Mem) : Option (Int32 × Mem) :=
  some ((((168 : Int32) + (x0 * (6 : Int32))) + x1), M)
noncomputable def d_X7_addEmpty_28b (k28 : (Int32) → Mem → Option (Int32 × Mem)) (x2 : Int32) (x3 : Int32) (M : Mem) : Option (Int32 × Mem) :=
  if (6 : Int32) ≤ x3 then (
    bnd (sI M 11 6 ((mI M 11 6) + (1 : Int32))) fun M1 =>
    some (x2, M1))
  else (
    okk (vp_in ((x2 * (6 : Int32)) + x3) 360) <|
    bnd (sI M 16 ((x2 * (6 : Int32)) + x3).toNatClampNeg (-1 : Int32)) fun M2 =>
    bnd ((x3 + (1 : Int32))) fun b1 =>
    k28 (b1) M2)
noncomputable def d_X7_addEmpty_28 (x2 : Int32) : Nat → (Int32) → Mem → Option (Int32 × Mem) := lp fun k a M => d_X7_addEmpty_28b k x2 a M
noncomputable def d_X7_addEmpty (x1 : Int32) (M : Mem) : Option (Int32 × Mem) :=
  bnd ((mI M 11 6)) fun b1 =>
  okk (vp_in b1 60) <|
  bnd (sI M 12 b1.toNatClampNeg x1) fun M1 =>
  okk (vp_in b1 60) <|
  bnd (sI M1 13 b1.toNatClampNeg (0 : Int32)) fun M2 =>
  okk (vp_in b1 60) <|
  bnd (sI M2 14 b1.toNatClampNeg (0 : Int32)) fun M3 =>
  d_X7_addEmpty_28 b1 fuel ((0 : Int32)) M3
noncomputable def d_X7_addLonger_14b (k14 : (Int32) → Mem → Option (Int32 × Mem)) (x1 : Int32) (x2 : Int32) (x3 : Int32) (x4 : Int32) (M : Mem) : Option (Int32 × Mem) :=
  okk (vp_in x1 60) <|
  if (mI M 13 x1.toNatClampNeg) ≤ x4 then (
    okk (vp_in x1 60) <|
    okk (vp_in ((x3 * (6 : Int32)) + (mI M 13 x1.toNatClampNeg)) 360) <|
    bnd (sI M 15 ((x3 * (6 : Int32)) + (mI M 13 x1.toNatClampNeg)).toNatClampNeg x2) fun M1 =>
    okk (vp_in x1 60) <|
    okk (vp_in x3 60) <|
    bnd (sI M1 13 x3.toNatClampNeg ((mI M1 13 x1.toNatClampNeg) + (1 : Int32))) fun M2 =>
    okk (vp_in x1 60) <|
    okk (vp_in x3 60) <|
    bnd (sI M2 14 x3.toNatClampNeg ((mI M2 14 x1.toNatClampNeg) ||| ((1 : Int32) <<< (x2 &&& 31)))) fun M3 =>
    some (x3, M3))
  else (
    okk (vp_in ((x1 * (6 : Int32)) + x4) 360) <|
    okk (vp_in ((x3 * (6 : Int32)) + x4) 360) <|
    bnd (sI M 15 ((x3 * (6 : Int32)) + x4).toNatClampNeg (mI M 15 ((x1 * (6 : Int32)) + x4).toNatClampNeg)) fun M4 =>
    bnd ((x4 + (1 : Int32))) fun b1 =>
    k14 (b1) M4)
noncomputable def d_X7_addLonger_14 (x1 : Int32) (x2 : Int32) (x3 : Int32) : Nat → (Int32) → Mem → Option (Int32 × Mem) := lp fun k a M => d_X7_addLonger_14b k x1 x2 x3 a M
noncomputable def d_X7_addLonger (x1 : Int32) (x2 : Int32) (M : Mem) : Option (Int32 × Mem) :=
  okk (vp_in x1 60) <|
  (d_X7_addEmpty (mI M 12 x1.toNatClampNeg) M).bind fun y1 =>
  d_X7_addLonger_14 x1 x2 y1.1 fuel ((0 : Int32)) y1.2
noncomputable def d_X7_behindPut_43 (x1 : Int32) (x2 : Int32) (M : Mem) : Option (Int32 × Mem) :=
  okk (vp_in ((x1 * (6 : Int32)) + x2) 360) <|
  some ((mI M 16 ((x1 * (6 : Int32)) + x2).toNatClampNeg), M)
noncomputable def d_X7_behindPut (x1 : Int32) (x2 : Int32) (M : Mem) : Option (Int32 × Mem) :=
  (d_X7_has x1 x2 M).bind fun y1 =>
  if y1.1 = 0 then (
    okk (vp_in ((x1 * (6 : Int32)) + x2) 360) <|
    if (mI y1.2 16 ((x1 * (6 : Int32)) + x2).toNatClampNeg) = (-1 : Int32) then (
      (d_X7_addLonger x1 x2 y1.2).bind fun y2 =>
      okk (vp_in ((x1 * (6 : Int32)) + x2) 360) <|
      bnd (sI y2.2 16 ((x1 * (6 : Int32)) + x2).toNatClampNeg y2.1) fun M1 =>
      d_X7_behindPut_43 x1 x2 M1)
    else (
      d_X7_behindPut_43 x1 x2 y1.2))
  else (
    some (x1, y1.2))
noncomputable def d_X3_useObject (o : Nat) (x1 : Int32) (x2 : Int32) (M : Mem) : Option (Unit × Mem) :=
  if x1 = (110 : Int32) then (
    okk (vp_in x2 5) <|
    okk (vp_in (mI M o 10) 60) <|
    bnd (sI M (o + 9) (mI M o 10).toNatClampNeg (mI M 17 x2.toNatClampNeg)) fun M2 =>
    (d_X3_pushPut o (111 : Int32) (mI M2 o 10) M2).bind fun y10 =>
    bnd (sI y10.2 o 10 ((mI y10.2 o 10) + (1 : Int32))) fun M3 =>
    some ((), M3))
  else (
    if x1 = (103 : Int32) then (
      (d_X3_fromTop o (1 : Int32) M).bind fun y6 =>
      okk (vp_in y6.1 549) <|
      (d_X11_fieldPlace (mI y6.2 (o + 3) y6.1.toNatClampNeg) x2 y6.2).bind fun y7 =>
      (d_X3_fromTop o (1 : Int32) y7.2).bind fun y8 =>
      (d_X8_move o y7.1 y8.1 y8.2).bind fun y9 =>
      some ((), y9.2))
    else (
      (d_X3_take o M).bind fun y1 =>
      (d_X3_take o y1.2).bind fun y2 =>
      okk (vp_in y2.1 549) <|
      bnd ((mI y2.2 (o + 3) y2.1.toNatClampNeg)) fun b1 =>
      okk (vp_in b1 60) <|
      (d_X7_behindPut (mI y2.2 (o + 9) b1.toNatClampNeg) x2 y2.2).bind fun y3 =>
      okk (vp_in b1 60) <|
      bnd (sI y3.2 (o + 9) b1.toNatClampNeg y3.1) fun M1 =>
      (d_X11_fieldPlace b1 x2 M1).bind fun y4 =>
      (d_X8_move o y1.1 y4.1 y4.2).bind fun y5 =>
      some ((), y5.2)))
noncomputable def d_X3_tell (o : Nat) (x1 : Int32) (M : Mem) : Option (Unit × Mem) :=
  if (20 : Int32) ≤ (mI M o 11) then (
    some ((), M))
  else (
    (d_X8_move o x1 ((528 : Int32) + (mI M o 11)) M).bind fun y1 =>
    bnd (sI y1.2 o 11 ((mI y1.2 o 11) + (1 : Int32))) fun M1 =>
    some ((), M1))
noncomputable def d_X4_nearest_47 (x2 : Int64) (M : Mem) : Option (Int32 × Mem) :=
  bnd ((x2 + (1 : Int64))) fun b1 =>
  some ((b1.toInt32), M)
noncomputable def d_X4_nearest_77 (x2 : Int64) (M : Mem) : Option (Int32 × Mem) :=
  bnd ((x2 - (1 : Int64))) fun b1 =>
  some ((b1.toInt32), M)
noncomputable def d_X4_nearest_54 (x2 : Int64) (x4 : UInt64) (x6 : Int32) (M : Mem) : Option (Int32 × Mem) :=
  if (Op.cmpValue (FP.dcmp x4 (13826050856027422720 : UInt64)) .g) < 0 then (
    d_X4_nearest_77 x2 M)
  else (
    if (Op.cmpValue (FP.dcmp x4 (13826050856027422720 : UInt64)) .l) = 0 then (
      if x6 = 0 then (
        some ((x2.toInt32), M))
      else (
        d_X4_nearest_77 x2 M))
    else (
      some ((x2.toInt32), M)))
noncomputable def d_X4_nearest_22 (x2 : Int64) (x4 : UInt64) (s0 : Int32) (M : Mem) : Option (Int32 × Mem) :=
  if 0 < (Op.cmpValue (FP.dcmp x4 (4602678819172646912 : UInt64)) .l) then (
    d_X4_nearest_47 x2 M)
  else (
    if (Op.cmpValue (FP.dcmp x4 (4602678819172646912 : UInt64)) .l) = 0 then (
      if s0 = 0 then (
        d_X4_nearest_54 x2 x4 s0 M)
      else (
        d_X4_nearest_47 x2 M))
    else (
      d_X4_nearest_54 x2 x4 s0 M))
noncomputable def d_X4_nearest (x0 : UInt64) (M : Mem) : Option (Int32 × Mem) :=
  bnd ((FP.d2l x0)) fun b1 =>
  bnd ((FP.dsub x0 (FP.l2d b1))) fun b2 =>
  if (lg_cmp (b1 &&& (1 : Int64)) (0 : Int64)) = 0 then (
    d_X4_nearest_22 b1 b2 (0 : Int32) M)
  else (
    d_X4_nearest_22 b1 b2 (1 : Int32) M)
noncomputable def d_X8_round (o : Nat) (x1 : Int32) (M : Mem) : Option (Unit × Mem) :=
  okk (vp_in x1 549) <|
  if (mI M (o + 2) x1.toNatClampNeg) = (102 : Int32) then (
    okk (vp_in x1 549) <|
    (d_X4_nearest (mD M (o + 4) x1.toNatClampNeg) M).bind fun y1 =>
    (d_X8_put o x1 (105 : Int32) y1.1 y1.2).bind fun y2 =>
    some ((), y2.2))
  else (
    some ((), M))
noncomputable def d_X8_realAt (o : Nat) (x1 : Int32) (M : Mem) : Option (UInt64 × Mem) :=
  okk (vp_in x1 549) <|
  if (mI M (o + 2) x1.toNatClampNeg) = (105 : Int32) then (
    okk (vp_in x1 549) <|
    some ((FP.i2d (mI M (o + 3) x1.toNatClampNeg)), M))
  else (
    okk (vp_in x1 549) <|
    some ((mD M (o + 4) x1.toNatClampNeg), M))
noncomputable def d_X8_areEqual_52 (o : Nat) (x1 : Int32) (x2 : Int32) (M : Mem) : Option (Int32 × Mem) :=
  okk (vp_in x1 549) <|
  okk (vp_in x2 549) <|
  if (mI M (o + 2) x1.toNatClampNeg) = (mI M (o + 2) x2.toNatClampNeg) then (
    okk (vp_in x1 549) <|
    okk (vp_in x2 549) <|
    if (mI M (o + 3) x1.toNatClampNeg) = (mI M (o + 3) x2.toNatClampNeg) then (
      some ((1 : Int32), M))
    else (
      some ((0 : Int32), M)))
  else (
    some ((0 : Int32), M))
noncomputable def d_X8_areEqual (o : Nat) (x1 : Int32) (x2 : Int32) (M : Mem) : Option (Int32 × Mem) :=
  (d_X8_isNumber o x1 M).bind fun y1 =>
  if y1.1 = 0 then (
    d_X8_areEqual_52 o x1 x2 y1.2)
  else (
    (d_X8_isNumber o x2 y1.2).bind fun y2 =>
    if y2.1 = 0 then (
      d_X8_areEqual_52 o x1 x2 y2.2)
    else (
      (d_X8_isUndefined o x1 y2.2).bind fun y3 =>
      if y3.1 = 0 then (
        (d_X8_isUndefined o x2 y3.2).bind fun y4 =>
        if y4.1 = 0 then (
          (d_X8_realAt o x1 y4.2).bind fun y5 =>
          (d_X8_realAt o x2 y5.2).bind fun y6 =>
          if (Op.cmpValue (FP.dcmp y5.1 y6.1) .l) = 0 then (
            some ((1 : Int32), y6.2))
          else (
            some ((0 : Int32), y6.2)))
        else (
          some ((0 : Int32), y4.2)))
      else (
        some ((0 : Int32), y3.2))))
noncomputable def d_X4_ofIntegers (x0 : Int32) (x1 : Int64) (x2 : Int64) (M : Mem) : Option (Int64 × Mem) :=
  if x0 = (37 : Int32) then (
    if (lg_cmp x2 (0 : Int64)) = 0 then (
      some ((0 : Int64), M))
    else (
      okk (¬ x2 = 0) <|
      some ((x1 - x1 / x2 * x2), M)))
  else if x0 = (42 : Int32) then (
    some ((x1 * x2), M))
  else if x0 = (43 : Int32) then (
    some ((x1 + x2), M))
  else if x0 = (45 : Int32) then (
    some ((x1 - x2), M))
  else if x0 = (47 : Int32) then (
    if (lg_cmp x2 (0 : Int64)) = 0 then (
      some ((0 : Int64), M))
    else (
      okk (¬ x2 = 0) <|
      some ((x1 / x2), M)))
  else (
    if 0 ≤ (lg_cmp x1 x2) then (
      some ((0 : Int64), M))
    else (
      some ((1 : Int64), M)))
noncomputable def d_X4_isInteger (x0 : Int64) (M : Mem) : Option (Int32 × Mem) :=
  if (lg_cmp x0 (-2147483648 : Int64)) < 0 then (
    some ((0 : Int32), M))
  else (
    if 0 < (lg_cmp x0 (2147483647 : Int64)) then (
      some ((0 : Int32), M))
    else (
      some ((1 : Int32), M)))
noncomputable def d_X8_givesInteger (o : Nat) (x1 : Int32) (x2 : Int32) (x3 : Int32) (M : Mem) : Option (Int32 × Mem) :=
  (d_X8_areIntegers o x2 x3 M).bind fun y1 =>
  if y1.1 = 0 then (
    some ((0 : Int32), y1.2))
  else (
    okk (vp_in x2 549) <|
    okk (vp_in x3 549) <|
    (d_X4_ofIntegers x1 ((mI y1.2 (o + 3) x2.toNatClampNeg).toInt64) ((mI y1.2 (o + 3) x3.toNatClampNeg).toInt64) y1.2).bind fun y2 =>
    (d_X4_isInteger y2.1 y2.2).bind fun y3 =>
    if y3.1 = 0 then (
      some ((0 : Int32), y3.2))
    else (
      some ((1 : Int32), y3.2)))
noncomputable def d_X8_isLess (o : Nat) (x1 : Int32) (x2 : Int32) (M : Mem) : Option (Int32 × Mem) :=
  (d_X8_isUndefined o x1 M).bind fun y1 =>
  if y1.1 = 0 then (
    (d_X8_isUndefined o x2 y1.2).bind fun y2 =>
    if y2.1 = 0 then (
      (d_X8_realAt o x1 y2.2).bind fun y3 =>
      (d_X8_realAt o x2 y3.2).bind fun y4 =>
      if 0 ≤ (Op.cmpValue (FP.dcmp y3.1 y4.1) .g) then (
        some ((0 : Int32), y4.2))
      else (
        some ((1 : Int32), y4.2)))
    else (
      some ((0 : Int32), y2.2)))
  else (
    some ((0 : Int32), y1.2))
noncomputable def d_X4_isEndless (x0 : UInt64) (M : Mem) : Option (Int32 × Mem) :=
  if 0 < (Op.cmpValue (FP.dcmp x0 (9218868437227405311 : UInt64)) .l) then (
    some ((1 : Int32), M))
  else (
    if 0 ≤ (Op.cmpValue (FP.dcmp x0 (18442240474082181119 : UInt64)) .g) then (
      some ((0 : Int32), M))
    else (
      some ((1 : Int32), M)))
noncomputable def d_X4_isUndefined_145 (x1 : UInt64) (x3 : UInt64) (M : Mem) : Option (Int32 × Mem) :=
  if (Op.cmpValue (FP.dcmp x1 FP.dconst0) .l) = 0 then (
    (d_X4_isEndless x3 M).bind fun y1 =>
    if y1.1 = 0 then (
      some ((0 : Int32), y1.2))
    else (
      some ((1 : Int32), y1.2)))
  else (
    some ((0 : Int32), M))
noncomputable def d_X4_isUndefined_87 (s0 : Int32) (s1 : Int32) (M : Mem) : Option (Int32 × Mem) :=
  if s0 = s1 then (
    some ((0 : Int32), M))
  else (
    some ((1 : Int32), M))
noncomputable def d_X4_isUndefined_76 (x3 : UInt64) (s0 : Int32) (M : Mem) : Option (Int32 × Mem) :=
  if (Op.cmpValue (FP.dcmp x3 FP.dconst0) .l) ≤ 0 then (
    d_X4_isUndefined_87 s0 (0 : Int32) M)
  else (
    d_X4_isUndefined_87 s0 (1 : Int32) M)
noncomputable def d_X4_isUndefined_123 (s0 : Int32) (s1 : Int32) (M : Mem) : Option (Int32 × Mem) :=
  if s0 = s1 then (
    some ((1 : Int32), M))
  else (
    some ((0 : Int32), M))
noncomputable def d_X4_isUndefined_112 (x3 : UInt64) (s0 : Int32) (M : Mem) : Option (Int32 × Mem) :=
  if (Op.cmpValue (FP.dcmp x3 FP.dconst0) .l) ≤ 0 then (
    d_X4_isUndefined_123 s0 (0 : Int32) M)
  else (
    d_X4_isUndefined_123 s0 (1 : Int32) M)
noncomputable def d_X4_isUndefined_19 (x0 : Int32) (x1 : UInt64) (x3 : UInt64) (s0 : Int32) (M : Mem) : Option (Int32 × Mem) :=
  if x0 = (42 : Int32) then (
    (d_X4_isEndless x1 M).bind fun y1 =>
    if y1.1 = 0 then (
      d_X4_isUndefined_145 x1 x3 y1.2)
    else (
      if (Op.cmpValue (FP.dcmp x3 FP.dconst0) .l) = 0 then (
        some ((1 : Int32), y1.2))
      else (
        d_X4_isUndefined_145 x1 x3 y1.2)))
  else if x0 = (43 : Int32) then (
    if s0 = 0 then (
      some ((0 : Int32), M))
    else (
      if (Op.cmpValue (FP.dcmp x1 FP.dconst0) .l) ≤ 0 then (
        d_X4_isUndefined_76 x3 (0 : Int32) M)
      else (
        d_X4_isUndefined_76 x3 (1 : Int32) M)))
  else if x0 = (45 : Int32) then (
    if s0 = 0 then (
      some ((0 : Int32), M))
    else (
      if (Op.cmpValue (FP.dcmp x1 FP.dconst0) .l) ≤ 0 then (
        d_X4_isUndefined_112 x3 (0 : Int32) M)
      else (
        d_X4_isUndefined_112 x3 (1 : Int32) M)))
  else if x0 = (47 : Int32) then (
    if s0 = 0 then (
      if (Op.cmpValue (FP.dcmp x1 FP.dconst0) .l) = 0 then (
        if (Op.cmpValue (FP.dcmp x3 FP.dconst0) .l) = 0 then (
          some ((1 : Int32), M))
        else (
          some ((0 : Int32), M)))
      else (
        some ((0 : Int32), M)))
    else (
      some ((1 : Int32), M)))
  else (
    (d_X4_isEndless x1 M).bind fun y2 =>
    if y2.1 = 0 then (
      if (Op.cmpValue (FP.dcmp x3 FP.dconst0) .l) = 0 then (
        some ((1 : Int32), y2.2))
      else (
        some ((0 : Int32), y2.2)))
    else (
      some ((1 : Int32), y2.2)))
noncomputable def d_X4_isUndefined_18 (x0 : Int32) (x1 : UInt64) (x3 : UInt64) (M : Mem) : Option (Int32 × Mem) :=
  d_X4_isUndefined_19 x0 x1 x3 (0 : Int32) M
noncomputable def d_X4_isUndefined (x0 : Int32) (x1 : UInt64) (x2 : UInt64) (M : Mem) : Option (Int32 × Mem) :=
  (d_X4_isEndless x1 M).bind fun y1 =>
  if y1.1 = 0 then (
    d_X4_isUndefined_18 x0 x1 x2 y1.2)
  else (
    (d_X4_isEndless x2 y1.2).bind fun y2 =>
    if y2.1 = 0 then (
      d_X4_isUndefined_18 x0 x1 x2 y2.2)
    else (
      d_X4_isUndefined_19 x0 x1 x2 (1 : Int32) y2.2))
noncomputable def d_X4_rest_131 (x0 : UInt64) (x4 : UInt64) (M : Mem) : Option (UInt64 × Mem) :=
  if 0 ≤ (Op.cmpValue (FP.dcmp x0 FP.dconst0) .g) then (
    some (x4, M))
  else (
    some ((FP.dneg x4), M))
noncomputable def d_X4_rest_115 (k81 : (UInt64 × UInt64 × Int32) → Mem → Option (UInt64 × Mem)) (x0 : UInt64) (x6 : UInt64) (x8 : UInt64) (x10 : Int32) (s0 : UInt64) (M : Mem) : Option (UInt64 × Mem) :=
  bnd ((FP.ddiv x8 (4611686018427387904 : UInt64))) fun b1 =>
  bnd ((x10 + (1 : Int32))) fun b2 =>
  k81 (s0, b1, b2) M
noncomputable def d_X4_rest_81b (k81 : (UInt64 × UInt64 × Int32) → Mem → Option (UInt64 × Mem)) (x0 : UInt64) (x4 : UInt64) (x6 : UInt64) (x8 : UInt64) (x10 : Int32) (M : Mem) : Option (UInt64 × Mem) :=
  if (3000 : Int32) ≤ x10 then (
    d_X4_rest_131 x0 x4 M)
  else (
    if (Op.cmpValue (FP.dcmp x8 x6) .l) < 0 then (
      d_X4_rest_131 x0 x4 M)
    else (
      if (Op.cmpValue (FP.dcmp x4 x8) .l) < 0 then (
        d_X4_rest_115 k81 x0 x6 x8 x10 x4 M)
      else (
        d_X4_rest_115 k81 x0 x6 x8 x10 (FP.dsub x4 x8) M)))
noncomputable def d_X4_rest_81 (x0 : UInt64) (x6 : UInt64) : Nat → (UInt64 × UInt64 × Int32) → Mem → Option (UInt64 × Mem) := lp fun k a M => d_X4_rest_81b k x0 a.1 x6 a.2.1 a.2.2 M
noncomputable def d_X4_rest_78 (x0 : UInt64) (x4 : UInt64) (x6 : UInt64) (x8 : UInt64) (M : Mem) : Option (UInt64 × Mem) :=
  d_X4_rest_81 x0 x6 fuel (x4, x8, (0 : Int32)) M
noncomputable def d_X4_rest_45b (k45 : (UInt64 × Int32) → Mem → Option (UInt64 × Mem)) (x0 : UInt64) (x4 : UInt64) (x6 : UInt64) (x8 : UInt64) (x10 : Int32) (M : Mem) : Option (UInt64 × Mem) :=
  if (3000 : Int32) ≤ x10 then (
    d_X4_rest_78 x0 x4 x6 x8 M)
  else (
    if 0 < (Op.cmpValue (FP.dcmp x8 (FP.dsub x4 x8)) .g) then (
      d_X4_rest_78 x0 x4 x6 x8 M)
    else (
      bnd ((FP.dmul x8 (4611686018427387904 : UInt64))) fun b1 =>
      bnd ((x10 + (1 : Int32))) fun b2 =>
      k45 (b1, b2) M))
noncomputable def d_X4_rest_45 (x0 : UInt64) (x4 : UInt64) (x6 : UInt64) : Nat → (UInt64 × Int32) → Mem → Option (UInt64 × Mem) := lp fun k a M => d_X4_rest_45b k x0 x4 x6 a.1 a.2 M
noncomputable def d_X4_rest_26 (x0 : UInt64) (x4 : UInt64) (s0 : UInt64) (M : Mem) : Option (UInt64 × Mem) :=
  if 0 ≤ (Op.cmpValue (FP.dcmp x4 s0) .g) then (
    d_X4_rest_45 x0 x4 s0 fuel (s0, (0 : Int32)) M)
  else (
    some (x0, M))
noncomputable def d_X4_rest_12 (x0 : UInt64) (x2 : UInt64) (s0 : UInt64) (M : Mem) : Option (UInt64 × Mem) :=
  if 0 ≤ (Op.cmpValue (FP.dcmp x2 FP.dconst0) .g) then (
    d_X4_rest_26 x0 s0 x2 M)
  else (
    d_X4_rest_26 x0 s0 (FP.dneg x2) M)
noncomputable def d_X4_rest (x0 : UInt64) (x1 : UInt64) (M : Mem) : Option (UInt64 × Mem) :=
  if 0 ≤ (Op.cmpValue (FP.dcmp x0 FP.dconst0) .g) then (
    d_X4_rest_12 x0 x1 x0 M)
  else (
    d_X4_rest_12 x0 x1 (FP.dneg x0) M)
noncomputable def d_X4_ofFloats (x0 : Int32) (x1 : UInt64) (x2 : UInt64) (M : Mem) : Option (UInt64 × Mem) :=
  if x0 = (42 : Int32) then (
    some ((FP.dmul x1 x2), M))
  else if x0 = (43 : Int32) then (
    some ((FP.dadd x1 x2), M))
  else if x0 = (45 : Int32) then (
    some ((FP.dsub x1 x2), M))
  else if x0 = (47 : Int32) then (
    some ((FP.ddiv x1 x2), M))
  else (
    (d_X4_rest x1 x2 M).bind fun y1 =>
    some (y1.1, y1.2))
noncomputable def d_X8_putReal (o : Nat) (x1 : Int32) (x2 : UInt64) (M : Mem) : Option (Unit × Mem) :=
  (d_X8_put o x1 (102 : Int32) (0 : Int32) M).bind fun y1 =>
  okk (vp_in x1 549) <|
  bnd (sD y1.2 (o + 4) x1.toNatClampNeg x2) fun M1 =>
  some ((), M1)
noncomputable def d_X8_combineReals_41 (o : Nat) (x2 : Int32) (M : Mem) : Option (Unit × Mem) :=
  (d_X8_put o x2 (102 : Int32) (1 : Int32) M).bind fun y1 =>
  some ((), y1.2)
noncomputable def d_X8_combineReals (o : Nat) (x1 : Int32) (x2 : Int32) (x3 : Int32) (M : Mem) : Option (Unit × Mem) :=
  (d_X8_realAt o x2 M).bind fun y1 =>
  (d_X8_realAt o x3 y1.2).bind fun y2 =>
  (d_X8_isUndefined o x2 y2.2).bind fun y3 =>
  if y3.1 = 0 then (
    (d_X8_isUndefined o x3 y3.2).bind fun y4 =>
    if y4.1 = 0 then (
      (d_X4_isUndefined x1 y1.1 y2.1 y4.2).bind fun y5 =>
      if y5.1 = 0 then (
        (d_X4_ofFloats x1 y1.1 y2.1 y5.2).bind fun y6 =>
        (d_X8_putReal o x2 y6.1 y6.2).bind fun y7 =>
        some ((), y7.2))
      else (
        d_X8_combineReals_41 o x2 y5.2))
    else (
      d_X8_combineReals_41 o x2 y4.2))
  else (
    d_X8_combineReals_41 o x2 y3.2)
noncomputable def d_X8_combine (o : Nat) (x1 : Int32) (x2 : Int32) (x3 : Int32) (M : Mem) : Option (Unit × Mem) :=
  if x1 = (61 : Int32) then (
    (d_X8_areEqual o x2 x3 M).bind fun y8 =>
    if y8.1 = 0 then (
      (d_X8_put o x2 (105 : Int32) (0 : Int32) y8.2).bind fun y9 =>
      some ((), y9.2))
    else (
      (d_X8_put o x2 (105 : Int32) (1 : Int32) y8.2).bind fun y10 =>
      some ((), y10.2)))
  else (
    (d_X8_givesInteger o x1 x2 x3 M).bind fun y1 =>
    if y1.1 = 0 then (
      if x1 = (60 : Int32) then (
        (d_X8_isLess o x2 x3 y1.2).bind fun y3 =>
        if y3.1 = 0 then (
          (d_X8_put o x2 (105 : Int32) (0 : Int32) y3.2).bind fun y4 =>
          some ((), y4.2))
        else (
          (d_X8_put o x2 (105 : Int32) (1 : Int32) y3.2).bind fun y5 =>
          some ((), y5.2)))
      else (
        (d_X8_combineReals o x1 x2 x3 y1.2).bind fun y2 =>
        some ((), y2.2)))
    else (
      okk (vp_in x2 549) <|
      okk (vp_in x3 549) <|
      (d_X4_ofIntegers x1 ((mI y1.2 (o + 3) x2.toNatClampNeg).toInt64) ((mI y1.2 (o + 3) x3.toNatClampNeg).toInt64) y1.2).bind fun y6 =>
      (d_X8_put o x2 (105 : Int32) (y6.1.toInt32) y6.2).bind fun y7 =>
      some ((), y7.2)))
noncomputable def d_X3_useStack (o : Nat) (x1 : Int32) (x2 : Int32) (M : Mem) : Option (Unit × Mem) :=
  if x1 = (100 : Int32) then (
    (d_X3_take o M).bind fun y1 =>
    some ((), y1.2))
  else if x1 = (105 : Int32) then (
    (d_X3_pushPut o (105 : Int32) x2 M).bind fun y2 =>
    some ((), y2.2))
  else if x1 = (107 : Int32) then (
    okk (vp_in x2 8) <|
    (d_X3_pushPut o (105 : Int32) (mI M 8 x2.toNatClampNeg) M).bind fun y3 =>
    some ((), y3.2))
  else if x1 = (108 : Int32) then (
    (d_X11_localPlace ((mI M o 9) - (1 : Int32)) x2 M).bind fun y4 =>
    (d_X3_pushMoved o y4.1 y4.2).bind fun y5 =>
    some ((), y5.2))
  else if x1 = (115 : Int32) then (
    (d_X3_take o M).bind fun y6 =>
    (d_X11_localPlace ((mI y6.2 o 9) - (1 : Int32)) x2 y6.2).bind fun y7 =>
    (d_X8_move o y6.1 y7.1 y7.2).bind fun y8 =>
    some ((), y8.2))
  else if x1 = (116 : Int32) then (
    (d_X3_take o M).bind fun y9 =>
    (d_X3_tell o y9.1 y9.2).bind fun y10 =>
    some ((), y10.2))
  else if x1 = (117 : Int32) then (
    (d_X3_fromTop o (1 : Int32) M).bind fun y11 =>
    (d_X3_pushMoved o y11.1 y11.2).bind fun y12 =>
    some ((), y12.2))
  else if x1 = (119 : Int32) then (
    (d_X3_fromTop o (1 : Int32) M).bind fun y13 =>
    (d_X8_round o y13.1 y13.2).bind fun y14 =>
    some ((), y14.2))
  else (
    (d_X3_fromTop o (2 : Int32) M).bind fun y15 =>
    (d_X3_fromTop o (1 : Int32) y15.2).bind fun y16 =>
    (d_X8_combine o x1 y15.1 y16.1 y16.2).bind fun y17 =>
    (d_X3_take o y17.2).bind fun y18 =>
    some ((), y18.2))
noncomputable def d_X3_execute (o : Nat) (M : Mem) : Option (Int32 × Mem) :=
  bnd (((mI M o 9) - (1 : Int32))) fun b1 =>
  okk (vp_in b1 12) <|
  bnd ((mI M (o + 7) b1.toNatClampNeg)) fun b2 =>
  bnd ((mI M o 8)) fun b3 =>
  bnd (sI M o 12 ((mI M o 12) + (1 : Int32))) fun M1 =>
  okk (vp_in b1 12) <|
  bnd (sI M1 (o + 7) b1.toNatClampNeg (b2 + (1 : Int32))) fun M2 =>
  bnd ((mI M2 o 7)) fun b4 =>
  if b4 = (99 : Int32) then (
    okk (vp_in b3 8) <|
    (d_X3_call o b3 (mI M2 3 b3.toNatClampNeg) M2).bind fun y1 =>
    some ((0 : Int32), y1.2))
  else if b4 = (103 : Int32) ∨ b4 = (110 : Int32) ∨ b4 = (112 : Int32) then (
    (d_X3_useObject o (mI M2 o 7) b3 M2).bind fun y2 =>
    some ((0 : Int32), y2.2))
  else if b4 = (106 : Int32) then (
    okk (vp_in b1 12) <|
    bnd (sI M2 (o + 7) b1.toNatClampNeg b3) fun M3 =>
    if b2 < b3 then (
      some ((0 : Int32), M3))
    else (
      some ((1 : Int32), M3)))
  else if b4 = (109 : Int32) then (
    (d_X3_classFromTop o M2).bind fun y3 =>
    (d_X5_methodOf y3.1 b3 y3.2).bind fun y4 =>
    (d_X3_call o y4.1 (1 : Int32) y4.2).bind fun y5 =>
    some ((0 : Int32), y5.2))
  else if b4 = (114 : Int32) then (
    (d_X3_giveBack o M2).bind fun y6 =>
    some ((0 : Int32), y6.2))
  else if b4 = (122 : Int32) then (
    (d_X3_jumpsAtNull o b3 b2 M2).bind fun y7 =>
    okk (isBo y7.1) <|
    some (y7.1, y7.2))
  else (
    (d_X3_useStack o (mI M2 o 7) b3 M2).bind fun y8 =>
    some ((0 : Int32), y8.2))
noncomputable def d_X3_runOut_53 (k2 : (Int32) → Mem → Option (Unit × Mem)) (o : Nat) (x1 : Int32) (M : Mem) : Option (Unit × Mem) :=
  bnd ((x1 + (1 : Int32))) fun b1 =>
  k2 (b1) M
noncomputable def d_X3_runOut_2b (k2 : (Int32) → Mem → Option (Unit × Mem)) (o : Nat) (x1 : Int32) (M : Mem) : Option (Unit × Mem) :=
  if (1000000 : Int32) ≤ x1 then (
    some ((), M))
  else (
    (d_X3_isRunning o M).bind fun y1 =>
    if y1.1 = 0 then (
      some ((), y1.2))
    else (
      (d_X3_isAtLimit o y1.2).bind fun y2 =>
      if y2.1 = 0 then (
        (d_X3_failureAhead o y2.2).bind fun y3 =>
        if y3.1 = (45 : Int32) then (
          (d_X3_execute o y3.2).bind fun y4 =>
          d_X3_runOut_53 k2 o x1 y4.2)
        else (
          (d_X3_failWith o y3.1 y3.2).bind fun y5 =>
          d_X3_runOut_53 k2 o x1 y5.2))
      else (
        (d_X3_endAtLimit o y2.2).bind fun y6 =>
        d_X3_runOut_53 k2 o x1 y6.2)))
noncomputable def d_X3_runOut_2 (o : Nat) : Nat → (Int32) → Mem → Option (Unit × Mem) := lp fun k a M => d_X3_runOut_2b k o a M
noncomputable def d_X3_runOut (o : Nat) (M : Mem) : Option (Unit × Mem) :=
  d_X3_runOut_2 o fuel ((0 : Int32)) M
noncomputable def d_X3_answerTo (o : Nat) (x1 : Int32) (x2 : Int32) (M : Mem) : Option (Int32 × Mem) :=
  (d_X3_fromTop o x2 M).bind fun y1 =>
  if x1 = (107 : Int32) then (
    okk (vp_in y1.1 549) <|
    some ((mI y1.2 (o + 2) y1.1.toNatClampNeg), y1.2))
  else if x1 = (111 : Int32) then (
    (d_X3_fromTop o (1 : Int32) y1.2).bind fun y2 =>
    (d_X8_givesInteger o (mI y1.2 o 7) y1.1 y2.1 y2.2).bind fun y3 =>
    if y3.1 = 0 then (
      some ((0 : Int32), y3.2))
    else (
      some ((1 : Int32), y3.2)))
  else if x1 = (115 : Int32) then (
    (d_X3_shapeFromTop o x2 y1.2).bind fun y4 =>
    some (y4.1, y4.2))
  else (
    (d_X8_isNull o y1.1 y1.2).bind fun y5 =>
    if y5.1 = 0 then (
      some ((0 : Int32), y5.2))
    else (
      some ((1 : Int32), y5.2)))
noncomputable def d_X4_isNegative (x0 : UInt64) (M : Mem) : Option (Int32 × Mem) :=
  if (Op.cmpValue (FP.dcmp x0 FP.dconst0) .g) < 0 then (
    some ((1 : Int32), M))
  else (
    if (Op.cmpValue (FP.dcmp x0 FP.dconst0) .l) = 0 then (
      if 0 ≤ (Op.cmpValue (FP.dcmp (FP.ddiv FP.dconst1 x0) FP.dconst0) .g) then (
        some ((0 : Int32), M))
      else (
        some ((1 : Int32), M)))
    else (
      some ((0 : Int32), M)))
noncomputable def d_X8_isSame (x1 : Int32) (M : Mem) : Option (Int32 × Mem) :=
  okk (vp_in x1 549) <|
  okk (vp_in x1 549) <|
  if (mI M 20 x1.toNatClampNeg) = (mI M 30 x1.toNatClampNeg) then (
    okk (vp_in x1 549) <|
    okk (vp_in x1 549) <|
    if (mI M 21 x1.toNatClampNeg) = (mI M 31 x1.toNatClampNeg) then (
      okk (vp_in x1 549) <|
      okk (vp_in x1 549) <|
      if (Op.cmpValue (FP.dcmp (mD M 22 x1.toNatClampNeg) (mD M 32 x1.toNatClampNeg)) .l) = 0 then (
        okk (vp_in x1 549) <|
        (d_X4_isNegative (mD M 22 x1.toNatClampNeg) M).bind fun y1 =>
        okk (vp_in x1 549) <|
        (d_X4_isNegative (mD y1.2 32 x1.toNatClampNeg) y1.2).bind fun y2 =>
        if y1.1 = y2.1 then (
          some ((1 : Int32), y2.2))
        else (
          some ((0 : Int32), y2.2)))
      else (
        some ((0 : Int32), M)))
    else (
      some ((0 : Int32), M)))
  else (
    some ((0 : Int32), M))
noncomputable def d_X3_hasToldLike_55 (k19 : (Int32 × Int32) → Mem → Option (Int32 × Mem)) (x3 : Int32) (s0 : Int32) (M : Mem) : Option (Int32 × Mem) :=
  bnd ((x3 + (1 : Int32))) fun b1 =>
  k19 (s0, b1) M
noncomputable def d_X3_hasToldLike_54 (k19 : (Int32 × Int32) → Mem → Option (Int32 × Mem)) (x3 : Int32) (M : Mem) : Option (Int32 × Mem) :=
  d_X3_hasToldLike_55 k19 x3 (0 : Int32) M
noncomputable def d_X3_hasToldLike_19b (k19 : (Int32 × Int32) → Mem → Option (Int32 × Mem)) (x2 : Int32) (x3 : Int32) (M : Mem) : Option (Int32 × Mem) :=
  if (mI M 18 11) ≤ x3 then (
    okk (isBo x2) <|
    some (x2, M))
  else (
    if x2 = 0 then (
      d_X3_hasToldLike_54 k19 x3 M)
    else (
      (d_X8_isSame ((528 : Int32) + x3) M).bind fun y1 =>
      if y1.1 = 0 then (
        d_X3_hasToldLike_54 k19 x3 y1.2)
      else (
        d_X3_hasToldLike_55 k19 x3 (1 : Int32) y1.2)))
noncomputable def d_X3_hasToldLike_19 : Nat → (Int32 × Int32) → Mem → Option (Int32 × Mem) := lp fun k a M => d_X3_hasToldLike_19b k a.1 a.2 M
noncomputable def d_X3_hasToldLike_16 (s0 : Int32) (M : Mem) : Option (Int32 × Mem) :=
  d_X3_hasToldLike_19 fuel (s0, (0 : Int32)) M
noncomputable def d_X3_hasToldLike (M : Mem) : Option (Int32 × Mem) :=
  if (mI M 18 11) = (mI M 28 11) then (
    d_X3_hasToldLike_16 (1 : Int32) M)
  else (
    d_X3_hasToldLike_16 (0 : Int32) M)
noncomputable def d_X3_hasFieldsLike_60 (k5 : (Int32 × Int32) → Mem → Option (Int32 × Mem)) (x1 : Int32) (x3 : Int32) (x4 : Int32) (M : Mem) : Option (Int32 × Mem) :=
  bnd ((x4 + (1 : Int32))) fun b1 =>
  k5 (x3, b1) M
noncomputable def d_X3_hasFieldsLike_59 (k5 : (Int32 × Int32) → Mem → Option (Int32 × Mem)) (x1 : Int32) (x4 : Int32) (s0 : Int32) (M : Mem) : Option (Int32 × Mem) :=
  d_X3_hasFieldsLike_60 k5 x1 s0 x4 M
noncomputable def d_X3_hasFieldsLike_58 (k5 : (Int32 × Int32) → Mem → Option (Int32 × Mem)) (x1 : Int32) (x4 : Int32) (M : Mem) : Option (Int32 × Mem) :=
  d_X3_hasFieldsLike_59 k5 x1 x4 (0 : Int32) M
noncomputable def d_X3_hasFieldsLike_5b (k5 : (Int32 × Int32) → Mem → Option (Int32 × Mem)) (x1 : Int32) (x3 : Int32) (x4 : Int32) (M : Mem) : Option (Int32 × Mem) :=
  if (6 : Int32) ≤ x4 then (
    okk (isBo x3) <|
    some (x3, M))
  else (
    okk (vp_in x1 60) <|
    (d_X7_has (mI M 27 x1.toNatClampNeg) x4 M).bind fun y1 =>
    if y1.1 = 0 then (
      d_X3_hasFieldsLike_60 k5 x1 x3 x4 y1.2)
    else (
      if x3 = 0 then (
        d_X3_hasFieldsLike_58 k5 x1 x4 y1.2)
      else (
        (d_X11_fieldPlace x1 x4 y1.2).bind fun y2 =>
        (d_X8_isSame y2.1 y2.2).bind fun y3 =>
        if y3.1 = 0 then (
          d_X3_hasFieldsLike_58 k5 x1 x4 y3.2)
        else (
          d_X3_hasFieldsLike_59 k5 x1 x4 (1 : Int32) y3.2))))
noncomputable def d_X3_hasFieldsLike_5 (x1 : Int32) : Nat → (Int32 × Int32) → Mem → Option (Int32 × Mem) := lp fun k a M => d_X3_hasFieldsLike_5b k x1 a.1 a.2 M
noncomputable def d_X3_hasFieldsLike (x1 : Int32) (M : Mem) : Option (Int32 × Mem) :=
  d_X3_hasFieldsLike_5 x1 fuel ((1 : Int32), (0 : Int32)) M
noncomputable def d_X3_hasObjectsLike_60 (k19 : (Int32 × Int32) → Mem → Option (Int32 × Mem)) (x3 : Int32) (s0 : Int32) (M : Mem) : Option (Int32 × Mem) :=
  bnd ((x3 + (1 : Int32))) fun b1 =>
  k19 (s0, b1) M
noncomputable def d_X3_hasObjectsLike_59 (k19 : (Int32 × Int32) → Mem → Option (Int32 × Mem)) (x3 : Int32) (M : Mem) : Option (Int32 × Mem) :=
  d_X3_hasObjectsLike_60 k19 x3 (0 : Int32) M
noncomputable def d_X3_hasObjectsLike_19b (k19 : (Int32 × Int32) → Mem → Option (Int32 × Mem)) (x2 : Int32) (x3 : Int32) (M : Mem) : Option (Int32 × Mem) :=
  if (mI M 18 10) ≤ x3 then (
    okk (isBo x2) <|
    some (x2, M))
  else (
    if x2 = 0 then (
      d_X3_hasObjectsLike_59 k19 x3 M)
    else (
      okk (vp_in x3 60) <|
      okk (vp_in x3 60) <|
      if (mI M 27 x3.toNatClampNeg) = (mI M 37 x3.toNatClampNeg) then (
        (d_X3_hasFieldsLike x3 M).bind fun y1 =>
        if y1.1 = 0 then (
          d_X3_hasObjectsLike_59 k19 x3 y1.2)
        else (
          d_X3_hasObjectsLike_60 k19 x3 (1 : Int32) y1.2))
      else (
        d_X3_hasObjectsLike_59 k19 x3 M)))
noncomputable def d_X3_hasObjectsLike_19 : Nat → (Int32 × Int32) → Mem → Option (Int32 × Mem) := lp fun k a M => d_X3_hasObjectsLike_19b k a.1 a.2 M
noncomputable def d_X3_hasObjectsLike_16 (s0 : Int32) (M : Mem) : Option (Int32 × Mem) :=
  d_X3_hasObjectsLike_19 fuel (s0, (0 : Int32)) M
noncomputable def d_X3_hasObjectsLike (M : Mem) : Option (Int32 × Mem) :=
  if (mI M 18 10) = (mI M 28 10) then (
    d_X3_hasObjectsLike_16 (1 : Int32) M)
  else (
    d_X3_hasObjectsLike_16 (0 : Int32) M)
noncomputable def d_X3_endedLike_70 (M : Mem) : Option (Int32 × Mem) :=
  (d_X3_hasToldLike M).bind fun y1 =>
  if y1.1 = 0 then (
    some ((0 : Int32), y1.2))
  else (
    (d_X3_hasObjectsLike y1.2).bind fun y2 =>
    if y2.1 = 0 then (
      some ((0 : Int32), y2.2))
    else (
      some ((1 : Int32), y2.2)))
noncomputable def d_X3_endedLike (M : Mem) : Option (Int32 × Mem) :=
  if (mI M 18 13) = (mI M 28 13) then (
    if (mI M 18 14) = (mI M 28 14) then (
      if (mI M 18 15) = (mI M 28 15) then (
        if (mI M 18 12) = (mI M 28 12) then (
          if (mI M 18 13) = (118 : Int32) then (
            (d_X8_isSame (548 : Int32) M).bind fun y1 =>
            if y1.1 = 0 then (
              some ((0 : Int32), y1.2))
            else (
              d_X3_endedLike_70 y1.2))
          else (
            d_X3_endedLike_70 M))
        else (
          some ((0 : Int32), M)))
      else (
        some ((0 : Int32), M)))
    else (
      some ((0 : Int32), M)))
  else (
    some ((0 : Int32), M))
noncomputable def d_X4_bitsOf_142 (x2 : Int64) (x4 : UInt64) (x6 : Int64) (M : Mem) : Option (Int64 × Mem) :=
  bnd ((FP.d2l x4)) fun b1 =>
  if 0 ≤ (lg_cmp b1 (4503599627370496 : Int64)) then (
    some (((x2 ||| (x6 <<< ((52 : Int32).toInt64 &&& 63))) ||| (b1 &&& (4503599627370495 : Int64))), M))
  else (
    some ((x2 ||| b1), M))
noncomputable def d_X4_bitsOf_98b (k98 : (UInt64 × Int64 × Int32) → Mem → Option (Int64 × Mem)) (x2 : Int64) (x4 : UInt64) (x6 : Int64) (x8 : Int32) (M : Mem) : Option (Int64 × Mem) :=
  if (2000 : Int32) ≤ x8 then (
    d_X4_bitsOf_142 x2 x4 x6 M)
  else (
    if 0 ≤ (Op.cmpValue (FP.dcmp x4 (4841369599423283200 : UInt64)) .g) then (
      d_X4_bitsOf_142 x2 x4 x6 M)
    else (
      if (lg_cmp x6 (1 : Int64)) ≤ 0 then (
        d_X4_bitsOf_142 x2 x4 x6 M)
      else (
        bnd ((FP.dmul x4 (4611686018427387904 : UInt64))) fun b1 =>
        bnd ((x6 - (1 : Int64))) fun b2 =>
        bnd ((x8 + (1 : Int32))) fun b3 =>
        k98 (b1, b2, b3) M)))
noncomputable def d_X4_bitsOf_98 (x2 : Int64) : Nat → (UInt64 × Int64 × Int32) → Mem → Option (Int64 × Mem) := lp fun k a M => d_X4_bitsOf_98b k x2 a.1 a.2.1 a.2.2 M
noncomputable def d_X4_bitsOf_95 (x2 : Int64) (x4 : UInt64) (x6 : Int64) (M : Mem) : Option (Int64 × Mem) :=
  d_X4_bitsOf_98 x2 fuel (x4, x6, (0 : Int32)) M
noncomputable def d_X4_bitsOf_58b (k58 : (UInt64 × Int64 × Int32) → Mem → Option (Int64 × Mem)) (x2 : Int64) (x4 : UInt64) (x6 : Int64) (x8 : Int32) (M : Mem) : Option (Int64 × Mem) :=
  if (2000 : Int32) ≤ x8 then (
    d_X4_bitsOf_95 x2 x4 x6 M)
  else (
    if (Op.cmpValue (FP.dcmp x4 (4845873199050653696 : UInt64)) .l) < 0 then (
      d_X4_bitsOf_95 x2 x4 x6 M)
    else (
      bnd ((FP.ddiv x4 (4611686018427387904 : UInt64))) fun b1 =>
      bnd ((x6 + (1 : Int64))) fun b2 =>
      bnd ((x8 + (1 : Int32))) fun b3 =>
      k58 (b1, b2, b3) M))
noncomputable def d_X4_bitsOf_58 (x2 : Int64) : Nat → (UInt64 × Int64 × Int32) → Mem → Option (Int64 × Mem) := lp fun k a M => d_X4_bitsOf_58b k x2 a.1 a.2.1 a.2.2 M
noncomputable def d_X4_bitsOf_48 (x2 : Int64) (s0 : UInt64) (M : Mem) : Option (Int64 × Mem) :=
  bnd ((1075 : Int64)) fun b1 =>
  d_X4_bitsOf_58 x2 fuel (s0, b1, (0 : Int32)) M
noncomputable def d_X4_bitsOf_14 (x0 : UInt64) (s0 : Int64) (M : Mem) : Option (Int64 × Mem) :=
  if (Op.cmpValue (FP.dcmp x0 FP.dconst0) .l) = 0 then (
    some (s0, M))
  else (
    (d_X4_isEndless x0 M).bind fun y1 =>
    if y1.1 = 0 then (
      if 0 ≤ (Op.cmpValue (FP.dcmp x0 FP.dconst0) .g) then (
        d_X4_bitsOf_48 s0 x0 y1.2)
      else (
        d_X4_bitsOf_48 s0 (FP.dneg x0) y1.2))
    else (
      some ((s0 ||| (9218868437227405312 : Int64)), y1.2)))
noncomputable def d_X4_bitsOf (x0 : UInt64) (M : Mem) : Option (Int64 × Mem) :=
  (d_X4_isNegative x0 M).bind fun y1 =>
  if y1.1 = 0 then (
    d_X4_bitsOf_14 x0 (0 : Int64) y1.2)
  else (
    d_X4_bitsOf_14 x0 (-9223372036854775808 : Int64) y1.2)
noncomputable def d_X5_init (r0 : Nat) (M : Mem) : Option (Unit × Mem) :=
  bnd (nx M) fun r_1 => okk (r_1 < 2147483648) <|
  bnd (sN M r_1 21 8) fun M1 =>
  okk (mK M1 r0 = 5) <|
  bnd (sR M1 r0 0 (some r_1)) fun M2 =>
  bnd (nx M2) fun r_2 => okk (r_2 < 2147483648) <|
  bnd (sN M2 r_2 21 8) fun M3 =>
  okk (mK M3 r0 = 5) <|
  bnd (sR M3 r0 1 (some r_2)) fun M4 =>
  bnd (nx M4) fun r_3 => okk (r_3 < 2147483648) <|
  bnd (sN M4 r_3 21 8) fun M5 =>
  okk (mK M5 r0 = 5) <|
  bnd (sR M5 r0 2 (some r_3)) fun M6 =>
  bnd (nx M6) fun r_4 => okk (r_4 < 2147483648) <|
  bnd (sN M6 r_4 22 320) fun M7 =>
  okk (mK M7 r0 = 5) <|
  bnd (sR M7 r0 3 (some r_4)) fun M8 =>
  bnd (nx M8) fun r_5 => okk (r_5 < 2147483648) <|
  bnd (sN M8 r_5 21 320) fun M9 =>
  okk (mK M9 r0 = 5) <|
  bnd (sR M9 r0 4 (some r_5)) fun M10 =>
  bnd (nx M10) fun r_6 => okk (r_6 < 2147483648) <|
  bnd (sN M10 r_6 21 8) fun M11 =>
  okk (mK M11 r0 = 5) <|
  bnd (sR M11 r0 5 (some r_6)) fun M12 =>
  bnd (nx M12) fun r_7 => okk (r_7 < 2147483648) <|
  bnd (sN M12 r_7 21 5) fun M13 =>
  okk (mK M13 r0 = 5) <|
  bnd (sR M13 r0 6 (some r_7)) fun M14 =>
  bnd (nx M14) fun r_8 => okk (r_8 < 2147483648) <|
  bnd (sN M14 r_8 21 30) fun M15 =>
  okk (mK M15 r0 = 5) <|
  bnd (sR M15 r0 7 (some r_8)) fun M16 =>
  okk (mK M16 r0 = 5) <|
  (mR M16 r0 2).bind fun r_9 =>
  (d_J7_fill_53178 r_9 (-1 : Int32) M16).bind fun y1 =>
  okk (mK y1.2 r0 = 5) <|
  (mR y1.2 r0 7).bind fun r_10 =>
  (d_J7_fill_53178 r_10 (-1 : Int32) y1.2).bind fun y2 =>
  some ((), y2.2)
noncomputable def d_X5_hasFunction (x1 : Int32) (M : Mem) : Option (Int32 × Mem) :=
  if x1 < 0 then (
    some ((0 : Int32), M))
  else (
    if (mI M 2 8) ≤ x1 then (
      some ((0 : Int32), M))
    else (
      some ((1 : Int32), M)))
noncomputable def d_X5_hasClass (x1 : Int32) (M : Mem) : Option (Int32 × Mem) :=
  if x1 < 0 then (
    some ((0 : Int32), M))
  else (
    if (mI M 2 9) ≤ x1 then (
      some ((0 : Int32), M))
    else (
      some ((1 : Int32), M)))
noncomputable def d_X5_addFunctionWith (x1 : Int32) (M : Mem) : Option (Int32 × Mem) :=
  okk (vp_in (mI M 2 8) 8) <|
  bnd (sI M 3 (mI M 2 8).toNatClampNeg x1) fun M1 =>
  bnd (sI M1 2 8 ((mI M1 2 8) + (1 : Int32))) fun M2 =>
  some (((mI M2 2 8) - (1 : Int32)), M2)
noncomputable def d_X5_addClassBelow (x1 : Int32) (M : Mem) : Option (Int32 × Mem) :=
  okk (vp_in (mI M 2 9) 5) <|
  bnd (sI M 9 (mI M 2 9).toNatClampNeg x1) fun M1 =>
  bnd (sI M1 2 9 ((mI M1 2 9) + (1 : Int32))) fun M2 =>
  some (((mI M2 2 9) - (1 : Int32)), M2)
noncomputable def d_X5_append (x1 : Int32) (x2 : Int32) (x3 : Int32) (M : Mem) : Option (Int32 × Mem) :=
  okk (vp_in x1 8) <|
  (d_X11_siteOf x1 (mI M 4 x1.toNatClampNeg) M).bind fun y1 =>
  okk (vp_in y1.1 320) <|
  okk (isCh x2) <|
  bnd (sI y1.2 6 y1.1.toNatClampNeg x2) fun M1 =>
  okk (vp_in y1.1 320) <|
  bnd (sI M1 7 y1.1.toNatClampNeg x3) fun M2 =>
  okk (vp_in x1 8) <|
  okk (vp_in x1 8) <|
  bnd (sI M2 4 x1.toNatClampNeg ((mI M2 4 x1.toNatClampNeg) + (1 : Int32))) fun M3 =>
  okk (vp_in x1 8) <|
  some ((mI M3 4 x1.toNatClampNeg), M3)
noncomputable def d_X5_operandBound (x1 : Int32) (M : Mem) : Option (Int32 × Mem) :=
  if x1 = (99 : Int32) then (
    some ((mI M 2 8), M))
  else if x1 = (103 : Int32) ∨ x1 = (109 : Int32) ∨ x1 = (112 : Int32) then (
    some ((6 : Int32), M))
  else if x1 = (106 : Int32) ∨ x1 = (122 : Int32) then (
    some ((40 : Int32), M))
  else if x1 = (107 : Int32) then (
    some ((8 : Int32), M))
  else if x1 = (108 : Int32) ∨ x1 = (115 : Int32) then (
    some ((6 : Int32), M))
  else if x1 = (110 : Int32) then (
    some ((mI M 2 9), M))
  else (
    some ((1 : Int32), M))
noncomputable def d_X5_allowsOperand (x1 : Int32) (x2 : Int32) (M : Mem) : Option (Int32 × Mem) :=
  if x1 = (105 : Int32) then (
    some ((1 : Int32), M))
  else (
    if x2 < 0 then (
      some ((0 : Int32), M))
    else (
      (d_X5_operandBound x1 M).bind fun y1 =>
      if y1.1 ≤ x2 then (
        some ((0 : Int32), y1.2))
      else (
        some ((1 : Int32), y1.2))))
noncomputable def d_X6_init (r0 : Nat) (M : Mem) : Option (Unit × Mem) :=
  bnd (nx M) fun r_1 => okk (r_1 < 2147483648) <|
  bnd (sN M r_1 21 30) fun M1 =>
  okk (mK M1 r0 = 6) <|
  bnd (sR M1 r0 0 (some r_1)) fun M2 =>
  bnd (nx M2) fun r_2 => okk (r_2 < 2147483648) <|
  bnd (sN M2 r_2 21 31) fun M3 =>
  okk (mK M3 r0 = 6) <|
  bnd (sR M3 r0 1 (some r_2)) fun M4 =>
  bnd (nx M4) fun r_3 => okk (r_3 < 2147483648) <|
  bnd (sN M4 r_3 21 120) fun M5 =>
  okk (mK M5 r0 = 6) <|
  bnd (sR M5 r0 2 (some r_3)) fun M6 =>
  bnd (nx M6) fun r_4 => okk (r_4 < 2147483648) <|
  bnd (sN M6 r_4 21 120) fun M7 =>
  okk (mK M7 r0 = 6) <|
  bnd (sR M7 r0 3 (some r_4)) fun M8 =>
  bnd (nx M8) fun r_5 => okk (r_5 < 2147483648) <|
  bnd (sN M8 r_5 21 120) fun M9 =>
  okk (mK M9 r0 = 6) <|
  bnd (sR M9 r0 4 (some r_5)) fun M10 =>
  bnd (nx M10) fun r_6 => okk (r_6 < 2147483648) <|
  bnd (sN M10 r_6 21 120) fun M11 =>
  okk (mK M11 r0 = 6) <|
  bnd (sR M11 r0 5 (some r_6)) fun M12 =>
  bnd (nx M12) fun r_7 => okk (r_7 < 2147483648) <|
  bnd (sN M12 r_7 21 378) fun M13 =>
  okk (mK M13 r0 = 6) <|
  bnd (sR M13 r0 6 (some r_7)) fun M14 =>
  some ((), M14)
noncomputable def d_X6_begin_28b (k28 : (Int32) → Mem → Option (Unit × Mem)) (x4 : Int32) (M : Mem) : Option (Unit × Mem) :=
  if (168 : Int32) ≤ x4 then (
    bnd (sI M 48 9 (168 : Int32)) fun M1 =>
    some ((), M1))
  else (
    okk (vp_in x4 549) <|
    bnd (sI M 23 x4.toNatClampNeg x4) fun M2 =>
    okk (vp_in x4 378) <|
    bnd (sI M2 55 x4.toNatClampNeg (0 : Int32)) fun M3 =>
    bnd ((x4 + (1 : Int32))) fun b1 =>
    k28 (b1) M3)
noncomputable def d_X6_begin_28 : Nat → (Int32) → Mem → Option (Unit × Mem) := lp fun k a M => d_X6_begin_28b k a M
noncomputable def d_X6_begin (x2 : Int32) (x3 : Int32) (M : Mem) : Option (Unit × Mem) :=
  bnd (sI M 48 10 (1 : Int32)) fun M1 =>
  bnd (sI M1 48 11 x2) fun M2 =>
  bnd (sI M2 48 12 x3) fun M3 =>
  bnd (sI M3 48 7 (0 : Int32)) fun M4 =>
  bnd (sI M4 48 8 (0 : Int32)) fun M5 =>
  d_X6_begin_28 fuel ((0 : Int32)) M5
noncomputable def d_X6_beginRoot (x2 : Int32) (M : Mem) : Option (Unit × Mem) :=
  bnd (sI M 48 13 (-1 : Int32)) fun M1 =>
  bnd (sI M1 48 14 (-1 : Int32)) fun M2 =>
  (d_X6_begin x2 (mI M2 18 9) M2).bind fun y1 =>
  some ((), y1.2)
noncomputable def d_X6_beginSide (r2 : Nat) (x3 : Int32) (x4 : Int32) (x5 : Int32) (M : Mem) : Option (Unit × Mem) :=
  bnd (sI M 48 13 x3) fun M1 =>
  bnd (sI M1 48 14 x4) fun M2 =>
  okk (mK M2 r2 = 9) <|
  (d_X6_begin (mI M2 r2 13) x5 M2).bind fun y1 =>
  some ((), y1.2)
noncomputable def d_X6_isFull (M : Mem) : Option (Int32 × Mem) :=
  if (mI M 48 7) < (30 : Int32) then (
    some ((0 : Int32), M))
  else (
    some ((1 : Int32), M))
noncomputable def d_X6_isClosedBy (M : Mem) : Option (Int32 × Mem) :=
  if (mI M 18 9) = (mI M 48 12) then (
    (d_X3_siteAhead 18 M).bind fun y1 =>
    if y1.1 = (mI y1.2 48 11) then (
      some ((1 : Int32), y1.2))
    else (
      some ((0 : Int32), y1.2)))
  else (
    some ((0 : Int32), M))
noncomputable def d_X6_isKnown (x2 : Int32) (x3 : Int32) (M : Mem) : Option (Int32 × Mem) :=
  (d_X3_fromTop 18 x2 M).bind fun y1 =>
  okk (vp_in y1.1 549) <|
  okk (vp_in (mI y1.2 23 y1.1.toNatClampNeg) 378) <|
  if ((mI y1.2 55 (mI y1.2 23 y1.1.toNatClampNeg).toNatClampNeg) &&& x3) = 0 then (
    some ((0 : Int32), y1.2))
  else (
    some ((1 : Int32), y1.2))
noncomputable def d_X6_madeOf (x1 : Int32) (M : Mem) : Option (Int32 × Mem) :=
  if x1 = 0 then (
    some ((1 : Int32), M))
  else (
    some ((7 : Int32), M))
noncomputable def d_X6_ask (x1 : Int32) (x2 : Int32) (x3 : Int32) (M : Mem) : Option (Unit × Mem) :=
  okk (vp_in (mI M 48 8) 120) <|
  bnd (sI M 51 (mI M 48 8).toNatClampNeg x1) fun M1 =>
  okk (vp_in (mI M1 48 8) 120) <|
  bnd (sI M1 52 (mI M1 48 8).toNatClampNeg (mI M1 48 7)) fun M2 =>
  okk (vp_in (mI M2 48 8) 120) <|
  bnd (sI M2 53 (mI M2 48 8).toNatClampNeg x2) fun M3 =>
  okk (vp_in (mI M3 48 8) 120) <|
  bnd (sI M3 54 (mI M3 48 8).toNatClampNeg x3) fun M4 =>
  bnd (sI M4 48 8 ((mI M4 48 8) + (1 : Int32))) fun M5 =>
  some ((), M5)
noncomputable def d_X6_learn (x2 : Int32) (x3 : Int32) (M : Mem) : Option (Unit × Mem) :=
  (d_X3_fromTop 18 x2 M).bind fun y1 =>
  okk (vp_in y1.1 549) <|
  okk (vp_in (mI y1.2 23 y1.1.toNatClampNeg) 378) <|
  okk (vp_in (mI y1.2 23 y1.1.toNatClampNeg) 378) <|
  bnd (sI y1.2 55 (mI y1.2 23 y1.1.toNatClampNeg).toNatClampNeg ((mI y1.2 55 (mI y1.2 23 y1.1.toNatClampNeg).toNatClampNeg) ||| x3)) fun M1 =>
  some ((), M1)
noncomputable def d_X6_askKind (x2 : Int32) (M : Mem) : Option (Unit × Mem) :=
  (d_X6_isKnown x2 (1 : Int32) M).bind fun y1 =>
  if y1.1 = 0 then (
    (d_X3_answerTo 18 (107 : Int32) x2 y1.2).bind fun y2 =>
    (d_X6_ask (107 : Int32) x2 y2.1 y2.2).bind fun y3 =>
    (d_X3_fromTop 18 x2 y3.2).bind fun y4 =>
    (d_X8_isNumber 18 y4.1 y4.2).bind fun y5 =>
    if y5.1 = 0 then (
      (d_X6_learn x2 (3 : Int32) y5.2).bind fun y6 =>
      some ((), y6.2))
    else (
      (d_X6_learn x2 (1 : Int32) y5.2).bind fun y7 =>
      some ((), y7.2)))
  else (
    some ((), y1.2))
noncomputable def d_X6_askNullness (x2 : Int32) (M : Mem) : Option (Unit × Mem) :=
  (d_X6_isKnown (1 : Int32) (2 : Int32) M).bind fun y1 =>
  if y1.1 = 0 then (
    (d_X3_answerTo 18 x2 (1 : Int32) y1.2).bind fun y2 =>
    (d_X6_ask x2 (1 : Int32) y2.1 y2.2).bind fun y3 =>
    (d_X6_learn (1 : Int32) (2 : Int32) y3.2).bind fun y4 =>
    some ((), y4.2))
  else (
    some ((), y1.2))
noncomputable def d_X6_askShape (x2 : Int32) (M : Mem) : Option (Unit × Mem) :=
  (d_X6_isKnown x2 (8 : Int32) M).bind fun y1 =>
  if y1.1 = 0 then (
    (d_X3_answerTo 18 (115 : Int32) x2 y1.2).bind fun y2 =>
    (d_X6_ask (115 : Int32) x2 y2.1 y2.2).bind fun y3 =>
    (d_X6_learn x2 (11 : Int32) y3.2).bind fun y4 =>
    some ((), y4.2))
  else (
    some ((), y1.2))
noncomputable def d_X6_forgetOtherShapes_22b (k22 : (Int32) → Mem → Option (Unit × Mem)) (x2 : Int32) (M : Mem) : Option (Unit × Mem) :=
  if (mI M 48 9) ≤ x2 then (
    (d_X6_learn (2 : Int32) (8 : Int32) M).bind fun y1 =>
    some ((), y1.2))
  else (
    okk (vp_in x2 378) <|
    okk (vp_in x2 378) <|
    bnd (sI M 55 x2.toNatClampNeg ((mI M 55 x2.toNatClampNeg) &&& (-9 : Int32))) fun M1 =>
    bnd ((x2 + (1 : Int32))) fun b1 =>
    k22 (b1) M1)
noncomputable def d_X6_forgetOtherShapes_22 : Nat → (Int32) → Mem → Option (Unit × Mem) := lp fun k a M => d_X6_forgetOtherShapes_22b k a M
noncomputable def d_X6_forgetOtherShapes (M : Mem) : Option (Unit × Mem) :=
  (d_X3_shapeFromTop 18 (2 : Int32) M).bind fun y1 =>
  (d_X7_has y1.1 (mI y1.2 18 8) y1.2).bind fun y2 =>
  if y2.1 = 0 then (
    d_X6_forgetOtherShapes_22 fuel ((0 : Int32)) y2.2)
  else (
    some ((), y2.2))
noncomputable def d_X6_noteTwoValues_102 (x2 : Int32) (M : Mem) : Option (Unit × Mem) :=
  if (xIdx 4 x2) < 0 then (
    some ((), M))
  else (
    (d_X3_answerTo 18 (111 : Int32) (2 : Int32) M).bind fun y1 =>
    (d_X6_ask (111 : Int32) (2 : Int32) y1.1 y1.2).bind fun y2 =>
    some ((), y2.2))
noncomputable def d_X6_noteTwoValues_95 (x2 : Int32) (M : Mem) : Option (Unit × Mem) :=
  (d_X6_askNullness (122 : Int32) M).bind fun y1 =>
  d_X6_noteTwoValues_102 x2 y1.2
noncomputable def d_X6_noteTwoValues_35 (x2 : Int32) (s0 : Int32) (M : Mem) : Option (Unit × Mem) :=
  (d_X6_madeOf s0 M).bind fun y1 =>
  bnd (sI y1.2 48 15 y1.1) fun M1 =>
  if s0 = 0 then (
    (d_X6_askKind (2 : Int32) M1).bind fun y2 =>
    (d_X6_askKind (1 : Int32) y2.2).bind fun y3 =>
    (d_X3_fromTop 18 (2 : Int32) y3.2).bind fun y4 =>
    (d_X3_fromTop 18 (1 : Int32) y4.2).bind fun y5 =>
    (d_X8_areIntegers 18 y4.1 y5.1 y5.2).bind fun y6 =>
    if y6.1 = 0 then (
      some ((), y6.2))
    else (
      if x2 = (47 : Int32) then (
        d_X6_noteTwoValues_95 x2 y6.2)
      else (
        if x2 = (37 : Int32) then (
          d_X6_noteTwoValues_95 x2 y6.2)
        else (
          d_X6_noteTwoValues_102 x2 y6.2))))
  else (
    some ((), M1))
noncomputable def d_X6_noteTwoValues_34 (x2 : Int32) (M : Mem) : Option (Unit × Mem) :=
  d_X6_noteTwoValues_35 x2 (0 : Int32) M
noncomputable def d_X6_noteTwoValues (x2 : Int32) (M : Mem) : Option (Unit × Mem) :=
  if 0 ≤ (xIdx 3 x2) then (
    (d_X6_isKnown (2 : Int32) (4 : Int32) M).bind fun y1 =>
    if y1.1 = 0 then (
      d_X6_noteTwoValues_34 x2 y1.2)
    else (
      (d_X6_isKnown (1 : Int32) (4 : Int32) y1.2).bind fun y2 =>
      if y2.1 = 0 then (
        d_X6_noteTwoValues_34 x2 y2.2)
      else (
        d_X6_noteTwoValues_35 x2 (1 : Int32) y2.2)))
  else (
    some ((), M))
noncomputable def d_X6_noteAhead_213 (M : Mem) : Option (Unit × Mem) :=
  bnd (sI M 48 7 ((mI M 48 7) + (1 : Int32))) fun M1 =>
  some ((), M1)
noncomputable def d_X6_noteAhead (M : Mem) : Option (Unit × Mem) :=
  bnd ((mI M 18 7)) fun b1 =>
  (d_X3_lineAhead 18 M).bind fun y1 =>
  okk (vp_in (mI M 48 7) 30) <|
  bnd (sI y1.2 49 (mI M 48 7).toNatClampNeg y1.1) fun M1 =>
  okk (vp_in (mI M1 48 7) 31) <|
  bnd (sI M1 50 (mI M1 48 7).toNatClampNeg (mI M1 48 8)) fun M2 =>
  bnd (sI M2 48 15 (0 : Int32)) fun M3 =>
  if b1 = (103 : Int32) ∨ b1 = (109 : Int32) then (
    (d_X6_askShape (1 : Int32) M3).bind fun y2 =>
    d_X6_noteAhead_213 y2.2)
  else if b1 = (105 : Int32) ∨ b1 = (107 : Int32) then (
    bnd (sI M3 48 15 (7 : Int32)) fun M4 =>
    d_X6_noteAhead_213 M4)
  else if b1 = (110 : Int32) then (
    bnd (sI M3 48 15 (11 : Int32)) fun M5 =>
    d_X6_noteAhead_213 M5)
  else if b1 = (112 : Int32) then (
    (d_X6_askShape (2 : Int32) M3).bind fun y3 =>
    (d_X6_forgetOtherShapes y3.2).bind fun y4 =>
    d_X6_noteAhead_213 y4.2)
  else if b1 = (119 : Int32) then (
    (d_X6_isKnown (1 : Int32) (4 : Int32) M3).bind fun y5 =>
    (d_X6_madeOf y5.1 y5.2).bind fun y6 =>
    bnd (sI y6.2 48 15 y6.1) fun M6 =>
    (d_X6_askKind (1 : Int32) M6).bind fun y7 =>
    d_X6_noteAhead_213 y7.2)
  else if b1 = (122 : Int32) then (
    (d_X6_askNullness (116 : Int32) M3).bind fun y8 =>
    d_X6_noteAhead_213 y8.2)
  else (
    (d_X6_noteTwoValues b1 M3).bind fun y9 =>
    d_X6_noteAhead_213 y9.2)
noncomputable def d_X6_giveFacts (x2 : Int32) (x3 : Int32) (M : Mem) : Option (Unit × Mem) :=
  okk (vp_in x2 549) <|
  bnd (sI M 23 x2.toNatClampNeg (mI M 48 9)) fun M1 =>
  okk (vp_in (mI M1 48 9) 378) <|
  bnd (sI M1 55 (mI M1 48 9).toNatClampNeg x3) fun M2 =>
  bnd (sI M2 48 9 ((mI M2 48 9) + (1 : Int32))) fun M3 =>
  some ((), M3)
noncomputable def d_X6_noteBehind_62b (k62 : (Int32) → Mem → Option (Unit × Mem)) (x3 : Int32) (x4 : Int32) (M : Mem) : Option (Unit × Mem) :=
  if (6 : Int32) ≤ x4 then (
    some ((), M))
  else (
    (d_X11_localPlace x3 x4 M).bind fun y1 =>
    (d_X6_giveFacts y1.1 (3 : Int32) y1.2).bind fun y2 =>
    bnd ((x4 + (1 : Int32))) fun b1 =>
    k62 (b1) y2.2)
noncomputable def d_X6_noteBehind_62 (x3 : Int32) : Nat → (Int32) → Mem → Option (Unit × Mem) := lp fun k a M => d_X6_noteBehind_62b k x3 a M
noncomputable def d_X6_noteBehind_41 (M : Mem) : Option (Unit × Mem) :=
  bnd (((mI M 18 9) - (1 : Int32))) fun b1 =>
  (d_X3_functionAhead 18 M).bind fun y1 =>
  okk (vp_in y1.1 8) <|
  bnd ((mI y1.2 3 y1.1.toNatClampNeg)) fun b2 =>
  d_X6_noteBehind_62 b1 fuel (b2) y1.2
noncomputable def d_X6_noteBehind (x2 : Int32) (M : Mem) : Option (Unit × Mem) :=
  if (xIdx 5 x2) < 0 then (
    if x2 = (99 : Int32) then (
      d_X6_noteBehind_41 M)
    else (
      if x2 = (109 : Int32) then (
        d_X6_noteBehind_41 M)
      else (
        some ((), M))))
  else (
    (d_X3_fromTop 18 (1 : Int32) M).bind fun y1 =>
    (d_X6_giveFacts y1.1 (mI y1.2 48 15) y1.2).bind fun y2 =>
    some ((), y2.2))
noncomputable def d_X7_init (r0 : Nat) (M : Mem) : Option (Unit × Mem) :=
  bnd (nx M) fun r_1 => okk (r_1 < 2147483648) <|
  bnd (sN M r_1 21 60) fun M1 =>
  okk (mK M1 r0 = 7) <|
  bnd (sR M1 r0 0 (some r_1)) fun M2 =>
  bnd (nx M2) fun r_2 => okk (r_2 < 2147483648) <|
  bnd (sN M2 r_2 21 60) fun M3 =>
  okk (mK M3 r0 = 7) <|
  bnd (sR M3 r0 1 (some r_2)) fun M4 =>
  bnd (nx M4) fun r_3 => okk (r_3 < 2147483648) <|
  bnd (sN M4 r_3 21 60) fun M5 =>
  okk (mK M5 r0 = 7) <|
  bnd (sR M5 r0 2 (some r_3)) fun M6 =>
  bnd (nx M6) fun r_4 => okk (r_4 < 2147483648) <|
  bnd (sN M6 r_4 21 360) fun M7 =>
  okk (mK M7 r0 = 7) <|
  bnd (sR M7 r0 3 (some r_4)) fun M8 =>
  bnd (nx M8) fun r_5 => okk (r_5 < 2147483648) <|
  bnd (sN M8 r_5 21 360) fun M9 =>
  okk (mK M9 r0 = 7) <|
  bnd (sR M9 r0 4 (some r_5)) fun M10 =>
  bnd (nx M10) fun r_6 => okk (r_6 < 2147483648) <|
  bnd (sN M10 r_6 21 5) fun M11 =>
  okk (mK M11 r0 = 7) <|
  bnd (sR M11 r0 5 (some r_6)) fun M12 =>
  some ((), M12)
noncomputable def d_X7_takeBack_27 (k2 : (Int32) → Mem → Option (Unit × Mem)) (x1 : Int32) (x2 : Int32) (M : Mem) : Option (Unit × Mem) :=
  bnd ((x2 + (1 : Int32))) fun b1 =>
  k2 (b1) M
noncomputable def d_X7_takeBack_2b (k2 : (Int32) → Mem → Option (Unit × Mem)) (x1 : Int32) (x2 : Int32) (M : Mem) : Option (Unit × Mem) :=
  if (x1 * (6 : Int32)) ≤ x2 then (
    bnd (sI M 11 6 x1) fun M1 =>
    some ((), M1))
  else (
    okk (vp_in x2 360) <|
    if (mI M 16 x2.toNatClampNeg) < x1 then (
      d_X7_takeBack_27 k2 x1 x2 M)
    else (
      okk (vp_in x2 360) <|
      bnd (sI M 16 x2.toNatClampNeg (-1 : Int32)) fun M2 =>
      d_X7_takeBack_27 k2 x1 x2 M2))
noncomputable def d_X7_takeBack_2 (x1 : Int32) : Nat → (Int32) → Mem → Option (Unit × Mem) := lp fun k a M => d_X7_takeBack_2b k x1 a M
noncomputable def d_X7_takeBack (x1 : Int32) (M : Mem) : Option (Unit × Mem) :=
  d_X7_takeBack_2 x1 fuel ((0 : Int32)) M
noncomputable def d_X8_bitsAt (o : Nat) (x1 : Int32) (M : Mem) : Option (Int64 × Mem) :=
  (d_X8_isUndefined o x1 M).bind fun y1 =>
  if y1.1 = 0 then (
    okk (vp_in x1 549) <|
    if (mI y1.2 (o + 2) x1.toNatClampNeg) = (102 : Int32) then (
      okk (vp_in x1 549) <|
      (d_X4_bitsOf (mD y1.2 (o + 4) x1.toNatClampNeg) y1.2).bind fun y2 =>
      some (y2.1, y2.2))
    else (
      okk (vp_in x1 549) <|
      some (((mI y1.2 (o + 3) x1.toNatClampNeg).toInt64), y1.2)))
  else (
    some ((9221120237041090560 : Int64), y1.2))
noncomputable def d_X9_init (r0 : Nat) (r1 : Nat) (x2 : Int32) (M : Mem) : Option (Unit × Mem) :=
  okk (mK M r1 = 6) <|
  okk (mK M r0 = 9) <|
  bnd (sI M r0 0 (mI M r1 7)) fun M1 =>
  okk (mK M1 r1 = 6) <|
  okk (mK M1 r0 = 9) <|
  bnd (sI M1 r0 1 (mI M1 r1 8)) fun M2 =>
  okk (mK M2 r1 = 6) <|
  (mR M2 r1 0).bind fun r_1 =>
  okk (mK M2 r0 = 9) <|
  (d_J7_copyOf_59c91 r_1 (mI M2 r0 0) M2).bind fun y1 =>
  okk (mK y1.2 r0 = 9) <|
  bnd (sR y1.2 r0 2 (some y1.1)) fun M3 =>
  okk (mK M3 r1 = 6) <|
  (mR M3 r1 1).bind fun r_2 =>
  okk (mK M3 r0 = 9) <|
  (d_J7_copyOf_59c91 r_2 ((mI M3 r0 0) + (1 : Int32)) M3).bind fun y2 =>
  okk (mK y2.2 r0 = 9) <|
  bnd (sR y2.2 r0 3 (some y2.1)) fun M4 =>
  okk (mK M4 r0 = 9) <|
  (mR M4 r0 3).bind fun r_3 =>
  okk (mK M4 r0 = 9) <|
  okk (mK M4 r0 = 9) <|
  okk (mK M4 r_3 = 21) <|
  okk (vp_in (mI M4 r0 0) (mN M4 r_3)) <|
  bnd (sI M4 r_3 (mI M4 r0 0).toNatClampNeg (mI M4 r0 1)) fun M5 =>
  okk (mK M5 r1 = 6) <|
  (mR M5 r1 2).bind fun r_4 =>
  okk (mK M5 r0 = 9) <|
  (d_J7_copyOf_59c91 r_4 (mI M5 r0 1) M5).bind fun y3 =>
  okk (mK y3.2 r0 = 9) <|
  bnd (sR y3.2 r0 4 (some y3.1)) fun M6 =>
  okk (mK M6 r1 = 6) <|
  (mR M6 r1 3).bind fun r_5 =>
  okk (mK M6 r0 = 9) <|
  (d_J7_copyOf_59c91 r_5 (mI M6 r0 1) M6).bind fun y4 =>
  okk (mK y4.2 r0 = 9) <|
  bnd (sR y4.2 r0 5 (some y4.1)) fun M7 =>
  okk (mK M7 r1 = 6) <|
  (mR M7 r1 4).bind fun r_6 =>
  okk (mK M7 r0 = 9) <|
  (d_J7_copyOf_59c91 r_6 (mI M7 r0 1) M7).bind fun y5 =>
  okk (mK y5.2 r0 = 9) <|
  bnd (sR y5.2 r0 6 (some y5.1)) fun M8 =>
  okk (mK M8 r1 = 6) <|
  (mR M8 r1 5).bind fun r_7 =>
  okk (mK M8 r0 = 9) <|
  (d_J7_copyOf_59c91 r_7 (mI M8 r0 1) M8).bind fun y6 =>
  okk (mK y6.2 r0 = 9) <|
  bnd (sR y6.2 r0 7 (some y6.1)) fun M9 =>
  okk (mK M9 r0 = 9) <|
  bnd (nx M9) fun r_8 => okk (r_8 < 2147483648) <|
  okk (0 ≤ (mI M9 r0 1) ∧ (mI M9 r0 1) ≤ 100000) <|
  bnd (sN M9 r_8 21 (mI M9 r0 1).toNatClampNeg) fun M10 =>
  okk (mK M10 r0 = 9) <|
  bnd (sR M10 r0 8 (some r_8)) fun M11 =>
  okk (mK M11 r0 = 9) <|
  bnd (nx M11) fun r_9 => okk (r_9 < 2147483648) <|
  okk (0 ≤ (mI M11 r0 1) ∧ (mI M11 r0 1) ≤ 100000) <|
  bnd (sN M11 r_9 21 (mI M11 r0 1).toNatClampNeg) fun M12 =>
  okk (mK M12 r0 = 9) <|
  bnd (sR M12 r0 9 (some r_9)) fun M13 =>
  okk (mK M13 r0 = 9) <|
  bnd (nx M13) fun r_10 => okk (r_10 < 2147483648) <|
  okk (0 ≤ (mI M13 r0 1) ∧ (mI M13 r0 1) ≤ 100000) <|
  bnd (sN M13 r_10 21 (mI M13 r0 1).toNatClampNeg) fun M14 =>
  okk (mK M14 r0 = 9) <|
  bnd (sR M14 r0 10 (some r_10)) fun M15 =>
  okk (mK M15 r0 = 9) <|
  bnd (nx M15) fun r_11 => okk (r_11 < 2147483648) <|
  okk (0 ≤ (mI M15 r0 1) ∧ (mI M15 r0 1) ≤ 100000) <|
  bnd (sN M15 r_11 21 (mI M15 r0 1).toNatClampNeg) fun M16 =>
  okk (mK M16 r0 = 9) <|
  bnd (sR M16 r0 11 (some r_11)) fun M17 =>
  okk (mK M17 r0 = 9) <|
  (mR M17 r0 11).bind fun r_12 =>
  (d_J7_fill_53178 r_12 (-1 : Int32) M17).bind fun y7 =>
  okk (mK y7.2 r0 = 9) <|
  bnd (sI y7.2 r0 12 x2) fun M18 =>
  okk (mK M18 r1 = 6) <|
  okk (mK M18 r0 = 9) <|
  bnd (sI M18 r0 13 (mI M18 r1 11)) fun M19 =>
  okk (mK M19 r0 = 9) <|
  bnd (sI M19 r0 14 (1 : Int32)) fun M20 =>
  some ((), M20)
noncomputable def d_X9_bars (r0 : Nat) (x1 : Int32) (M : Mem) : Option (Int32 × Mem) :=
  okk (mK M r0 = 9) <|
  (mR M r0 10).bind fun r_1 =>
  okk (mK M r_1 = 21) <|
  okk (vp_in x1 (mN M r_1)) <|
  if (mI M r_1 x1.toNatClampNeg) < (2 : Int32) then (
    some ((0 : Int32), M))
  else (
    some ((1 : Int32), M))
noncomputable def d_X9_breakOff (r0 : Nat) (x1 : Int32) (M : Mem) : Option (Unit × Mem) :=
  okk (mK M r0 = 9) <|
  (mR M r0 9).bind fun r_1 =>
  okk (mK M r_1 = 21) <|
  okk (vp_in x1 (mN M r_1)) <|
  bnd (sI M r_1 x1.toNatClampNeg (0 : Int32)) fun M1 =>
  okk (mK M1 r0 = 9) <|
  (mR M1 r0 10).bind fun r_2 =>
  okk (mK M1 r_2 = 21) <|
  okk (vp_in x1 (mN M1 r_2)) <|
  okk (mK M1 r_2 = 21) <|
  okk (vp_in x1 (mN M1 r_2)) <|
  bnd (sI M1 r_2 x1.toNatClampNeg ((mI M1 r_2 x1.toNatClampNeg) + (1 : Int32))) fun M2 =>
  some ((), M2)
noncomputable def d_X10_init (r0 : Nat) (r1 : Nat) (r2 : Nat) (M : Mem) : Option (Unit × Mem) :=
  okk (mK M r0 = 10) <|
  bnd (sR M r0 0 (some r2)) fun M1 =>
  bnd (nx M1) fun r_1 => okk (r_1 < 2147483648) <|
  bnd (sN M1 r_1 1 4) fun M2 =>
  okk (r_1 ≤ nx M2) <| okk (r0 ≤ r_1) <|
  (d_X0_init r_1 M2).bind fun y1 =>
  okk (mK y1.2 r0 = 10) <|
  bnd (sR y1.2 r0 1 (some r_1)) fun M3 =>
  bnd (nx M3) fun r_2 => okk (r_2 < 2147483648) <|
  bnd (sN M3 r_2 3 3) fun M4 =>
  okk (r_2 ≤ nx M4) <| okk (r0 ≤ r_2) <|
  (d_X2_init r_2 M4).bind fun y2 =>
  okk (mK y2.2 r0 = 10) <|
  bnd (sR y2.2 r0 2 (some r_2)) fun M5 =>
  bnd (nx M5) fun r_3 => okk (r_3 < 2147483648) <|
  bnd (sN M5 r_3 6 16) fun M6 =>
  okk (r_3 ≤ nx M6) <| okk (r0 ≤ r_3) <|
  (d_X6_init r_3 M6).bind fun y3 =>
  okk (mK y3.2 r0 = 10) <|
  bnd (sR y3.2 r0 3 (some r_3)) fun M7 =>
  bnd (nx M7) fun r_4 => okk (r_4 < 2147483648) <|
  bnd (sN M7 r_4 9 17) fun M8 =>
  okk (mK M8 r0 = 10) <|
  (mR M8 r0 3).bind fun r_5 =>
  okk (r_4 ≤ nx M8) <| okk (r0 ≤ r_4) <|
  (d_X9_init r_4 r_5 (-1 : Int32) M8).bind fun y4 =>
  okk (mK y4.2 r0 = 10) <|
  bnd (sR y4.2 r0 9 (some r_4)) fun M9 =>
  bnd (nx M9) fun r_6 => okk (r_6 < 2147483648) <|
  bnd (sN M9 r_6 2 6) fun M10 =>
  okk (mK M10 r0 = 10) <|
  (mR M10 r0 2).bind fun r_7 =>
  okk (mK M10 r0 = 10) <|
  (mR M10 r0 9).bind fun r_8 =>
  okk (r_6 ≤ nx M10) <| okk (r0 ≤ r_6) <|
  (d_X1_init r_6 r1 r_7 r_8 M10).bind fun y5 =>
  okk (mK y5.2 r0 = 10) <|
  bnd (sR y5.2 r0 4 (some r_6)) fun M11 =>
  okk (mK M11 r0 = 10) <|
  bnd (sI M11 r0 5 (3 : Int32)) fun M12 =>
  okk (mK M12 r0 = 10) <|
  bnd (sI M12 r0 6 (2 : Int32)) fun M13 =>
  some ((), M13)
noncomputable def d_X10_begin (M : Mem) : Option (Unit × Mem) :=
  bnd (sI M 38 7 (0 : Int32)) fun M1 =>
  bnd (sI M1 38 8 (0 : Int32)) fun M2 =>
  some ((), M2)
noncomputable def d_X10_follow (x1 : Int32) (M : Mem) : Option (Unit × Mem) :=
  bnd (sI M 38 10 x1) fun M1 =>
  okk (vp_in x1 20) <|
  (mR M1 68 x1.toNatClampNeg).bind fun r_1 =>
  bnd (sR M1 38 9 (some r_1)) fun M2 =>
  (mR M2 38 9).bind fun r_2 =>
  okk (mK M2 r_2 = 9) <|
  okk (mK M2 r_2 = 9) <|
  bnd (sI M2 r_2 15 ((mI M2 r_2 15) + (1 : Int32))) fun M3 =>
  bnd (sI M3 38 11 (0 : Int32)) fun M4 =>
  bnd (sI M4 38 8 (1 : Int32)) fun M5 =>
  some ((), M5)
noncomputable def d_X10_exitAt (x1 : Int32) (M : Mem) : Option (Unit × Mem) :=
  (mR M 38 9).bind fun r_1 =>
  okk (mK M r_1 = 9) <|
  (mR M r_1 8).bind fun r_2 =>
  okk (mK M r_2 = 21) <|
  okk (vp_in x1 (mN M r_2)) <|
  okk (mK M r_2 = 21) <|
  okk (vp_in x1 (mN M r_2)) <|
  bnd (sI M r_2 x1.toNatClampNeg ((mI M r_2 x1.toNatClampNeg) + (1 : Int32))) fun M1 =>
  (mR M1 38 9).bind fun r_3 =>
  okk (mK M1 r_3 = 9) <|
  (mR M1 r_3 11).bind fun r_4 =>
  okk (mK M1 r_4 = 21) <|
  okk (vp_in x1 (mN M1 r_4)) <|
  if (mI M1 r_4 x1.toNatClampNeg) = (-1 : Int32) then (
    (mR M1 38 9).bind fun r_5 =>
    okk (mK M1 r_5 = 9) <|
    (mR M1 r_5 9).bind fun r_6 =>
    okk (mK M1 r_6 = 21) <|
    okk (vp_in x1 (mN M1 r_6)) <|
    okk (mK M1 r_6 = 21) <|
    okk (vp_in x1 (mN M1 r_6)) <|
    bnd (sI M1 r_6 x1.toNatClampNeg ((mI M1 r_6 x1.toNatClampNeg) + (1 : Int32))) fun M2 =>
    bnd (sI M2 38 8 (0 : Int32)) fun M3 =>
    (mR M3 38 9).bind fun r_7 =>
    okk (mK M3 r_7 = 9) <|
    (mR M3 r_7 9).bind fun r_8 =>
    okk (mK M3 r_8 = 21) <|
    okk (vp_in x1 (mN M3 r_8)) <|
    if (mI M3 r_8 x1.toNatClampNeg) < (mI M3 38 6) then (
      some ((), M3))
    else (
      (mR M3 38 9).bind fun r_9 =>
      okk (mK M3 r_9 = 9) <|
      (d_X9_bars r_9 x1 M3).bind fun y1 =>
      if y1.1 = 0 then (
        (mR y1.2 38 9).bind fun r_10 =>
        (d_X6_beginSide r_10 (mI y1.2 38 10) x1 (mI y1.2 38 12) y1.2).bind fun y2 =>
        some ((), y2.2))
      else (
        some ((), y1.2))))
  else (
    (mR M1 38 9).bind fun r_11 =>
    okk (mK M1 r_11 = 9) <|
    (mR M1 r_11 11).bind fun r_12 =>
    okk (mK M1 r_12 = 21) <|
    okk (vp_in x1 (mN M1 r_12)) <|
    (d_X10_follow (mI M1 r_12 x1.toNatClampNeg) M1).bind fun y3 =>
    some ((), y3.2))
noncomputable def d_X10_enter (x1 : Int32) (M : Mem) : Option (Unit × Mem) :=
  okk (vp_in x1 20) <|
  (mR M 68 x1.toNatClampNeg).bind fun r_1 =>
  bnd (sI M 67 5 ((mI M 67 5) + (1 : Int32))) fun M1 =>
  okk (mK M1 r_1 = 9) <|
  bnd (sI M1 r_1 16 (mI M1 67 5)) fun M2 =>
  bnd (sI M2 38 12 (mI M2 18 9)) fun M3 =>
  (d_X10_follow x1 M3).bind fun y1 =>
  some ((), y1.2)
noncomputable def d_X10_turnInTrace_41b (k41 : (Int32) → Mem → Option (Unit × Mem)) (x1 : Int32) (M : Mem) : Option (Unit × Mem) :=
  (mR M 38 9).bind fun r_1 =>
  okk (mK M r_1 = 9) <|
  (mR M r_1 3).bind fun r_2 =>
  okk (mK M r_2 = 21) <|
  okk (vp_in ((mI M 38 11) + (1 : Int32)) (mN M r_2)) <|
  if (mI M r_2 ((mI M 38 11) + (1 : Int32)).toNatClampNeg) ≤ x1 then (
    (d_X3_execute 18 M).bind fun y1 =>
    bnd (sI y1.2 38 7 ((mI y1.2 38 7) + (1 : Int32))) fun M1 =>
    bnd (sI M1 38 11 ((mI M1 38 11) + (1 : Int32))) fun M2 =>
    (mR M2 38 9).bind fun r_3 =>
    okk (mK M2 r_3 = 9) <|
    if (mI M2 38 11) < (mI M2 r_3 0) then (
      some ((), M2))
    else (
      (mR M2 38 9).bind fun r_4 =>
      okk (mK M2 r_4 = 9) <|
      (d_X10_enter (mI M2 r_4 12) M2).bind fun y2 =>
      some ((), y2.2)))
  else (
    (mR M 38 9).bind fun r_5 =>
    okk (mK M r_5 = 9) <|
    (mR M r_5 4).bind fun r_6 =>
    okk (mK M r_6 = 21) <|
    okk (vp_in x1 (mN M r_6)) <|
    (mR M 38 9).bind fun r_7 =>
    okk (mK M r_7 = 9) <|
    (mR M r_7 6).bind fun r_8 =>
    okk (mK M r_8 = 21) <|
    okk (vp_in x1 (mN M r_8)) <|
    (d_X3_answerTo 18 (((mI M r_6 x1.toNatClampNeg).toUInt32 % 65536).toInt32) (mI M r_8 x1.toNatClampNeg) M).bind fun y3 =>
    (mR y3.2 38 9).bind fun r_9 =>
    okk (mK y3.2 r_9 = 9) <|
    (mR y3.2 r_9 7).bind fun r_10 =>
    okk (mK y3.2 r_10 = 21) <|
    okk (vp_in x1 (mN y3.2 r_10)) <|
    if y3.1 = (mI y3.2 r_10 x1.toNatClampNeg) then (
      bnd ((x1 + (1 : Int32))) fun b1 =>
      k41 (b1) y3.2)
    else (
      (d_X10_exitAt x1 y3.2).bind fun y4 =>
      some ((), y4.2)))
noncomputable def d_X10_turnInTrace_41 : Nat → (Int32) → Mem → Option (Unit × Mem) := lp fun k a M => d_X10_turnInTrace_41b k a M
noncomputable def d_X10_turnInTrace (M : Mem) : Option (Unit × Mem) :=
  (d_X3_isAtLimit 18 M).bind fun y1 =>
  if y1.1 = 0 then (
    (d_X3_failureAhead 18 y1.2).bind fun y2 =>
    if y2.1 = (45 : Int32) then (
      (mR y2.2 38 9).bind fun r_1 =>
      okk (mK y2.2 r_1 = 9) <|
      (mR y2.2 r_1 3).bind fun r_2 =>
      okk (mK y2.2 r_2 = 21) <|
      okk (vp_in (mI y2.2 38 11) (mN y2.2 r_2)) <|
      bnd ((mI y2.2 r_2 (mI y2.2 38 11).toNatClampNeg)) fun b1 =>
      d_X10_turnInTrace_41 fuel (b1) y2.2)
    else (
      bnd (sI y2.2 38 8 (0 : Int32)) fun M2 =>
      some ((), M2)))
  else (
    bnd (sI y1.2 38 8 (0 : Int32)) fun M1 =>
    some ((), M1))
end VCD
