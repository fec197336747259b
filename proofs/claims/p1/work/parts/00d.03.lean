/-! ===== what the methods reckon (printed by a program) ===== -/
section VCD
noncomputable def d_X10_breakOff (M : Mem) : Option (Unit × Mem) :=
  if (mI M 48 10) = 0 then (
    some ((), M))
  else (
    bnd (sI M 48 10 (0 : Int32)) fun M1 =>
    if (mI M1 48 13) = (-1 : Int32) then (
      (d_X2_breakOff (mI M1 48 11) M1).bind fun y2 =>
      some ((), y2.2))
    else (
      okk (vp_in (mI M1 48 13) 20) <|
      (mR M1 68 (mI M1 48 13).toNatClampNeg).bind fun r_1 =>
      okk (mK M1 r_1 = 9) <|
      (d_X9_breakOff r_1 (mI M1 48 14) M1).bind fun y1 =>
      some ((), y1.2)))
noncomputable def d_X10_canExecute_33 (M : Mem) : Option (Int32 × Mem) :=
  (d_X3_failureAhead 18 M).bind fun y1 =>
  if y1.1 = (45 : Int32) then (
    some ((1 : Int32), y1.2))
  else (
    (d_X10_breakOff y1.2).bind fun y2 =>
    (d_X3_failWith 18 y1.1 y2.2).bind fun y3 =>
    some ((0 : Int32), y3.2))
noncomputable def d_X10_canExecute (M : Mem) : Option (Int32 × Mem) :=
  (d_X3_isAtLimit 18 M).bind fun y1 =>
  if y1.1 = 0 then (
    (d_X6_isFull y1.2).bind fun y2 =>
    if y2.1 = 0 then (
      d_X10_canExecute_33 y2.2)
    else (
      (d_X10_breakOff y2.2).bind fun y3 =>
      d_X10_canExecute_33 y3.2))
  else (
    (d_X3_endAtLimit 18 y1.2).bind fun y4 =>
    some ((0 : Int32), y4.2))
noncomputable def d_X10_meetCache (x1 : Int32) (M : Mem) : Option (Unit × Mem) :=
  if x1 = (103 : Int32) then (
    (d_X3_siteAhead 18 M).bind fun y7 =>
    (d_X3_shapeFromTop 18 (1 : Int32) y7.2).bind fun y8 =>
    (d_X0_meet y7.1 y8.1 y8.2).bind fun y9 =>
    some ((), y9.2))
  else (
    if x1 = (112 : Int32) then (
      (d_X3_siteAhead 18 M).bind fun y4 =>
      (d_X3_shapeFromTop 18 (2 : Int32) y4.2).bind fun y5 =>
      (d_X0_meet y4.1 y5.1 y5.2).bind fun y6 =>
      some ((), y6.2))
    else (
      if x1 = (109 : Int32) then (
        (d_X3_siteAhead 18 M).bind fun y1 =>
        (d_X3_classFromTop 18 y1.2).bind fun y2 =>
        (d_X0_meet y1.1 y2.1 y2.2).bind fun y3 =>
        some ((), y3.2))
      else (
        some ((), M))))
noncomputable def d_X10_finish_169 (x1 : Int32) (x2 : Int32) (M : Mem) : Option (Unit × Mem) :=
  bnd (sI M 48 10 (0 : Int32)) fun M1 =>
  if x1 = (-1 : Int32) then (
    (d_X10_enter x2 M1).bind fun y2 =>
    some ((), y2.2))
  else (
    (d_X10_enter x1 M1).bind fun y1 =>
    some ((), y1.2))
noncomputable def d_X10_finish_101 (x1 : Int32) (x2 : Int32) (s1 : Int32) (s2 : Nat) (s3 : Nat) (s5 : Int32) (M : Mem) : Option (Unit × Mem) :=
  okk (s3 ≤ nx M) <| okk (129 ≤ s3) <|
  (d_X9_init s3 48 s5 M).bind fun y1 =>
  okk (vp_in s1 20) <|
  okk (mK y1.2 s2 = 9) <|
  bnd (sR y1.2 68 s1.toNatClampNeg (some s2)) fun M1 =>
  bnd (sI M1 67 3 ((mI M1 67 3) + (1 : Int32))) fun M2 =>
  if x1 = (-1 : Int32) then (
    okk (vp_in (mI M2 48 11) 320) <|
    bnd (sI M2 47 (mI M2 48 11).toNatClampNeg x2) fun M4 =>
    d_X10_finish_169 x1 x2 M4)
  else (
    okk (vp_in (mI M2 48 13) 20) <|
    (mR M2 68 (mI M2 48 13).toNatClampNeg).bind fun r_1 =>
    okk (mK M2 r_1 = 9) <|
    (mR M2 r_1 11).bind fun r_2 =>
    okk (mK M2 r_2 = 21) <|
    okk (vp_in (mI M2 48 14) (mN M2 r_2)) <|
    bnd (sI M2 r_2 (mI M2 48 14).toNatClampNeg x2) fun M3 =>
    d_X10_finish_169 x1 x2 M3)
noncomputable def d_X10_finish_33 (s0 : Int32) (M : Mem) : Option (Unit × Mem) :=
  (d_X1_isFull M).bind fun y1 =>
  if y1.1 = 0 then (
    (d_X1_makeRoom (mI y1.2 48 7) s0 y1.2).bind fun y3 =>
    if y3.1 = 0 then (
      (d_X10_breakOff y3.2).bind fun y4 =>
      some ((), y4.2))
    else (
      bnd ((mI y3.2 67 3)) fun b1 =>
      bnd (nx y3.2) fun r_1 => okk (r_1 < 2147483648) <|
      bnd (sN y3.2 r_1 9 17) fun M1 =>
      if s0 = (-1 : Int32) then (
        d_X10_finish_101 s0 b1 b1 r_1 r_1 b1 M1)
      else (
        d_X10_finish_101 s0 b1 b1 r_1 r_1 s0 M1)))
  else (
    (d_X10_breakOff y1.2).bind fun y2 =>
    some ((), y2.2))
noncomputable def d_X10_finish (M : Mem) : Option (Unit × Mem) :=
  if (mI M 48 13) = (-1 : Int32) then (
    d_X10_finish_33 (-1 : Int32) M)
  else (
    okk (vp_in (mI M 48 13) 20) <|
    (mR M 68 (mI M 48 13).toNatClampNeg).bind fun r_1 =>
    okk (mK M r_1 = 9) <|
    d_X10_finish_33 (mI M r_1 12) M)
noncomputable def d_X10_arrive_29 (x1 : Int32) (M : Mem) : Option (Unit × Mem) :=
  (d_X10_breakOff M).bind fun y1 =>
  okk (vp_in x1 320) <|
  if (mI y1.2 47 x1.toNatClampNeg) = (-1 : Int32) then (
    okk (vp_in x1 320) <|
    okk (vp_in x1 320) <|
    bnd (sI y1.2 45 x1.toNatClampNeg ((mI y1.2 45 x1.toNatClampNeg) + (1 : Int32))) fun M1 =>
    okk (vp_in x1 320) <|
    if (mI M1 45 x1.toNatClampNeg) < (mI M1 38 5) then (
      some ((), M1))
    else (
      (d_X2_bars x1 M1).bind fun y2 =>
      if y2.1 = 0 then (
        (d_X6_beginRoot x1 y2.2).bind fun y3 =>
        some ((), y3.2))
      else (
        some ((), y2.2))))
  else (
    okk (vp_in x1 320) <|
    (d_X10_enter (mI y1.2 47 x1.toNatClampNeg) y1.2).bind fun y4 =>
    some ((), y4.2))
noncomputable def d_X10_arrive (x1 : Int32) (M : Mem) : Option (Unit × Mem) :=
  if (mI M 48 10) = 0 then (
    d_X10_arrive_29 x1 M)
  else (
    (d_X6_isClosedBy M).bind fun y1 =>
    if y1.1 = 0 then (
      d_X10_arrive_29 x1 y1.2)
    else (
      (d_X10_finish y1.2).bind fun y2 =>
      some ((), y2.2)))
noncomputable def d_X10_executeOutside_91 (x2 : Int32) (M : Mem) : Option (Unit × Mem) :=
  if x2 = 0 then (
    some ((), M))
  else (
    (d_X3_siteAhead 18 M).bind fun y1 =>
    (d_X10_arrive y1.1 y1.2).bind fun y2 =>
    some ((), y2.2))
noncomputable def d_X10_executeOutside_61 (x1 : Int32) (M : Mem) : Option (Unit × Mem) :=
  (d_X3_execute 18 M).bind fun y1 =>
  if (mI y1.2 48 10) = 0 then (
    d_X10_executeOutside_91 y1.1 y1.2)
  else (
    (d_X6_noteBehind x1 y1.2).bind fun y2 =>
    d_X10_executeOutside_91 y1.1 y2.2)
noncomputable def d_X10_executeOutside_35 (x1 : Int32) (M : Mem) : Option (Unit × Mem) :=
  (d_X10_meetCache x1 M).bind fun y1 =>
  if (mI y1.2 48 10) = 0 then (
    d_X10_executeOutside_61 x1 y1.2)
  else (
    (d_X6_noteAhead y1.2).bind fun y2 =>
    d_X10_executeOutside_61 x1 y2.2)
noncomputable def d_X10_executeOutside (M : Mem) : Option (Unit × Mem) :=
  bnd ((mI M 18 7)) fun b1 =>
  if b1 = (114 : Int32) then (
    if (mI M 18 9) = (mI M 48 12) then (
      (d_X10_breakOff M).bind fun y1 =>
      d_X10_executeOutside_35 b1 y1.2)
    else (
      d_X10_executeOutside_35 b1 M))
  else (
    d_X10_executeOutside_35 b1 M)
noncomputable def d_X11_init (r0 : Nat) (M : Mem) : Option (Unit × Mem) :=
  bnd (nx M) fun r_1 => okk (r_1 < 2147483648) <|
  bnd (sN M r_1 5 10) fun M1 =>
  okk (r_1 ≤ nx M1) <| okk (r0 ≤ r_1) <|
  (d_X5_init r_1 M1).bind fun y1 =>
  okk (mK y1.2 r0 = 11) <|
  bnd (sR y1.2 r0 0 (some r_1)) fun M2 =>
  bnd (nx M2) fun r_2 => okk (r_2 < 2147483648) <|
  bnd (sN M2 r_2 7 7) fun M3 =>
  okk (r_2 ≤ nx M3) <| okk (r0 ≤ r_2) <|
  (d_X7_init r_2 M3).bind fun y2 =>
  okk (mK y2.2 r0 = 11) <|
  bnd (sR y2.2 r0 1 (some r_2)) fun M4 =>
  bnd (nx M4) fun r_3 => okk (r_3 < 2147483648) <|
  bnd (sN M4 r_3 4 16) fun M5 =>
  okk (mK M5 r0 = 11) <|
  (mR M5 r0 0).bind fun r_4 =>
  okk (mK M5 r0 = 11) <|
  (mR M5 r0 1).bind fun r_5 =>
  okk (r_3 ≤ nx M5) <| okk (r0 ≤ r_3) <|
  (d_X3_init r_3 r_4 r_5 M5).bind fun y3 =>
  okk (mK y3.2 r0 = 11) <|
  bnd (sR y3.2 r0 2 (some r_3)) fun M6 =>
  bnd (nx M6) fun r_6 => okk (r_6 < 2147483648) <|
  bnd (sN M6 r_6 4 16) fun M7 =>
  okk (mK M7 r0 = 11) <|
  (mR M7 r0 0).bind fun r_7 =>
  okk (mK M7 r0 = 11) <|
  (mR M7 r0 1).bind fun r_8 =>
  okk (r_6 ≤ nx M7) <| okk (r0 ≤ r_6) <|
  (d_X3_init r_6 r_7 r_8 M7).bind fun y4 =>
  okk (mK y4.2 r0 = 11) <|
  bnd (sR y4.2 r0 3 (some r_6)) fun M8 =>
  bnd (nx M8) fun r_9 => okk (r_9 < 2147483648) <|
  bnd (sN M8 r_9 10 13) fun M9 =>
  okk (mK M9 r0 = 11) <|
  (mR M9 r0 0).bind fun r_10 =>
  okk (mK M9 r0 = 11) <|
  (mR M9 r0 2).bind fun r_11 =>
  okk (r_9 ≤ nx M9) <| okk (r0 ≤ r_9) <|
  (d_X10_init r_9 r_10 r_11 M9).bind fun y5 =>
  okk (mK y5.2 r0 = 11) <|
  bnd (sR y5.2 r0 4 (some r_9)) fun M10 =>
  okk (mK M10 r0 = 11) <|
  bnd (sI M10 r0 5 (1 : Int32)) fun M11 =>
  some ((), M11)
noncomputable def d_X11_addFunction_9 (M : Mem) : Option ((Int32 ⊕ String) × Mem) :=
  some (.inr "java/lang/IllegalArgumentException", tk M 6)
noncomputable def d_X11_addFunction (x1 : Int32) (M : Mem) : Option ((Int32 ⊕ String) × Mem) :=
  if x1 < 0 then (
    d_X11_addFunction_9 M)
  else (
    if x1 ≤ (3 : Int32) then (
      if (mI M 2 8) < (8 : Int32) then (
        (d_X5_addFunctionWith x1 M).bind fun y1 =>
        some (.inl y1.1, y1.2))
      else (
        some (.inr "java/lang/IllegalStateException", tk M 6)))
    else (
      d_X11_addFunction_9 M))
noncomputable def d_X11_needFunction (x1 : Int32) (M : Mem) : Option ((Unit ⊕ String) × Mem) :=
  (d_X5_hasFunction x1 M).bind fun y1 =>
  if y1.1 = 0 then (
    some (.inr "java/lang/IndexOutOfBoundsException", tk y1.2 6))
  else (
    some (.inl (), y1.2))
noncomputable def d_X11_code (x1 : Int32) (x2 : Int32) (x3 : Int32) (M : Mem) : Option ((Int32 ⊕ String) × Mem) :=
  (d_X11_needFunction x1 M).bind fun y1 => match y1 with
  | (.inl y1, N1) => (
    if 0 ≤ (xIdx 0 x2) then (
      (d_X5_allowsOperand x2 x3 N1).bind fun y2 =>
      if y2.1 = 0 then (
        some (.inr "java/lang/IllegalArgumentException", tk y2.2 6))
      else (
        okk (vp_in x1 8) <|
        if (mI y2.2 4 x1.toNatClampNeg) < (40 : Int32) then (
          (d_X5_append x1 x2 x3 y2.2).bind fun y3 =>
          some (.inl y3.1, y3.2))
        else (
          some (.inr "java/lang/IllegalStateException", tk y2.2 6))))
    else (
      some (.inr "java/lang/IllegalArgumentException", tk N1 6)))
  | (.inr E1, N1) => (
    some (.inr E1, N1))
noncomputable def d_X11_needIndex_10 (M : Mem) : Option ((Unit ⊕ String) × Mem) :=
  some (.inr "java/lang/IllegalArgumentException", tk M 6)
noncomputable def d_X11_needIndex (x1 : Int32) (M : Mem) : Option ((Unit ⊕ String) × Mem) :=
  if x1 < 0 then (
    d_X11_needIndex_10 M)
  else (
    if x1 < (40 : Int32) then (
      some (.inl (), M))
    else (
      d_X11_needIndex_10 M))
noncomputable def d_X11_setHandler (x1 : Int32) (x2 : Int32) (M : Mem) : Option ((Int32 ⊕ String) × Mem) :=
  (d_X11_needFunction x1 M).bind fun y1 => match y1 with
  | (.inl y1, N1) => (
    (d_X11_needIndex x2 N1).bind fun y2 => match y2 with
    | (.inl y2, N2) => (
      okk (vp_in x1 8) <|
      bnd ((mI N2 5 x1.toNatClampNeg)) fun b1 =>
      okk (vp_in x1 8) <|
      bnd (sI N2 5 x1.toNatClampNeg x2) fun M1 =>
      some (.inl b1, M1))
    | (.inr E2, N2) => (
      some (.inr E2, N2)))
  | (.inr E1, N1) => (
    some (.inr E1, N1))
noncomputable def d_X11_addClass_26 (x1 : Int32) (M : Mem) : Option ((Int32 ⊕ String) × Mem) :=
  if (mI M 2 9) < (5 : Int32) then (
    if (mI M 11 6) < (60 : Int32) then (
      (d_X5_addClassBelow x1 M).bind fun y1 =>
      (d_X7_addEmpty y1.1 y1.2).bind fun y2 =>
      okk (vp_in y1.1 5) <|
      bnd (sI y2.2 17 y1.1.toNatClampNeg y2.1) fun M1 =>
      some (.inl y1.1, M1))
    else (
      some (.inr "java/lang/UnsupportedOperationException", tk M 6)))
  else (
    some (.inr "java/lang/IllegalStateException", tk M 6))
noncomputable def d_X11_addClass (x1 : Int32) (M : Mem) : Option ((Int32 ⊕ String) × Mem) :=
  if x1 = (-1 : Int32) then (
    d_X11_addClass_26 x1 M)
  else (
    (d_X5_hasClass x1 M).bind fun y1 =>
    if y1.1 = 0 then (
      some (.inr "java/lang/IndexOutOfBoundsException", tk y1.2 6))
    else (
      d_X11_addClass_26 x1 y1.2))
noncomputable def d_X11_isName (x0 : Int32) (M : Mem) : Option (Int32 × Mem) :=
  if x0 < 0 then (
    some ((0 : Int32), M))
  else (
    if (6 : Int32) ≤ x0 then (
      some ((0 : Int32), M))
    else (
      some ((1 : Int32), M)))
noncomputable def d_X11_setMethod (x1 : Int32) (x2 : Int32) (x3 : Int32) (M : Mem) : Option ((Int32 ⊕ String) × Mem) :=
  (d_X5_hasClass x1 M).bind fun y1 =>
  if y1.1 = 0 then (
    some (.inr "java/lang/IndexOutOfBoundsException", tk y1.2 6))
  else (
    (d_X11_isName x2 y1.2).bind fun y2 =>
    if y2.1 = 0 then (
      some (.inr "java/lang/IllegalArgumentException", tk y2.2 6))
    else (
      (d_X5_hasFunction x3 y2.2).bind fun y3 =>
      if y3.1 = 0 then (
        some (.inr "java/util/NoSuchElementException", tk y3.2 6))
      else (
        okk (vp_in x3 8) <|
        if (mI y3.2 3 x3.toNatClampNeg) = (1 : Int32) then (
          okk (vp_in ((x1 * (6 : Int32)) + x2) 30) <|
          bnd (sI y3.2 10 ((x1 * (6 : Int32)) + x2).toNatClampNeg x3) fun M1 =>
          (d_X0_emptyMethods M1).bind fun y4 =>
          (d_X1_throwThoseWith (109 : Int32) (0 : Int32) y4.2).bind fun y5 =>
          some (.inl y5.1, y5.2))
        else (
          some (.inr "java/lang/UnsupportedOperationException", tk y3.2 6)))))
noncomputable def d_X11_setCell_10 (M : Mem) : Option ((Int32 ⊕ String) × Mem) :=
  some (.inr "java/lang/IllegalArgumentException", tk M 6)
noncomputable def d_X11_setCell (x1 : Int32) (x2 : Int32) (M : Mem) : Option ((Int32 ⊕ String) × Mem) :=
  if x1 < 0 then (
    d_X11_setCell_10 M)
  else (
    if x1 < (8 : Int32) then (
      okk (vp_in x1 8) <|
      if (mI M 8 x1.toNatClampNeg) = x2 then (
        some (.inl (0 : Int32), M))
      else (
        okk (vp_in x1 8) <|
        bnd (sI M 8 x1.toNatClampNeg x2) fun M1 =>
        (d_X1_throwThoseWith (107 : Int32) x1 M1).bind fun y1 =>
        some (.inl y1.1, y1.2)))
    else (
      d_X11_setCell_10 M))
noncomputable def d_X11_setLimits_35 (M : Mem) : Option ((Int32 ⊕ String) × Mem) :=
  some (.inr "java/lang/IllegalArgumentException", tk M 6)
noncomputable def d_X11_setLimits (x1 : Int32) (x2 : Int32) (x3 : Int32) (M : Mem) : Option ((Int32 ⊕ String) × Mem) :=
  if x1 < (2 : Int32) then (
    d_X11_setLimits_35 M)
  else (
    if (50 : Int32) < x1 then (
      d_X11_setLimits_35 M)
    else (
      if x2 < (1 : Int32) then (
        d_X11_setLimits_35 M)
      else (
        if (20 : Int32) < x2 then (
          d_X11_setLimits_35 M)
        else (
          if x3 < (10 : Int32) then (
            d_X11_setLimits_35 M)
          else (
            if x3 ≤ (200 : Int32) then (
              bnd (sI M 38 5 x1) fun M1 =>
              bnd (sI M1 38 6 x2) fun M2 =>
              bnd (sI M2 67 4 x3) fun M3 =>
              (d_X1_shrink M3).bind fun y1 =>
              some (.inl y1.1, y1.2))
            else (
              d_X11_setLimits_35 M))))))
noncomputable def d_X11_run_138 (M : Mem) : Option ((Int32 ⊕ String) × Mem) :=
  (d_X10_breakOff M).bind fun y1 =>
  (d_X3_endedLike y1.2).bind fun y2 =>
  okk (isBo y2.1) <|
  bnd (sI y2.2 1 5 y2.1) fun M1 =>
  some (.inl (mI M1 18 12), M1)
noncomputable def d_X11_run_132 (k78 : (Int32) → Mem → Option ((Int32 ⊕ String) × Mem)) (x4 : Int32) (M : Mem) : Option ((Int32 ⊕ String) × Mem) :=
  bnd ((x4 + (1 : Int32))) fun b1 =>
  k78 (b1) M
noncomputable def d_X11_run_78b (k78 : (Int32) → Mem → Option ((Int32 ⊕ String) × Mem)) (x4 : Int32) (M : Mem) : Option ((Int32 ⊕ String) × Mem) :=
  if (1000000 : Int32) ≤ x4 then (
    d_X11_run_138 M)
  else (
    (d_X3_isRunning 18 M).bind fun y1 =>
    if y1.1 = 0 then (
      d_X11_run_138 y1.2)
    else (
      if (mI y1.2 38 8) = 0 then (
        (d_X10_canExecute y1.2).bind fun y2 =>
        if y2.1 = 0 then (
          d_X11_run_132 k78 x4 y2.2)
        else (
          (d_X10_executeOutside y2.2).bind fun y3 =>
          d_X11_run_132 k78 x4 y3.2))
      else (
        (d_X10_turnInTrace y1.2).bind fun y4 =>
        d_X11_run_132 k78 x4 y4.2)))
noncomputable def d_X11_run_78 : Nat → (Int32) → Mem → Option ((Int32 ⊕ String) × Mem) := lp fun k a M => d_X11_run_78b k a M
noncomputable def d_X11_run (x1 : Int32) (x2 : Int32) (M : Mem) : Option ((Int32 ⊕ String) × Mem) :=
  (d_X11_needFunction x1 M).bind fun y1 => match y1 with
  | (.inl y1, N1) => (
    okk (vp_in x1 8) <|
    if (mI N1 3 x1.toNatClampNeg) = 0 then (
      some (.inr "java/lang/UnsupportedOperationException", tk N1 6))
    else (
      bnd ((mI N1 11 6)) fun b1 =>
      (d_X3_begin 28 x1 x2 N1).bind fun y2 =>
      (d_X3_runOut 28 y2.2).bind fun y3 =>
      (d_X7_takeBack b1 y3.2).bind fun y4 =>
      (d_X3_begin 18 x1 x2 y4.2).bind fun y5 =>
      (d_X10_begin y5.2).bind fun y6 =>
      d_X11_run_78 fuel ((0 : Int32)) y6.2))
  | (.inr E1, N1) => (
    some (.inr E1, N1))
noncomputable def d_X11_outcome (M : Mem) : Option (Int32 × Mem) :=
  okk (isCh (mI M 18 13)) <|
  some ((mI M 18 13), M)
noncomputable def d_X11_needEnding (x1 : Int32) (M : Mem) : Option ((Unit ⊕ String) × Mem) :=
  if (mI M 18 13) = x1 then (
    some (.inl (), M))
  else (
    some (.inr "java/util/NoSuchElementException", tk M 6))
noncomputable def d_X11_resultKind (M : Mem) : Option ((Int32 ⊕ String) × Mem) :=
  (d_X11_needEnding (118 : Int32) M).bind fun y1 => match y1 with
  | (.inl y1, N1) => (
    okk (isCh (mI N1 20 548)) <|
    some (.inl (mI N1 20 548), N1))
  | (.inr E1, N1) => (
    some (.inr E1, N1))
noncomputable def d_X11_result (M : Mem) : Option ((Int64 ⊕ String) × Mem) :=
  (d_X11_needEnding (118 : Int32) M).bind fun y1 => match y1 with
  | (.inl y1, N1) => (
    (d_X8_bitsAt 18 (548 : Int32) N1).bind fun y2 =>
    some (.inl y2.1, y2.2))
  | (.inr E1, N1) => (
    some (.inr E1, N1))
noncomputable def d_X11_failure (M : Mem) : Option ((Int32 ⊕ String) × Mem) :=
  (d_X11_needEnding (120 : Int32) M).bind fun y1 => match y1 with
  | (.inl y1, N1) => (
    okk (isCh (mI N1 18 14)) <|
    some (.inl (mI N1 18 14), N1))
  | (.inr E1, N1) => (
    some (.inr E1, N1))
noncomputable def d_X11_line (M : Mem) : Option ((Int32 ⊕ String) × Mem) :=
  (d_X11_needEnding (120 : Int32) M).bind fun y1 => match y1 with
  | (.inl y1, N1) => (
    some (.inl (mI N1 18 15), N1))
  | (.inr E1, N1) => (
    some (.inr E1, N1))
noncomputable def d_X11_told (M : Mem) : Option (Int32 × Mem) :=
  some ((mI M 18 11), M)
noncomputable def d_X11_needTold_15 (M : Mem) : Option ((Unit ⊕ String) × Mem) :=
  some (.inr "java/lang/IndexOutOfBoundsException", tk M 6)
noncomputable def d_X11_needTold (x1 : Int32) (M : Mem) : Option ((Unit ⊕ String) × Mem) :=
  if x1 < 0 then (
    d_X11_needTold_15 M)
  else (
    if x1 < (mI M 18 11) then (
      some (.inl (), M))
    else (
      d_X11_needTold_15 M))
noncomputable def d_X11_toldKind (x1 : Int32) (M : Mem) : Option ((Int32 ⊕ String) × Mem) :=
  (d_X11_needTold x1 M).bind fun y1 => match y1 with
  | (.inl y1, N1) => (
    okk (vp_in ((528 : Int32) + x1) 549) <|
    okk (isCh (mI N1 20 ((528 : Int32) + x1).toNatClampNeg)) <|
    some (.inl (mI N1 20 ((528 : Int32) + x1).toNatClampNeg), N1))
  | (.inr E1, N1) => (
    some (.inr E1, N1))
noncomputable def d_X11_toldAt (x1 : Int32) (M : Mem) : Option ((Int64 ⊕ String) × Mem) :=
  (d_X11_needTold x1 M).bind fun y1 => match y1 with
  | (.inl y1, N1) => (
    (d_X8_bitsAt 18 ((528 : Int32) + x1) N1).bind fun y2 =>
    some (.inl y2.1, y2.2))
  | (.inr E1, N1) => (
    some (.inr E1, N1))
noncomputable def d_X11_objects (M : Mem) : Option (Int32 × Mem) :=
  some ((mI M 18 10), M)
noncomputable def d_X11_needObject_15 (M : Mem) : Option ((Unit ⊕ String) × Mem) :=
  some (.inr "java/lang/IndexOutOfBoundsException", tk M 6)
noncomputable def d_X11_needObject (x1 : Int32) (M : Mem) : Option ((Unit ⊕ String) × Mem) :=
  if x1 < 0 then (
    d_X11_needObject_15 M)
  else (
    if x1 < (mI M 18 10) then (
      some (.inl (), M))
    else (
      d_X11_needObject_15 M))
noncomputable def d_X11_shapeOf (x1 : Int32) (M : Mem) : Option ((Int32 ⊕ String) × Mem) :=
  (d_X11_needObject x1 M).bind fun y1 => match y1 with
  | (.inl y1, N1) => (
    okk (vp_in x1 60) <|
    some (.inl (mI N1 27 x1.toNatClampNeg), N1))
  | (.inr E1, N1) => (
    some (.inr E1, N1))
noncomputable def d_X11_field_32 (M : Mem) : Option ((Int64 ⊕ String) × Mem) :=
  some (.inr "java/util/NoSuchElementException", tk M 6)
noncomputable def d_X11_field (x1 : Int32) (x2 : Int32) (M : Mem) : Option ((Int64 ⊕ String) × Mem) :=
  (d_X11_needObject x1 M).bind fun y1 => match y1 with
  | (.inl y1, N1) => (
    (d_X11_isName x2 N1).bind fun y2 =>
    if y2.1 = 0 then (
      d_X11_field_32 y2.2)
    else (
      okk (vp_in x1 60) <|
      (d_X7_has (mI y2.2 27 x1.toNatClampNeg) x2 y2.2).bind fun y3 =>
      if y3.1 = 0 then (
        d_X11_field_32 y3.2)
      else (
        (d_X11_fieldPlace x1 x2 y3.2).bind fun y4 =>
        (d_X8_bitsAt 18 y4.1 y4.2).bind fun y5 =>
        some (.inl y5.1, y5.2))))
  | (.inr E1, N1) => (
    some (.inr E1, N1))
noncomputable def d_X11_shapes (M : Mem) : Option (Int32 × Mem) :=
  some ((mI M 11 6), M)
noncomputable def d_X11_needShape_15 (M : Mem) : Option ((Unit ⊕ String) × Mem) :=
  some (.inr "java/lang/IndexOutOfBoundsException", tk M 6)
noncomputable def d_X11_needShape (x1 : Int32) (M : Mem) : Option ((Unit ⊕ String) × Mem) :=
  if x1 < 0 then (
    d_X11_needShape_15 M)
  else (
    if x1 < (mI M 11 6) then (
      some (.inl (), M))
    else (
      d_X11_needShape_15 M))
noncomputable def d_X11_fields (x1 : Int32) (M : Mem) : Option ((Int32 ⊕ String) × Mem) :=
  (d_X11_needShape x1 M).bind fun y1 => match y1 with
  | (.inl y1, N1) => (
    okk (vp_in x1 60) <|
    some (.inl (mI N1 13 x1.toNatClampNeg), N1))
  | (.inr E1, N1) => (
    some (.inr E1, N1))
noncomputable def d_X11_fieldAt_22 (M : Mem) : Option ((Int32 ⊕ String) × Mem) :=
  some (.inr "java/util/NoSuchElementException", tk M 6)
noncomputable def d_X11_fieldAt (x1 : Int32) (x2 : Int32) (M : Mem) : Option ((Int32 ⊕ String) × Mem) :=
  (d_X11_needShape x1 M).bind fun y1 => match y1 with
  | (.inl y1, N1) => (
    if x2 < 0 then (
      d_X11_fieldAt_22 N1)
    else (
      okk (vp_in x1 60) <|
      if x2 < (mI N1 13 x1.toNatClampNeg) then (
        okk (vp_in ((x1 * (6 : Int32)) + x2) 360) <|
        some (.inl (mI N1 15 ((x1 * (6 : Int32)) + x2).toNatClampNeg), N1))
      else (
        d_X11_fieldAt_22 N1)))
  | (.inr E1, N1) => (
    some (.inr E1, N1))
noncomputable def d_X11_nextShape_30 (M : Mem) : Option ((Int32 ⊕ String) × Mem) :=
  some (.inr "java/util/NoSuchElementException", tk M 6)
noncomputable def d_X11_nextShape (x1 : Int32) (x2 : Int32) (M : Mem) : Option ((Int32 ⊕ String) × Mem) :=
  (d_X11_needShape x1 M).bind fun y1 => match y1 with
  | (.inl y1, N1) => (
    (d_X11_isName x2 N1).bind fun y2 =>
    if y2.1 = 0 then (
      d_X11_nextShape_30 y2.2)
    else (
      okk (vp_in ((x1 * (6 : Int32)) + x2) 360) <|
      if (mI y2.2 16 ((x1 * (6 : Int32)) + x2).toNatClampNeg) = (-1 : Int32) then (
        d_X11_nextShape_30 y2.2)
      else (
        okk (vp_in ((x1 * (6 : Int32)) + x2) 360) <|
        some (.inl (mI y2.2 16 ((x1 * (6 : Int32)) + x2).toNatClampNeg), y2.2))))
  | (.inr E1, N1) => (
    some (.inr E1, N1))
noncomputable def d_X11_cacheSite_39 (M : Mem) : Option ((Int32 ⊕ String) × Mem) :=
  some (.inr "java/util/NoSuchElementException", tk M 6)
noncomputable def d_X11_cacheSite (x1 : Int32) (x2 : Int32) (M : Mem) : Option ((Int32 ⊕ String) × Mem) :=
  (d_X11_needFunction x1 M).bind fun y1 => match y1 with
  | (.inl y1, N1) => (
    (d_X5_hasCode x1 x2 N1).bind fun y2 =>
    if y2.1 = 0 then (
      d_X11_cacheSite_39 y2.2)
    else (
      (d_X11_siteOf x1 x2 y2.2).bind fun y3 =>
      okk (vp_in y3.1 320) <|
      if 0 ≤ (xIdx 6 (mI y3.2 6 y3.1.toNatClampNeg)) then (
        (d_X11_siteOf x1 x2 y3.2).bind fun y4 =>
        some (.inl y4.1, y4.2))
      else (
        d_X11_cacheSite_39 y3.2)))
  | (.inr E1, N1) => (
    some (.inr E1, N1))
noncomputable def d_X11_cacheState (x1 : Int32) (x2 : Int32) (M : Mem) : Option ((Int32 ⊕ String) × Mem) :=
  (d_X11_cacheSite x1 x2 M).bind fun y1 => match y1 with
  | (.inl y1, N1) => (
    (d_X0_stateAt y1 N1).bind fun y2 =>
    okk (isCh y2.1) <|
    some (.inl y2.1, y2.2))
  | (.inr E1, N1) => (
    some (.inr E1, N1))
noncomputable def d_X11_hits (x1 : Int32) (x2 : Int32) (M : Mem) : Option ((Int32 ⊕ String) × Mem) :=
  (d_X11_cacheSite x1 x2 M).bind fun y1 => match y1 with
  | (.inl y1, N1) => (
    okk (vp_in y1 320) <|
    some (.inl (mI N1 42 y1.toNatClampNeg), N1))
  | (.inr E1, N1) => (
    some (.inr E1, N1))
noncomputable def d_X11_misses (x1 : Int32) (x2 : Int32) (M : Mem) : Option ((Int32 ⊕ String) × Mem) :=
  (d_X11_cacheSite x1 x2 M).bind fun y1 => match y1 with
  | (.inl y1, N1) => (
    okk (vp_in y1 320) <|
    some (.inl (mI N1 43 y1.toNatClampNeg), N1))
  | (.inr E1, N1) => (
    some (.inr E1, N1))
noncomputable def d_X11_counter (x1 : Int32) (x2 : Int32) (M : Mem) : Option ((Int32 ⊕ String) × Mem) :=
  (d_X11_needFunction x1 M).bind fun y1 => match y1 with
  | (.inl y1, N1) => (
    (d_X11_needIndex x2 N1).bind fun y2 => match y2 with
    | (.inl y2, N2) => (
      (d_X11_siteOf x1 x2 N2).bind fun y3 =>
      okk (vp_in y3.1 320) <|
      some (.inl (mI y3.2 45 y3.1.toNatClampNeg), y3.2))
    | (.inr E2, N2) => (
      some (.inr E2, N2)))
  | (.inr E1, N1) => (
    some (.inr E1, N1))
noncomputable def d_X11_isBarred (x1 : Int32) (x2 : Int32) (M : Mem) : Option ((Int32 ⊕ String) × Mem) :=
  (d_X11_needFunction x1 M).bind fun y1 => match y1 with
  | (.inl y1, N1) => (
    (d_X11_needIndex x2 N1).bind fun y2 => match y2 with
    | (.inl y2, N2) => (
      (d_X11_siteOf x1 x2 N2).bind fun y3 =>
      (d_X2_bars y3.1 y3.2).bind fun y4 =>
      okk (isBo y4.1) <|
      some (.inl y4.1, y4.2))
    | (.inr E2, N2) => (
      some (.inr E2, N2)))
  | (.inr E1, N1) => (
    some (.inr E1, N1))
noncomputable def d_X11_traces (M : Mem) : Option (Int32 × Mem) :=
  some ((mI M 67 3), M)
noncomputable def d_X11_traceAt_18 (M : Mem) : Option ((Nat ⊕ String) × Mem) :=
  some (.inr "java/lang/IndexOutOfBoundsException", tk M 6)
noncomputable def d_X11_traceAt (x1 : Int32) (M : Mem) : Option ((Nat ⊕ String) × Mem) :=
  if x1 < 0 then (
    d_X11_traceAt_18 M)
  else (
    if x1 < (mI M 67 3) then (
      okk (vp_in x1 20) <|
      (mR M 68 x1.toNatClampNeg).bind fun r_1 =>
      some (.inl r_1, M))
    else (
      d_X11_traceAt_18 M))
noncomputable def d_X11_isThere (x1 : Int32) (M : Mem) : Option ((Int32 ⊕ String) × Mem) :=
  (d_X11_traceAt x1 M).bind fun y1 => match y1 with
  | (.inl y1, N1) => (
    okk (mK N1 y1 = 9) <|
    okk (isBo (mI N1 y1 14)) <|
    some (.inl (mI N1 y1 14), N1))
  | (.inr E1, N1) => (
    some (.inr E1, N1))
noncomputable def d_X11_steps (x1 : Int32) (M : Mem) : Option ((Int32 ⊕ String) × Mem) :=
  (d_X11_traceAt x1 M).bind fun y1 => match y1 with
  | (.inl y1, N1) => (
    okk (mK N1 y1 = 9) <|
    some (.inl (mI N1 y1 0), N1))
  | (.inr E1, N1) => (
    some (.inr E1, N1))
noncomputable def d_X11_lineAt_18 (M : Mem) : Option ((Int32 ⊕ String) × Mem) :=
  some (.inr "java/util/NoSuchElementException", tk M 6)
noncomputable def d_X11_lineAt (x1 : Int32) (x2 : Int32) (M : Mem) : Option ((Int32 ⊕ String) × Mem) :=
  (d_X11_traceAt x1 M).bind fun y1 => match y1 with
  | (.inl y1, N1) => (
    if x2 < 0 then (
      d_X11_lineAt_18 N1)
    else (
      okk (mK N1 y1 = 9) <|
      if x2 < (mI N1 y1 0) then (
        okk (mK N1 y1 = 9) <|
        (mR N1 y1 2).bind fun r_1 =>
        okk (mK N1 r_1 = 21) <|
        okk (vp_in x2 (mN N1 r_1)) <|
        some (.inl (mI N1 r_1 x2.toNatClampNeg), N1))
      else (
        d_X11_lineAt_18 N1)))
  | (.inr E1, N1) => (
    some (.inr E1, N1))
noncomputable def d_X11_guards (x1 : Int32) (M : Mem) : Option ((Int32 ⊕ String) × Mem) :=
  (d_X11_traceAt x1 M).bind fun y1 => match y1 with
  | (.inl y1, N1) => (
    okk (mK N1 y1 = 9) <|
    some (.inl (mI N1 y1 1), N1))
  | (.inr E1, N1) => (
    some (.inr E1, N1))
noncomputable def d_X11_traceWithGuard_18 (M : Mem) : Option ((Nat ⊕ String) × Mem) :=
  some (.inr "java/lang/IndexOutOfBoundsException", tk M 6)
noncomputable def d_X11_traceWithGuard (x1 : Int32) (x2 : Int32) (M : Mem) : Option ((Nat ⊕ String) × Mem) :=
  (d_X11_traceAt x1 M).bind fun y1 => match y1 with
  | (.inl y1, N1) => (
    if x2 < 0 then (
      d_X11_traceWithGuard_18 N1)
    else (
      okk (mK N1 y1 = 9) <|
      if x2 < (mI N1 y1 1) then (
        some (.inl y1, N1))
      else (
        d_X11_traceWithGuard_18 N1)))
  | (.inr E1, N1) => (
    some (.inr E1, N1))
noncomputable def d_X11_guardAt (x1 : Int32) (x2 : Int32) (M : Mem) : Option ((Int32 ⊕ String) × Mem) :=
  (d_X11_traceWithGuard x1 x2 M).bind fun y1 => match y1 with
  | (.inl y1, N1) => (
    okk (mK N1 y1 = 9) <|
    (mR N1 y1 4).bind fun r_1 =>
    okk (mK N1 r_1 = 21) <|
    okk (vp_in x2 (mN N1 r_1)) <|
    okk (isCh (((mI N1 r_1 x2.toNatClampNeg).toUInt32 % 65536).toInt32)) <|
    some (.inl (((mI N1 r_1 x2.toNatClampNeg).toUInt32 % 65536).toInt32), N1))
  | (.inr E1, N1) => (
    some (.inr E1, N1))
noncomputable def d_X11_guardStep (x1 : Int32) (x2 : Int32) (M : Mem) : Option ((Int32 ⊕ String) × Mem) :=
  (d_X11_traceWithGuard x1 x2 M).bind fun y1 => match y1 with
  | (.inl y1, N1) => (
    okk (mK N1 y1 = 9) <|
    (mR N1 y1 5).bind fun r_1 =>
    okk (mK N1 r_1 = 21) <|
    okk (vp_in x2 (mN N1 r_1)) <|
    some (.inl (mI N1 r_1 x2.toNatClampNeg), N1))
  | (.inr E1, N1) => (
    some (.inr E1, N1))
noncomputable def d_X11_exits (x1 : Int32) (x2 : Int32) (M : Mem) : Option ((Int32 ⊕ String) × Mem) :=
  (d_X11_traceWithGuard x1 x2 M).bind fun y1 => match y1 with
  | (.inl y1, N1) => (
    okk (mK N1 y1 = 9) <|
    (mR N1 y1 8).bind fun r_1 =>
    okk (mK N1 r_1 = 21) <|
    okk (vp_in x2 (mN N1 r_1)) <|
    some (.inl (mI N1 r_1 x2.toNatClampNeg), N1))
  | (.inr E1, N1) => (
    some (.inr E1, N1))
noncomputable def d_X11_sideOf (x1 : Int32) (x2 : Int32) (M : Mem) : Option ((Int32 ⊕ String) × Mem) :=
  (d_X11_traceWithGuard x1 x2 M).bind fun y1 => match y1 with
  | (.inl y1, N1) => (
    okk (mK N1 y1 = 9) <|
    (mR N1 y1 11).bind fun r_1 =>
    okk (mK N1 r_1 = 21) <|
    okk (vp_in x2 (mN N1 r_1)) <|
    bnd ((mI N1 r_1 x2.toNatClampNeg)) fun b1 =>
    if b1 = (-1 : Int32) then (
      some (.inr "java/util/NoSuchElementException", tk N1 6))
    else (
      some (.inl b1, N1)))
  | (.inr E1, N1) => (
    some (.inr E1, N1))
noncomputable def d_X11_rootOf (x1 : Int32) (M : Mem) : Option ((Int32 ⊕ String) × Mem) :=
  (d_X11_traceAt x1 M).bind fun y1 => match y1 with
  | (.inl y1, N1) => (
    okk (mK N1 y1 = 9) <|
    some (.inl (mI N1 y1 12), N1))
  | (.inr E1, N1) => (
    some (.inr E1, N1))
noncomputable def d_X11_begun (x1 : Int32) (M : Mem) : Option ((Int32 ⊕ String) × Mem) :=
  (d_X11_traceAt x1 M).bind fun y1 => match y1 with
  | (.inl y1, N1) => (
    okk (mK N1 y1 = 9) <|
    some (.inl (mI N1 y1 15), N1))
  | (.inr E1, N1) => (
    some (.inr E1, N1))
noncomputable def d_X11_inTraces (M : Mem) : Option (Int32 × Mem) :=
  some ((mI M 38 7), M)
noncomputable def d_X11_codeSize (M : Mem) : Option (Int32 × Mem) :=
  (d_X1_size M).bind fun y1 =>
  some (y1.1, y1.2)
noncomputable def d_X11_agrees (M : Mem) : Option (Int32 × Mem) :=
  okk (isBo (mI M 1 5)) <|
  some ((mI M 1 5), M)
noncomputable def d_X11_tracedShare (M : Mem) : Option ((UInt32 ⊕ String) × Mem) :=
  if (mI M 18 12) = 0 then (
    some (.inr "java/lang/ArithmeticException", tk M 6))
  else (
    okk (vf_n32 (FP.fdiv (FP.i2f (mI M 38 7)) (FP.i2f (mI M 18 12)))) <|
    some (.inl (FP.fdiv (FP.i2f (mI M 38 7)) (FP.i2f (mI M 18 12))), M))
noncomputable def d_X11_meanGuards (M : Mem) : Option ((UInt64 ⊕ String) × Mem) :=
  (d_X1_countThere M).bind fun y1 =>
  if y1.1 = 0 then (
    some (.inr "java/lang/ArithmeticException", tk y1.2 6))
  else (
    (d_X1_guardsThere y1.2).bind fun y2 =>
    some (.inl (FP.ddiv (FP.i2d y2.1) (FP.i2d y1.1)), y2.2))
noncomputable def d_X11_isSound (M : Mem) : Option (Int32 × Mem) :=
  if (mI M 1 5) = 0 then (
    some ((0 : Int32), M))
  else (
    (d_X1_size M).bind fun y1 =>
    if (mI y1.2 67 4) < y1.1 then (
      some ((0 : Int32), y1.2))
    else (
      (d_X1_hasRoots y1.2).bind fun y2 =>
      if y2.1 = 0 then (
        some ((0 : Int32), y2.2))
      else (
        (d_X0_areSmall y2.2).bind fun y3 =>
        if y3.1 = 0 then (
          some ((0 : Int32), y3.2))
        else (
          some ((1 : Int32), y3.2)))))
noncomputable def d_L_addFunction (x1 : Int32) (M : Mem) : Option (Int32 × Mem) :=
  (d_X11_addFunction x1 M).bind fun y1 => match y1 with
  | (.inl y1, N1) => (
    bnd (sL N1 127 0 (y1.toInt64)) fun M1 =>
    some ((0 : Int32), M1))
  | (.inr E1, N1) => (
    if E1 = "java/lang/IllegalArgumentException" then (
      some ((1 : Int32), N1))
    else if E1 = "java/lang/IllegalStateException" then (
      some ((2 : Int32), N1))
    else none)
noncomputable def d_L_code (x1 : Int32) (x2 : Int32) (x3 : Int32) (M : Mem) : Option (Int32 × Mem) :=
  (d_X11_code x1 x2 x3 M).bind fun y1 => match y1 with
  | (.inl y1, N1) => (
    bnd (sL N1 127 0 (y1.toInt64)) fun M1 =>
    some ((0 : Int32), M1))
  | (.inr E1, N1) => (
    if E1 = "java/lang/IndexOutOfBoundsException" then (
      some ((1 : Int32), N1))
    else if E1 = "java/lang/IllegalArgumentException" then (
      some ((2 : Int32), N1))
    else if E1 = "java/lang/IllegalStateException" then (
      some ((3 : Int32), N1))
    else none)
noncomputable def d_L_setHandler (x1 : Int32) (x2 : Int32) (M : Mem) : Option (Int32 × Mem) :=
  (d_X11_setHandler x1 x2 M).bind fun y1 => match y1 with
  | (.inl y1, N1) => (
    bnd (sL N1 127 0 (y1.toInt64)) fun M1 =>
    some ((0 : Int32), M1))
  | (.inr E1, N1) => (
    if E1 = "java/lang/IndexOutOfBoundsException" then (
      some ((1 : Int32), N1))
    else if E1 = "java/lang/IllegalArgumentException" then (
      some ((2 : Int32), N1))
    else none)
noncomputable def d_L_addClass (x1 : Int32) (M : Mem) : Option (Int32 × Mem) :=
  (d_X11_addClass x1 M).bind fun y1 => match y1 with
  | (.inl y1, N1) => (
    bnd (sL N1 127 0 (y1.toInt64)) fun M1 =>
    some ((0 : Int32), M1))
  | (.inr E1, N1) => (
    if E1 = "java/lang/IndexOutOfBoundsException" then (
      some ((1 : Int32), N1))
    else if E1 = "java/lang/IllegalStateException" then (
      some ((2 : Int32), N1))
    else if E1 = "java/lang/UnsupportedOperationException" then (
      some ((3 : Int32), N1))
    else none)
noncomputable def d_L_setMethod (x1 : Int32) (x2 : Int32) (x3 : Int32) (M : Mem) : Option (Int32 × Mem) :=
  (d_X11_setMethod x1 x2 x3 M).bind fun y1 => match y1 with
  | (.inl y1, N1) => (
    bnd (sL N1 127 0 (y1.toInt64)) fun M1 =>
    some ((0 : Int32), M1))
  | (.inr E1, N1) => (
    if E1 = "java/lang/IndexOutOfBoundsException" then (
      some ((1 : Int32), N1))
    else if E1 = "java/lang/IllegalArgumentException" then (
      some ((2 : Int32), N1))
    else if E1 = "java/util/NoSuchElementException" then (
      some ((3 : Int32), N1))
    else if E1 = "java/lang/UnsupportedOperationException" then (
      some ((4 : Int32), N1))
    else none)
noncomputable def d_L_setCell (x1 : Int32) (x2 : Int32) (M : Mem) : Option (Int32 × Mem) :=
  (d_X11_setCell x1 x2 M).bind fun y1 => match y1 with
  | (.inl y1, N1) => (
    bnd (sL N1 127 0 (y1.toInt64)) fun M1 =>
    some ((0 : Int32), M1))
  | (.inr E1, N1) => (
    if E1 = "java/lang/IllegalArgumentException" then (
      some ((1 : Int32), N1))
    else none)
noncomputable def d_L_setLimits (x1 : Int32) (x2 : Int32) (x3 : Int32) (M : Mem) : Option (Int32 × Mem) :=
  (d_X11_setLimits x1 x2 x3 M).bind fun y1 => match y1 with
  | (.inl y1, N1) => (
    bnd (sL N1 127 0 (y1.toInt64)) fun M1 =>
    some ((0 : Int32), M1))
  | (.inr E1, N1) => (
    if E1 = "java/lang/IllegalArgumentException" then (
      some ((1 : Int32), N1))
    else none)
noncomputable def d_L_run (x1 : Int32) (x2 : Int32) (M : Mem) : Option (Int32 × Mem) :=
  (d_X11_run x1 x2 M).bind fun y1 => match y1 with
  | (.inl y1, N1) => (
    bnd (sL N1 127 0 (y1.toInt64)) fun M1 =>
    some ((0 : Int32), M1))
  | (.inr E1, N1) => (
    if E1 = "java/lang/IndexOutOfBoundsException" then (
      some ((1 : Int32), N1))
    else if E1 = "java/lang/UnsupportedOperationException" then (
      some ((2 : Int32), N1))
    else none)
noncomputable def d_L_resultKind (M : Mem) : Option (Int32 × Mem) :=
  (d_X11_resultKind M).bind fun y1 => match y1 with
  | (.inl y1, N1) => (
    bnd (sL N1 127 0 (y1.toInt64)) fun M1 =>
    some ((0 : Int32), M1))
  | (.inr E1, N1) => (
    if E1 = "java/util/NoSuchElementException" then (
      some ((1 : Int32), N1))
    else none)
noncomputable def d_L_result (M : Mem) : Option (Int32 × Mem) :=
  (d_X11_result M).bind fun y1 => match y1 with
  | (.inl y1, N1) => (
    bnd (sL N1 127 0 y1) fun M1 =>
    some ((0 : Int32), M1))
  | (.inr E1, N1) => (
    if E1 = "java/util/NoSuchElementException" then (
      some ((1 : Int32), N1))
    else none)
noncomputable def d_L_failure (M : Mem) : Option (Int32 × Mem) :=
  (d_X11_failure M).bind fun y1 => match y1 with
  | (.inl y1, N1) => (
    bnd (sL N1 127 0 (y1.toInt64)) fun M1 =>
    some ((0 : Int32), M1))
  | (.inr E1, N1) => (
    if E1 = "java/util/NoSuchElementException" then (
      some ((1 : Int32), N1))
    else none)
noncomputable def d_L_line (M : Mem) : Option (Int32 × Mem) :=
  (d_X11_line M).bind fun y1 => match y1 with
  | (.inl y1, N1) => (
    bnd (sL N1 127 0 (y1.toInt64)) fun M1 =>
    some ((0 : Int32), M1))
  | (.inr E1, N1) => (
    if E1 = "java/util/NoSuchElementException" then (
      some ((1 : Int32), N1))
    else none)
noncomputable def d_L_toldKind (x1 : Int32) (M : Mem) : Option (Int32 × Mem) :=
  (d_X11_toldKind x1 M).bind fun y1 => match y1 with
  | (.inl y1, N1) => (
    bnd (sL N1 127 0 (y1.toInt64)) fun M1 =>
    some ((0 : Int32), M1))
  | (.inr E1, N1) => (
    if E1 = "java/lang/IndexOutOfBoundsException" then (
      some ((1 : Int32), N1))
    else none)
noncomputable def d_L_toldAt (x1 : Int32) (M : Mem) : Option (Int32 × Mem) :=
  (d_X11_toldAt x1 M).bind fun y1 => match y1 with
  | (.inl y1, N1) => (
    bnd (sL N1 127 0 y1) fun M1 =>
    some ((0 : Int32), M1))
  | (.inr E1, N1) => (
    if E1 = "java/lang/IndexOutOfBoundsException" then (
      some ((1 : Int32), N1))
    else none)
noncomputable def d_L_shapeOf (x1 : Int32) (M : Mem) : Option (Int32 × Mem) :=
  (d_X11_shapeOf x1 M).bind fun y1 => match y1 with
  | (.inl y1, N1) => (
    bnd (sL N1 127 0 (y1.toInt64)) fun M1 =>
    some ((0 : Int32), M1))
  | (.inr E1, N1) => (
    if E1 = "java/lang/IndexOutOfBoundsException" then (
      some ((1 : Int32), N1))
    else none)
noncomputable def d_L_field (x1 : Int32) (x2 : Int32) (M : Mem) : Option (Int32 × Mem) :=
  (d_X11_field x1 x2 M).bind fun y1 => match y1 with
  | (.inl y1, N1) => (
    bnd (sL N1 127 0 y1) fun M1 =>
    some ((0 : Int32), M1))
  | (.inr E1, N1) => (
    if E1 = "java/lang/IndexOutOfBoundsException" then (
      some ((1 : Int32), N1))
    else if E1 = "java/util/NoSuchElementException" then (
      some ((2 : Int32), N1))
    else none)
noncomputable def d_L_fields (x1 : Int32) (M : Mem) : Option (Int32 × Mem) :=
  (d_X11_fields x1 M).bind fun y1 => match y1 with
  | (.inl y1, N1) => (
    bnd (sL N1 127 0 (y1.toInt64)) fun M1 =>
    some ((0 : Int32), M1))
  | (.inr E1, N1) => (
    if E1 = "java/lang/IndexOutOfBoundsException" then (
      some ((1 : Int32), N1))
    else none)
noncomputable def d_L_fieldAt (x1 : Int32) (x2 : Int32) (M : Mem) : Option (Int32 × Mem) :=
  (d_X11_fieldAt x1 x2 M).bind fun y1 => match y1 with
  | (.inl y1, N1) => (
    bnd (sL N1 127 0 (y1.toInt64)) fun M1 =>
    some ((0 : Int32), M1))
  | (.inr E1, N1) => (
    if E1 = "java/lang/IndexOutOfBoundsException" then (
      some ((1 : Int32), N1))
    else if E1 = "java/util/NoSuchElementException" then (
      some ((2 : Int32), N1))
    else none)
noncomputable def d_L_nextShape (x1 : Int32) (x2 : Int32) (M : Mem) : Option (Int32 × Mem) :=
  (d_X11_nextShape x1 x2 M).bind fun y1 => match y1 with
  | (.inl y1, N1) => (
    bnd (sL N1 127 0 (y1.toInt64)) fun M1 =>
    some ((0 : Int32), M1))
  | (.inr E1, N1) => (
    if E1 = "java/lang/IndexOutOfBoundsException" then (
      some ((1 : Int32), N1))
    else if E1 = "java/util/NoSuchElementException" then (
      some ((2 : Int32), N1))
    else none)
noncomputable def d_L_cacheState (x1 : Int32) (x2 : Int32) (M : Mem) : Option (Int32 × Mem) :=
  (d_X11_cacheState x1 x2 M).bind fun y1 => match y1 with
  | (.inl y1, N1) => (
    bnd (sL N1 127 0 (y1.toInt64)) fun M1 =>
    some ((0 : Int32), M1))
  | (.inr E1, N1) => (
    if E1 = "java/lang/IndexOutOfBoundsException" then (
      some ((1 : Int32), N1))
    else if E1 = "java/util/NoSuchElementException" then (
      some ((2 : Int32), N1))
    else none)
noncomputable def d_L_hits (x1 : Int32) (x2 : Int32) (M : Mem) : Option (Int32 × Mem) :=
  (d_X11_hits x1 x2 M).bind fun y1 => match y1 with
  | (.inl y1, N1) => (
    bnd (sL N1 127 0 (y1.toInt64)) fun M1 =>
    some ((0 : Int32), M1))
  | (.inr E1, N1) => (
    if E1 = "java/lang/IndexOutOfBoundsException" then (
      some ((1 : Int32), N1))
    else if E1 = "java/util/NoSuchElementException" then (
      some ((2 : Int32), N1))
    else none)
noncomputable def d_L_misses (x1 : Int32) (x2 : Int32) (M : Mem) : Option (Int32 × Mem) :=
  (d_X11_misses x1 x2 M).bind fun y1 => match y1 with
  | (.inl y1, N1) => (
    bnd (sL N1 127 0 (y1.toInt64)) fun M1 =>
    some ((0 : Int32), M1))
  | (.inr E1, N1) => (
    if E1 = "java/lang/IndexOutOfBoundsException" then (
      some ((1 : Int32), N1))
    else if E1 = "java/util/NoSuchElementException" then (
      some ((2 : Int32), N1))
    else none)
noncomputable def d_L_counter (x1 : Int32) (x2 : Int32) (M : Mem) : Option (Int32 × Mem) :=
  (d_X11_counter x1 x2 M).bind fun y1 => match y1 with
  | (.inl y1, N1) => (
    bnd (sL N1 127 0 (y1.toInt64)) fun M1 =>
    some ((0 : Int32), M1))
  | (.inr E1, N1) => (
    if E1 = "java/lang/IndexOutOfBoundsException" then (
      some ((1 : Int32), N1))
    else if E1 = "java/lang/IllegalArgumentException" then (
      some ((2 : Int32), N1))
    else none)
noncomputable def d_L_isBarred (x1 : Int32) (x2 : Int32) (M : Mem) : Option (Int32 × Mem) :=
  (d_X11_isBarred x1 x2 M).bind fun y1 => match y1 with
  | (.inl y1, N1) => (
    if y1 = 0 then (
      bnd (sL N1 127 0 (0 : Int64)) fun M1 =>
      some ((0 : Int32), M1))
    else (
      bnd (sL N1 127 0 (1 : Int64)) fun M2 =>
      some ((0 : Int32), M2)))
  | (.inr E1, N1) => (
    if E1 = "java/lang/IndexOutOfBoundsException" then (
      some ((1 : Int32), N1))
    else if E1 = "java/lang/IllegalArgumentException" then (
      some ((2 : Int32), N1))
    else none)
noncomputable def d_L_isThere (x1 : Int32) (M : Mem) : Option (Int32 × Mem) :=
  (d_X11_isThere x1 M).bind fun y1 => match y1 with
  | (.inl y1, N1) => (
    if y1 = 0 then (
      bnd (sL N1 127 0 (0 : Int64)) fun M1 =>
      some ((0 : Int32), M1))
    else (
      bnd (sL N1 127 0 (1 : Int64)) fun M2 =>
      some ((0 : Int32), M2)))
  | (.inr E1, N1) => (
    if E1 = "java/lang/IndexOutOfBoundsException" then (
      some ((1 : Int32), N1))
    else none)
noncomputable def d_L_steps (x1 : Int32) (M : Mem) : Option (Int32 × Mem) :=
  (d_X11_steps x1 M).bind fun y1 => match y1 with
  | (.inl y1, N1) => (
    bnd (sL N1 127 0 (y1.toInt64)) fun M1 =>
    some ((0 : Int32), M1))
  | (.inr E1, N1) => (
    if E1 = "java/lang/IndexOutOfBoundsException" then (
      some ((1 : Int32), N1))
    else none)
noncomputable def d_L_lineAt (x1 : Int32) (x2 : Int32) (M : Mem) : Option (Int32 × Mem) :=
  (d_X11_lineAt x1 x2 M).bind fun y1 => match y1 with
  | (.inl y1, N1) => (
    bnd (sL N1 127 0 (y1.toInt64)) fun M1 =>
    some ((0 : Int32), M1))
  | (.inr E1, N1) => (
    if E1 = "java/lang/IndexOutOfBoundsException" then (
      some ((1 : Int32), N1))
    else if E1 = "java/util/NoSuchElementException" then (
      some ((2 : Int32), N1))
    else none)
noncomputable def d_L_guards (x1 : Int32) (M : Mem) : Option (Int32 × Mem) :=
  (d_X11_guards x1 M).bind fun y1 => match y1 with
  | (.inl y1, N1) => (
    bnd (sL N1 127 0 (y1.toInt64)) fun M1 =>
    some ((0 : Int32), M1))
  | (.inr E1, N1) => (
    if E1 = "java/lang/IndexOutOfBoundsException" then (
      some ((1 : Int32), N1))
    else none)
noncomputable def d_L_guardAt (x1 : Int32) (x2 : Int32) (M : Mem) : Option (Int32 × Mem) :=
  (d_X11_guardAt x1 x2 M).bind fun y1 => match y1 with
  | (.inl y1, N1) => (
    bnd (sL N1 127 0 (y1.toInt64)) fun M1 =>
    some ((0 : Int32), M1))
  | (.inr E1, N1) => (
    if E1 = "java/lang/IndexOutOfBoundsException" then (
      some ((1 : Int32), N1))
    else none)
noncomputable def d_L_guardStep (x1 : Int32) (x2 : Int32) (M : Mem) : Option (Int32 × Mem) :=
  (d_X11_guardStep x1 x2 M).bind fun y1 => match y1 with
  | (.inl y1, N1) => (
    bnd (sL N1 127 0 (y1.toInt64)) fun M1 =>
    some ((0 : Int32), M1))
  | (.inr E1, N1) => (
    if E1 = "java/lang/IndexOutOfBoundsException" then (
      some ((1 : Int32), N1))
    else none)
noncomputable def d_L_exits (x1 : Int32) (x2 : Int32) (M : Mem) : Option (Int32 × Mem) :=
  (d_X11_exits x1 x2 M).bind fun y1 => match y1 with
  | (.inl y1, N1) => (
    bnd (sL N1 127 0 (y1.toInt64)) fun M1 =>
    some ((0 : Int32), M1))
  | (.inr E1, N1) => (
    if E1 = "java/lang/IndexOutOfBoundsException" then (
      some ((1 : Int32), N1))
    else none)
noncomputable def d_L_sideOf (x1 : Int32) (x2 : Int32) (M : Mem) : Option (Int32 × Mem) :=
  (d_X11_sideOf x1 x2 M).bind fun y1 => match y1 with
  | (.inl y1, N1) => (
    bnd (sL N1 127 0 (y1.toInt64)) fun M1 =>
    some ((0 : Int32), M1))
  | (.inr E1, N1) => (
    if E1 = "java/lang/IndexOutOfBoundsException" then (
      some ((1 : Int32), N1))
    else if E1 = "java/util/NoSuchElementException" then (
      some ((2 : Int32), N1))
    else none)
noncomputable def d_L_rootOf (x1 : Int32) (M : Mem) : Option (Int32 × Mem) :=
  (d_X11_rootOf x1 M).bind fun y1 => match y1 with
  | (.inl y1, N1) => (
    bnd (sL N1 127 0 (y1.toInt64)) fun M1 =>
    some ((0 : Int32), M1))
  | (.inr E1, N1) => (
    if E1 = "java/lang/IndexOutOfBoundsException" then (
      some ((1 : Int32), N1))
    else none)
noncomputable def d_L_begun (x1 : Int32) (M : Mem) : Option (Int32 × Mem) :=
  (d_X11_begun x1 M).bind fun y1 => match y1 with
  | (.inl y1, N1) => (
    bnd (sL N1 127 0 (y1.toInt64)) fun M1 =>
    some ((0 : Int32), M1))
  | (.inr E1, N1) => (
    if E1 = "java/lang/IndexOutOfBoundsException" then (
      some ((1 : Int32), N1))
    else none)
noncomputable def d_L_tracedShare (M : Mem) : Option (Int32 × Mem) :=
  (d_X11_tracedShare M).bind fun y1 => match y1 with
  | (.inl y1, N1) => (
    okk (vf_n64 (FP.f2d y1)) <|
    bnd (sD N1 128 0 (FP.f2d y1)) fun M1 =>
    some ((0 : Int32), M1))
  | (.inr E1, N1) => (
    if E1 = "java/lang/ArithmeticException" then (
      some ((1 : Int32), N1))
    else none)
noncomputable def d_L_meanGuards (M : Mem) : Option (Int32 × Mem) :=
  (d_X11_meanGuards M).bind fun y1 => match y1 with
  | (.inl y1, N1) => (
    bnd (sD N1 128 0 y1) fun M1 =>
    some ((0 : Int32), M1))
  | (.inr E1, N1) => (
    if E1 = "java/lang/ArithmeticException" then (
      some ((1 : Int32), N1))
    else none)
noncomputable def d_L_law_2621 (k28 : (Int32) → Mem → Option (Int32 × Mem)) (x5 : Int32) (M : Mem) : Option (Int32 × Mem) :=
  bnd ((x5 + (4 : Int32))) fun b1 =>
  k28 (b1) M
noncomputable def d_L_law_293 (k28 : (Int32) → Mem → Option (Int32 × Mem)) (x5 : Int32) (M : Mem) : Option (Int32 × Mem) :=
  d_L_law_2621 k28 x5 M
noncomputable def d_L_law_375 (k28 : (Int32) → Mem → Option (Int32 × Mem)) (x5 : Int32) (M : Mem) : Option (Int32 × Mem) :=
  d_L_law_2621 k28 x5 M
noncomputable def d_L_law_443 (k28 : (Int32) → Mem → Option (Int32 × Mem)) (x5 : Int32) (M : Mem) : Option (Int32 × Mem) :=
  d_L_law_2621 k28 x5 M
noncomputable def d_L_law_499 (k28 : (Int32) → Mem → Option (Int32 × Mem)) (x5 : Int32) (M : Mem) : Option (Int32 × Mem) :=
  d_L_law_2621 k28 x5 M
noncomputable def d_L_law_579 (k28 : (Int32) → Mem → Option (Int32 × Mem)) (x5 : Int32) (M : Mem) : Option (Int32 × Mem) :=
  d_L_law_2621 k28 x5 M
noncomputable def d_L_law_647 (k28 : (Int32) → Mem → Option (Int32 × Mem)) (x5 : Int32) (M : Mem) : Option (Int32 × Mem) :=
  d_L_law_2621 k28 x5 M
noncomputable def d_L_law_727 (k28 : (Int32) → Mem → Option (Int32 × Mem)) (x5 : Int32) (M : Mem) : Option (Int32 × Mem) :=
  d_L_law_2621 k28 x5 M
noncomputable def d_L_law_795 (k28 : (Int32) → Mem → Option (Int32 × Mem)) (x5 : Int32) (M : Mem) : Option (Int32 × Mem) :=
  d_L_law_2621 k28 x5 M
noncomputable def d_L_law_852 (k28 : (Int32) → Mem → Option (Int32 × Mem)) (x5 : Int32) (M : Mem) : Option (Int32 × Mem) :=
  d_L_law_2621 k28 x5 M
noncomputable def d_L_law_895 (k28 : (Int32) → Mem → Option (Int32 × Mem)) (x5 : Int32) (M : Mem) : Option (Int32 × Mem) :=
  d_L_law_2621 k28 x5 M
noncomputable def d_L_law_939 (k28 : (Int32) → Mem → Option (Int32 × Mem)) (x5 : Int32) (M : Mem) : Option (Int32 × Mem) :=
  d_L_law_2621 k28 x5 M
noncomputable def d_L_law_983 (k28 : (Int32) → Mem → Option (Int32 × Mem)) (x5 : Int32) (M : Mem) : Option (Int32 × Mem) :=
  d_L_law_2621 k28 x5 M
noncomputable def d_L_law_1052 (k28 : (Int32) → Mem → Option (Int32 × Mem)) (x5 : Int32) (M : Mem) : Option (Int32 × Mem) :=
  d_L_law_2621 k28 x5 M
noncomputable def d_L_law_1107 (k28 : (Int32) → Mem → Option (Int32 × Mem)) (x5 : Int32) (M : Mem) : Option (Int32 × Mem) :=
  d_L_law_2621 k28 x5 M
noncomputable def d_L_law_1176 (k28 : (Int32) → Mem → Option (Int32 × Mem)) (x5 : Int32) (M : Mem) : Option (Int32 × Mem) :=
  d_L_law_2621 k28 x5 M
noncomputable def d_L_law_1243 (k28 : (Int32) → Mem → Option (Int32 × Mem)) (x5 : Int32) (M : Mem) : Option (Int32 × Mem) :=
  d_L_law_2621 k28 x5 M
noncomputable def d_L_law_1312 (k28 : (Int32) → Mem → Option (Int32 × Mem)) (x5 : Int32) (M : Mem) : Option (Int32 × Mem) :=
  d_L_law_2621 k28 x5 M
noncomputable def d_L_law_1380 (k28 : (Int32) → Mem → Option (Int32 × Mem)) (x5 : Int32) (M : Mem) : Option (Int32 × Mem) :=
  d_L_law_2621 k28 x5 M
noncomputable def d_L_law_1448 (k28 : (Int32) → Mem → Option (Int32 × Mem)) (x5 : Int32) (M : Mem) : Option (Int32 × Mem) :=
  d_L_law_2621 k28 x5 M
noncomputable def d_L_law_1516 (k28 : (Int32) → Mem → Option (Int32 × Mem)) (x5 : Int32) (M : Mem) : Option (Int32 × Mem) :=
  d_L_law_2621 k28 x5 M
noncomputable def d_L_law_1584 (k28 : (Int32) → Mem → Option (Int32 × Mem)) (x5 : Int32) (M : Mem) : Option (Int32 × Mem) :=
  d_L_law_2621 k28 x5 M
noncomputable def d_L_law_1652 (k28 : (Int32) → Mem → Option (Int32 × Mem)) (x5 : Int32) (M : Mem) : Option (Int32 × Mem) :=
  d_L_law_2621 k28 x5 M
noncomputable def d_L_law_1720 (k28 : (Int32) → Mem → Option (Int32 × Mem)) (x5 : Int32) (M : Mem) : Option (Int32 × Mem) :=
  d_L_law_2621 k28 x5 M
noncomputable def d_L_law_1795 (k28 : (Int32) → Mem → Option (Int32 × Mem)) (x5 : Int32) (M : Mem) : Option (Int32 × Mem) :=
  d_L_law_2621 k28 x5 M
noncomputable def d_L_law_1789 (k28 : (Int32) → Mem → Option (Int32 × Mem)) (x5 : Int32) (s0 : Int64) (s1 : Int64) (M : Mem) : Option (Int32 × Mem) :=
  if (lg_cmp s0 s1) = 0 then (
    d_L_law_1795 k28 x5 M)
  else (
    some ((0 : Int32), M))
noncomputable def d_L_law_1871 (k28 : (Int32) → Mem → Option (Int32 × Mem)) (x5 : Int32) (M : Mem) : Option (Int32 × Mem) :=
  d_L_law_2621 k28 x5 M
noncomputable def d_L_law_1865 (k28 : (Int32) → Mem → Option (Int32 × Mem)) (x5 : Int32) (s0 : Int64) (s1 : Int64) (M : Mem) : Option (Int32 × Mem) :=
  if (lg_cmp s0 s1) = 0 then (
    d_L_law_1871 k28 x5 M)
  else (
    some ((0 : Int32), M))
noncomputable def d_L_law_1927 (k28 : (Int32) → Mem → Option (Int32 × Mem)) (x5 : Int32) (M : Mem) : Option (Int32 × Mem) :=
  d_L_law_2621 k28 x5 M
noncomputable def d_L_law_1995 (k28 : (Int32) → Mem → Option (Int32 × Mem)) (x5 : Int32) (M : Mem) : Option (Int32 × Mem) :=
  d_L_law_2621 k28 x5 M
noncomputable def d_L_law_2051 (k28 : (Int32) → Mem → Option (Int32 × Mem)) (x5 : Int32) (M : Mem) : Option (Int32 × Mem) :=
  d_L_law_2621 k28 x5 M
noncomputable def d_L_law_2119 (k28 : (Int32) → Mem → Option (Int32 × Mem)) (x5 : Int32) (M : Mem) : Option (Int32 × Mem) :=
  d_L_law_2621 k28 x5 M
noncomputable def d_L_law_2187 (k28 : (Int32) → Mem → Option (Int32 × Mem)) (x5 : Int32) (M : Mem) : Option (Int32 × Mem) :=
  d_L_law_2621 k28 x5 M
noncomputable def d_L_law_2255 (k28 : (Int32) → Mem → Option (Int32 × Mem)) (x5 : Int32) (M : Mem) : Option (Int32 × Mem) :=
  d_L_law_2621 k28 x5 M
noncomputable def d_L_law_2323 (k28 : (Int32) → Mem → Option (Int32 × Mem)) (x5 : Int32) (M : Mem) : Option (Int32 × Mem) :=
  d_L_law_2621 k28 x5 M
noncomputable def d_L_law_2379 (k28 : (Int32) → Mem → Option (Int32 × Mem)) (x5 : Int32) (M : Mem) : Option (Int32 × Mem) :=
  d_L_law_2621 k28 x5 M
noncomputable def d_L_law_2435 (k28 : (Int32) → Mem → Option (Int32 × Mem)) (x5 : Int32) (M : Mem) : Option (Int32 × Mem) :=
  d_L_law_2621 k28 x5 M
noncomputable def d_L_law_2540 (k28 : (Int32) → Mem → Option (Int32 × Mem)) (x5 : Int32) (M : Mem) : Option (Int32 × Mem) :=
  d_L_law_2621 k28 x5 M
noncomputable def d_L_law_2605 (k28 : (Int32) → Mem → Option (Int32 × Mem)) (x5 : Int32) (M : Mem) : Option (Int32 × Mem) :=
  d_L_law_2621 k28 x5 M
set_option maxRecDepth 20000 in
noncomputable def d_L_law_28b (k28 : (Int32) → Mem → Option (Int32 × Mem)) (x5 : Int32) (M : Mem) : Option (Int32 × Mem) :=
  if ((nI (mN M 0)) - (4 : Int32)) < x5 then (
    some ((1 : Int32), M))
  else (
    okk (vp_in x5 (mN M 0)) <|
    bnd (((mI M 0 x5.toNatClampNeg) &&& (63 : Int32))) fun b1 =>
    if b1 = (0 : Int32) then (
      okk (vp_in (x5 + (1 : Int32)) (mN M 0)) <|
      (d_L_addFunction (mI M 0 (x5 + (1 : Int32)).toNatClampNeg) M).bind fun y1 =>
      okk (vp_in (x5 + (1 : Int32)) (mN y1.2 0)) <|
      (d_X12_addFunction (mI y1.2 0 (x5 + (1 : Int32)).toNatClampNeg) y1.2).bind fun y2 =>
      (d_X12_thrown y2.2).bind fun y3 =>
      if y3.1 = y1.1 then (
        if y1.1 = 0 then (
          if (lg_cmp (mL y3.2 127 0) (y2.1.toInt64)) = 0 then (
            d_L_law_293 k28 x5 y3.2)
          else (
            some ((0 : Int32), y3.2)))
        else (
          d_L_law_293 k28 x5 y3.2))
      else (
        some ((0 : Int32), y3.2)))
    else if b1 = (1 : Int32) then (
      okk (vp_in (x5 + (1 : Int32)) (mN M 0)) <|
      okk (vp_in (x5 + (2 : Int32)) (mN M 0)) <|
      okk (vp_in (x5 + (3 : Int32)) (mN M 0)) <|
      (d_L_code (mI M 0 (x5 + (1 : Int32)).toNatClampNeg) (((mI M 0 (x5 + (2 : Int32)).toNatClampNeg).toUInt32 % 65536).toInt32) (mI M 0 (x5 + (3 : Int32)).toNatClampNeg) M).bind fun y4 =>
      okk (vp_in (x5 + (1 : Int32)) (mN y4.2 0)) <|
      okk (vp_in (x5 + (2 : Int32)) (mN y4.2 0)) <|
      okk (vp_in (x5 + (3 : Int32)) (mN y4.2 0)) <|
      (d_X12_code (mI y4.2 0 (x5 + (1 : Int32)).toNatClampNeg) (((mI y4.2 0 (x5 + (2 : Int32)).toNatClampNeg).toUInt32 % 65536).toInt32) (mI y4.2 0 (x5 + (3 : Int32)).toNatClampNeg) y4.2).bind fun y5 =>
      (d_X12_thrown y5.2).bind fun y6 =>
      if y6.1 = y4.1 then (
        if y4.1 = 0 then (
          if (lg_cmp (mL y6.2 127 0) (y5.1.toInt64)) = 0 then (
            d_L_law_375 k28 x5 y6.2)
          else (
            some ((0 : Int32), y6.2)))
        else (
          d_L_law_375 k28 x5 y6.2))
      else (
        some ((0 : Int32), y6.2)))
    else if b1 = (2 : Int32) then (
      okk (vp_in (x5 + (1 : Int32)) (mN M 0)) <|
      okk (vp_in (x5 + (2 : Int32)) (mN M 0)) <|
      (d_L_setHandler (mI M 0 (x5 + (1 : Int32)).toNatClampNeg) (mI M 0 (x5 + (2 : Int32)).toNatClampNeg) M).bind fun y7 =>
      okk (vp_in (x5 + (1 : Int32)) (mN y7.2 0)) <|
      okk (vp_in (x5 + (2 : Int32)) (mN y7.2 0)) <|
      (d_X12_setHandler (mI y7.2 0 (x5 + (1 : Int32)).toNatClampNeg) (mI y7.2 0 (x5 + (2 : Int32)).toNatClampNeg) y7.2).bind fun y8 =>
      (d_X12_thrown y8.2).bind fun y9 =>
      if y9.1 = y7.1 then (
        if y7.1 = 0 then (
          if (lg_cmp (mL y9.2 127 0) (y8.1.toInt64)) = 0 then (
            d_L_law_443 k28 x5 y9.2)
          else (
            some ((0 : Int32), y9.2)))
        else (
          d_L_law_443 k28 x5 y9.2))
      else (
        some ((0 : Int32), y9.2)))
    else if b1 = (3 : Int32) then (
      okk (vp_in (x5 + (1 : Int32)) (mN M 0)) <|
      (d_L_addClass (mI M 0 (x5 + (1 : Int32)).toNatClampNeg) M).bind fun y10 =>
      okk (vp_in (x5 + (1 : Int32)) (mN y10.2 0)) <|
      (d_X12_addClass (mI y10.2 0 (x5 + (1 : Int32)).toNatClampNeg) y10.2).bind fun y11 =>
      (d_X12_thrown y11.2).bind fun y12 =>
      if y12.1 = y10.1 then (
        if y10.1 = 0 then (
          if (lg_cmp (mL y12.2 127 0) (y11.1.toInt64)) = 0 then (
            d_L_law_499 k28 x5 y12.2)
          else (
            some ((0 : Int32), y12.2)))
        else (
          d_L_law_499 k28 x5 y12.2))
      else (
        some ((0 : Int32), y12.2)))
    else if b1 = (4 : Int32) then (
      okk (vp_in (x5 + (1 : Int32)) (mN M 0)) <|
      okk (vp_in (x5 + (2 : Int32)) (mN M 0)) <|
      okk (vp_in (x5 + (3 : Int32)) (mN M 0)) <|
      (d_L_setMethod (mI M 0 (x5 + (1 : Int32)).toNatClampNeg) (mI M 0 (x5 + (2 : Int32)).toNatClampNeg) (mI M 0 (x5 + (3 : Int32)).toNatClampNeg) M).bind fun y13 =>
      okk (vp_in (x5 + (1 : Int32)) (mN y13.2 0)) <|
      okk (vp_in (x5 + (2 : Int32)) (mN y13.2 0)) <|
      okk (vp_in (x5 + (3 : Int32)) (mN y13.2 0)) <|
      (d_X12_setMethod (mI y13.2 0 (x5 + (1 : Int32)).toNatClampNeg) (mI y13.2 0 (x5 + (2 : Int32)).toNatClampNeg) (mI y13.2 0 (x5 + (3 : Int32)).toNatClampNeg) y13.2).bind fun y14 =>
      (d_X12_thrown y14.2).bind fun y15 =>
      if y15.1 = y13.1 then (
        if y13.1 = 0 then (
          if (lg_cmp (mL y15.2 127 0) (y14.1.toInt64)) = 0 then (
            d_L_law_579 k28 x5 y15.2)
          else (
            some ((0 : Int32), y15.2)))
        else (
          d_L_law_579 k28 x5 y15.2))
      else (
        some ((0 : Int32), y15.2)))
    else if b1 = (5 : Int32) then (
      okk (vp_in (x5 + (1 : Int32)) (mN M 0)) <|
      okk (vp_in (x5 + (2 : Int32)) (mN M 0)) <|
      (d_L_setCell (mI M 0 (x5 + (1 : Int32)).toNatClampNeg) (mI M 0 (x5 + (2 : Int32)).toNatClampNeg) M).bind fun y16 =>
      okk (vp_in (x5 + (1 : Int32)) (mN y16.2 0)) <|
      okk (vp_in (x5 + (2 : Int32)) (mN y16.2 0)) <|
      (d_X12_setCell (mI y16.2 0 (x5 + (1 : Int32)).toNatClampNeg) (mI y16.2 0 (x5 + (2 : Int32)).toNatClampNeg) y16.2).bind fun y17 =>
      (d_X12_thrown y17.2).bind fun y18 =>
      if y18.1 = y16.1 then (
        if y16.1 = 0 then (
          if (lg_cmp (mL y18.2 127 0) (y17.1.toInt64)) = 0 then (
            d_L_law_647 k28 x5 y18.2)
          else (
            some ((0 : Int32), y18.2)))
        else (
          d_L_law_647 k28 x5 y18.2))
      else (
        some ((0 : Int32), y18.2)))
    else if b1 = (6 : Int32) then (
      okk (vp_in (x5 + (1 : Int32)) (mN M 0)) <|
      okk (vp_in (x5 + (2 : Int32)) (mN M 0)) <|
      okk (vp_in (x5 + (3 : Int32)) (mN M 0)) <|
      (d_L_setLimits (mI M 0 (x5 + (1 : Int32)).toNatClampNeg) (mI M 0 (x5 + (2 : Int32)).toNatClampNeg) (mI M 0 (x5 + (3 : Int32)).toNatClampNeg) M).bind fun y19 =>
      okk (vp_in (x5 + (1 : Int32)) (mN y19.2 0)) <|
      okk (vp_in (x5 + (2 : Int32)) (mN y19.2 0)) <|
      okk (vp_in (x5 + (3 : Int32)) (mN y19.2 0)) <|
      (d_X12_setLimits (mI y19.2 0 (x5 + (1 : Int32)).toNatClampNeg) (mI y19.2 0 (x5 + (2 : Int32)).toNatClampNeg) (mI y19.2 0 (x5 + (3 : Int32)).toNatClampNeg) y19.2).bind fun y20 =>
      (d_X12_thrown y20.2).bind fun y21 =>
      if y21.1 = y19.1 then (
        if y19.1 = 0 then (
          if (lg_cmp (mL y21.2 127 0) (y20.1.toInt64)) = 0 then (
            d_L_law_727 k28 x5 y21.2)
          else (
            some ((0 : Int32), y21.2)))
        else (
          d_L_law_727 k28 x5 y21.2))
      else (
        some ((0 : Int32), y21.2)))
    else if b1 = (7 : Int32) then (
      okk (vp_in (x5 + (1 : Int32)) (mN M 0)) <|
      okk (vp_in (x5 + (2 : Int32)) (mN M 0)) <|
      (d_L_run (mI M 0 (x5 + (1 : Int32)).toNatClampNeg) (mI M 0 (x5 + (2 : Int32)).toNatClampNeg) M).bind fun y22 =>
      okk (vp_in (x5 + (1 : Int32)) (mN y22.2 0)) <|
      okk (vp_in (x5 + (2 : Int32)) (mN y22.2 0)) <|
      (d_X12_run (mI y22.2 0 (x5 + (1 : Int32)).toNatClampNeg) (mI y22.2 0 (x5 + (2 : Int32)).toNatClampNeg) y22.2).bind fun y23 =>
      (d_X12_thrown y23.2).bind fun y24 =>
      if y24.1 = y22.1 then (
        if y22.1 = 0 then (
          if (lg_cmp (mL y24.2 127 0) (y23.1.toInt64)) = 0 then (
            d_L_law_795 k28 x5 y24.2)
          else (
            some ((0 : Int32), y24.2)))
        else (
          d_L_law_795 k28 x5 y24.2))
      else (
        some ((0 : Int32), y24.2)))
    else if b1 = (8 : Int32) then (
      (d_X11_outcome M).bind fun y25 =>
      (d_X12_outcome y25.2).bind fun y26 =>
      if y25.1 = y26.1 then (
        d_L_law_2621 k28 x5 y26.2)
      else (
        some ((0 : Int32), y26.2)))
    else if b1 = (9 : Int32) then (
      (d_L_resultKind M).bind fun y27 =>
      (d_X12_resultKind y27.2).bind fun y28 =>
      (d_X12_thrown y28.2).bind fun y29 =>
      if y29.1 = y27.1 then (
        if y27.1 = 0 then (
          if (lg_cmp (mL y29.2 127 0) (y28.1.toInt64)) = 0 then (
            d_L_law_852 k28 x5 y29.2)
          else (
            some ((0 : Int32), y29.2)))
        else (
          d_L_law_852 k28 x5 y29.2))
      else (
        some ((0 : Int32), y29.2)))
    else if b1 = (10 : Int32) then (
      (d_L_result M).bind fun y30 =>
      (d_X12_result y30.2).bind fun y31 =>
      (d_X12_thrown y31.2).bind fun y32 =>
      if y32.1 = y30.1 then (
        if y30.1 = 0 then (
          if (lg_cmp (mL y32.2 127 0) y31.1) = 0 then (
            d_L_law_895 k28 x5 y32.2)
          else (
            some ((0 : Int32), y32.2)))
        else (
          d_L_law_895 k28 x5 y32.2))
      else (
        some ((0 : Int32), y32.2)))
    else if b1 = (11 : Int32) then (
      (d_L_failure M).bind fun y33 =>
      (d_X12_failure y33.2).bind fun y34 =>
      (d_X12_thrown y34.2).bind fun y35 =>
      if y35.1 = y33.1 then (
        if y33.1 = 0 then (
          if (lg_cmp (mL y35.2 127 0) (y34.1.toInt64)) = 0 then (
            d_L_law_939 k28 x5 y35.2)
          else (
            some ((0 : Int32), y35.2)))
        else (
          d_L_law_939 k28 x5 y35.2))
      else (
        some ((0 : Int32), y35.2)))
    else if b1 = (12 : Int32) then (
      (d_L_line M).bind fun y36 =>
      (d_X12_line y36.2).bind fun y37 =>
      (d_X12_thrown y37.2).bind fun y38 =>
      if y38.1 = y36.1 then (
        if y36.1 = 0 then (
          if (lg_cmp (mL y38.2 127 0) (y37.1.toInt64)) = 0 then (
            d_L_law_983 k28 x5 y38.2)
          else (
            some ((0 : Int32), y38.2)))
        else (
          d_L_law_983 k28 x5 y38.2))
      else (
        some ((0 : Int32), y38.2)))
    else if b1 = (13 : Int32) then (
      (d_X11_told M).bind fun y39 =>
      (d_X12_told_ y39.2).bind fun y40 =>
      if y39.1 = y40.1 then (
        d_L_law_2621 k28 x5 y40.2)
      else (
        some ((0 : Int32), y40.2)))
    else if b1 = (14 : Int32) then (
      okk (vp_in (x5 + (1 : Int32)) (mN M 0)) <|
      (d_L_toldKind (mI M 0 (x5 + (1 : Int32)).toNatClampNeg) M).bind fun y41 =>
      okk (vp_in (x5 + (1 : Int32)) (mN y41.2 0)) <|
      (d_X12_toldKind (mI y41.2 0 (x5 + (1 : Int32)).toNatClampNeg) y41.2).bind fun y42 =>
      (d_X12_thrown y42.2).bind fun y43 =>
      if y43.1 = y41.1 then (
        if y41.1 = 0 then (
          if (lg_cmp (mL y43.2 127 0) (y42.1.toInt64)) = 0 then (
            d_L_law_1052 k28 x5 y43.2)
          else (
            some ((0 : Int32), y43.2)))
        else (
          d_L_law_1052 k28 x5 y43.2))
      else (
        some ((0 : Int32), y43.2)))
    else if b1 = (15 : Int32) then (
      okk (vp_in (x5 + (1 : Int32)) (mN M 0)) <|
      (d_L_toldAt (mI M 0 (x5 + (1 : Int32)).toNatClampNeg) M).bind fun y44 =>
      okk (vp_in (x5 + (1 : Int32)) (mN y44.2 0)) <|
      (d_X12_toldAt (mI y44.2 0 (x5 + (1 : Int32)).toNatClampNeg) y44.2).bind fun y45 =>
      (d_X12_thrown y45.2).bind fun y46 =>
      if y46.1 = y44.1 then (
        if y44.1 = 0 then (
          if (lg_cmp (mL y46.2 127 0) y45.1) = 0 then (
            d_L_law_1107 k28 x5 y46.2)
          else (
            some ((0 : Int32), y46.2)))
        else (
          d_L_law_1107 k28 x5 y46.2))
      else (
        some ((0 : Int32), y46.2)))
    else if b1 = (16 : Int32) then (
      (d_X11_objects M).bind fun y47 =>
      (d_X12_objects y47.2).bind fun y48 =>
      if y47.1 = y48.1 then (
        d_L_law_2621 k28 x5 y48.2)
      else (
        some ((0 : Int32), y48.2)))
    else if b1 = (17 : Int32) then (
      okk (vp_in (x5 + (1 : Int32)) (mN M 0)) <|
      (d_L_shapeOf (mI M 0 (x5 + (1 : Int32)).toNatClampNeg) M).bind fun y49 =>
      okk (vp_in (x5 + (1 : Int32)) (mN y49.2 0)) <|
      (d_X12_shapeOf (mI y49.2 0 (x5 + (1 : Int32)).toNatClampNeg) y49.2).bind fun y50 =>
      (d_X12_thrown y50.2).bind fun y51 =>
      if y51.1 = y49.1 then (
        if y49.1 = 0 then (
          if (lg_cmp (mL y51.2 127 0) (y50.1.toInt64)) = 0 then (
            d_L_law_1176 k28 x5 y51.2)
          else (
            some ((0 : Int32), y51.2)))
        else (
          d_L_law_1176 k28 x5 y51.2))
      else (
        some ((0 : Int32), y51.2)))
    else if b1 = (18 : Int32) then (
      okk (vp_in (x5 + (1 : Int32)) (mN M 0)) <|
      okk (vp_in (x5 + (2 : Int32)) (mN M 0)) <|
      (d_L_field (mI M 0 (x5 + (1 : Int32)).toNatClampNeg) (mI M 0 (x5 + (2 : Int32)).toNatClampNeg) M).bind fun y52 =>
      okk (vp_in (x5 + (1 : Int32)) (mN y52.2 0)) <|
      okk (vp_in (x5 + (2 : Int32)) (mN y52.2 0)) <|
      (d_X12_field (mI y52.2 0 (x5 + (1 : Int32)).toNatClampNeg) (mI y52.2 0 (x5 + (2 : Int32)).toNatClampNeg) y52.2).bind fun y53 =>
      (d_X12_thrown y53.2).bind fun y54 =>
      if y54.1 = y52.1 then (
        if y52.1 = 0 then (
          if (lg_cmp (mL y54.2 127 0) y53.1) = 0 then (
            d_L_law_1243 k28 x5 y54.2)
          else (
            some ((0 : Int32), y54.2)))
        else (
          d_L_law_1243 k28 x5 y54.2))
      else (
        some ((0 : Int32), y54.2)))
    else if b1 = (19 : Int32) then (
      (d_X11_shapes M).bind fun y55 =>
      (d_X12_shapes y55.2).bind fun y56 =>
      if y55.1 = y56.1 then (
        d_L_law_2621 k28 x5 y56.2)
      else (
        some ((0 : Int32), y56.2)))
    else if b1 = (20 : Int32) then (
      okk (vp_in (x5 + (1 : Int32)) (mN M 0)) <|
      (d_L_fields (mI M 0 (x5 + (1 : Int32)).toNatClampNeg) M).bind fun y57 =>
      okk (vp_in (x5 + (1 : Int32)) (mN y57.2 0)) <|
      (d_X12_fields (mI y57.2 0 (x5 + (1 : Int32)).toNatClampNeg) y57.2).bind fun y58 =>
      (d_X12_thrown y58.2).bind fun y59 =>
      if y59.1 = y57.1 then (
        if y57.1 = 0 then (
          if (lg_cmp (mL y59.2 127 0) (y58.1.toInt64)) = 0 then (
            d_L_law_1312 k28 x5 y59.2)
          else (
            some ((0 : Int32), y59.2)))
        else (
          d_L_law_1312 k28 x5 y59.2))
      else (
        some ((0 : Int32), y59.2)))
    else if b1 = (21 : Int32) then (
      okk (vp_in (x5 + (1 : Int32)) (mN M 0)) <|
      okk (vp_in (x5 + (2 : Int32)) (mN M 0)) <|
      (d_L_fieldAt (mI M 0 (x5 + (1 : Int32)).toNatClampNeg) (mI M 0 (x5 + (2 : Int32)).toNatClampNeg) M).bind fun y60 =>
      okk (vp_in (x5 + (1 : Int32)) (mN y60.2 0)) <|
      okk (vp_in (x5 + (2 : Int32)) (mN y60.2 0)) <|
      (d_X12_fieldAt (mI y60.2 0 (x5 + (1 : Int32)).toNatClampNeg) (mI y60.2 0 (x5 + (2 : Int32)).toNatClampNeg) y60.2).bind fun y61 =>
      (d_X12_thrown y61.2).bind fun y62 =>
      if y62.1 = y60.1 then (
        if y60.1 = 0 then (
          if (lg_cmp (mL y62.2 127 0) (y61.1.toInt64)) = 0 then (
            d_L_law_1380 k28 x5 y62.2)
          else (
            some ((0 : Int32), y62.2)))
        else (
          d_L_law_1380 k28 x5 y62.2))
      else (
        some ((0 : Int32), y62.2)))
    else if b1 = (22 : Int32) then (
      okk (vp_in (x5 + (1 : Int32)) (mN M 0)) <|
      okk (vp_in (x5 + (2 : Int32)) (mN M 0)) <|
      (d_L_nextShape (mI M 0 (x5 + (1 : Int32)).toNatClampNeg) (mI M 0 (x5 + (2 : Int32)).toNatClampNeg) M).bind fun y63 =>
      okk (vp_in (x5 + (1 : Int32)) (mN y63.2 0)) <|
      okk (vp_in (x5 + (2 : Int32)) (mN y63.2 0)) <|
      (d_X12_nextShape (mI y63.2 0 (x5 + (1 : Int32)).toNatClampNeg) (mI y63.2 0 (x5 + (2 : Int32)).toNatClampNeg) y63.2).bind fun y64 =>
      (d_X12_thrown y64.2).bind fun y65 =>
      if y65.1 = y63.1 then (
        if y63.1 = 0 then (
          if (lg_cmp (mL y65.2 127 0) (y64.1.toInt64)) = 0 then (
            d_L_law_1448 k28 x5 y65.2)
          else (
            some ((0 : Int32), y65.2)))
        else (
          d_L_law_1448 k28 x5 y65.2))
      else (
        some ((0 : Int32), y65.2)))
    else if b1 = (23 : Int32) then (
      okk (vp_in (x5 + (1 : Int32)) (mN M 0)) <|
      okk (vp_in (x5 + (2 : Int32)) (mN M 0)) <|
      (d_L_cacheState (mI M 0 (x5 + (1 : Int32)).toNatClampNeg) (mI M 0 (x5 + (2 : Int32)).toNatClampNeg) M).bind fun y66 =>
      okk (vp_in (x5 + (1 : Int32)) (mN y66.2 0)) <|
      okk (vp_in (x5 + (2 : Int32)) (mN y66.2 0)) <|
      (d_X12_cacheState (mI y66.2 0 (x5 + (1 : Int32)).toNatClampNeg) (mI y66.2 0 (x5 + (2 : Int32)).toNatClampNeg) y66.2).bind fun y67 =>
      (d_X12_thrown y67.2).bind fun y68 =>
      if y68.1 = y66.1 then (
        if y66.1 = 0 then (
          if (lg_cmp (mL y68.2 127 0) (y67.1.toInt64)) = 0 then (
            d_L_law_1516 k28 x5 y68.2)
          else (
            some ((0 : Int32), y68.2)))
        else (
          d_L_law_1516 k28 x5 y68.2))
      else (
        some ((0 : Int32), y68.2)))
    else if b1 = (24 : Int32) then (
      okk (vp_in (x5 + (1 : Int32)) (mN M 0)) <|
      okk (vp_in (x5 + (2 : Int32)) (mN M 0)) <|
      (d_L_hits (mI M 0 (x5 + (1 : Int32)).toNatClampNeg) (mI M 0 (x5 + (2 : Int32)).toNatClampNeg) M).bind fun y69 =>
      okk (vp_in (x5 + (1 : Int32)) (mN y69.2 0)) <|
      okk (vp_in (x5 + (2 : Int32)) (mN y69.2 0)) <|
      (d_X12_hits (mI y69.2 0 (x5 + (1 : Int32)).toNatClampNeg) (mI y69.2 0 (x5 + (2 : Int32)).toNatClampNeg) y69.2).bind fun y70 =>
      (d_X12_thrown y70.2).bind fun y71 =>
      if y71.1 = y69.1 then (
        if y69.1 = 0 then (
          if (lg_cmp (mL y71.2 127 0) (y70.1.toInt64)) = 0 then (
            d_L_law_1584 k28 x5 y71.2)
          else (
            some ((0 : Int32), y71.2)))
        else (
          d_L_law_1584 k28 x5 y71.2))
      else (
        some ((0 : Int32), y71.2)))
    else if b1 = (25 : Int32) then (
      okk (vp_in (x5 + (1 : Int32)) (mN M 0)) <|
      okk (vp_in (x5 + (2 : Int32)) (mN M 0)) <|
      (d_L_misses (mI M 0 (x5 + (1 : Int32)).toNatClampNeg) (mI M 0 (x5 + (2 : Int32)).toNatClampNeg) M).bind fun y72 =>
      okk (vp_in (x5 + (1 : Int32)) (mN y72.2 0)) <|
      okk (vp_in (x5 + (2 : Int32)) (mN y72.2 0)) <|
      (d_X12_misses (mI y72.2 0 (x5 + (1 : Int32)).toNatClampNeg) (mI y72.2 0 (x5 + (2 : Int32)).toNatClampNeg) y72.2).bind fun y73 =>
      (d_X12_thrown y73.2).bind fun y74 =>
      if y74.1 = y72.1 then (
        if y72.1 = 0 then (
          if (lg_cmp (mL y74.2 127 0) (y73.1.toInt64)) = 0 then (
            d_L_law_1652 k28 x5 y74.2)
          else (
            some ((0 : Int32), y74.2)))
        else (
          d_L_law_1652 k28 x5 y74.2))
      else (
        some ((0 : Int32), y74.2)))
    else if b1 = (26 : Int32) then (
      okk (vp_in (x5 + (1 : Int32)) (mN M 0)) <|
      okk (vp_in (x5 + (2 : Int32)) (mN M 0)) <|
      (d_L_counter (mI M 0 (x5 + (1 : Int32)).toNatClampNeg) (mI M 0 (x5 + (2 : Int32)).toNatClampNeg) M).bind fun y75 =>
      okk (vp_in (x5 + (1 : Int32)) (mN y75.2 0)) <|
      okk (vp_in (x5 + (2 : Int32)) (mN y75.2 0)) <|
      (d_X12_counter (mI y75.2 0 (x5 + (1 : Int32)).toNatClampNeg) (mI y75.2 0 (x5 + (2 : Int32)).toNatClampNeg) y75.2).bind fun y76 =>
      (d_X12_thrown y76.2).bind fun y77 =>
      if y77.1 = y75.1 then (
        if y75.1 = 0 then (
          if (lg_cmp (mL y77.2 127 0) (y76.1.toInt64)) = 0 then (
            d_L_law_1720 k28 x5 y77.2)
          else (
            some ((0 : Int32), y77.2)))
        else (
          d_L_law_1720 k28 x5 y77.2))
      else (
        some ((0 : Int32), y77.2)))
    else if b1 = (27 : Int32) then (
      okk (vp_in (x5 + (1 : Int32)) (mN M 0)) <|
      okk (vp_in (x5 + (2 : Int32)) (mN M 0)) <|
      (d_L_isBarred (mI M 0 (x5 + (1 : Int32)).toNatClampNeg) (mI M 0 (x5 + (2 : Int32)).toNatClampNeg) M).bind fun y78 =>
      okk (vp_in (x5 + (1 : Int32)) (mN y78.2 0)) <|
      okk (vp_in (x5 + (2 : Int32)) (mN y78.2 0)) <|
      (d_X12_isBarred (mI y78.2 0 (x5 + (1 : Int32)).toNatClampNeg) (mI y78.2 0 (x5 + (2 : Int32)).toNatClampNeg) y78.2).bind fun y79 =>
      (d_X12_thrown y79.2).bind fun y80 =>
      if y80.1 = y78.1 then (
        if y78.1 = 0 then (
          if y79.1 = 0 then (
            d_L_law_1789 k28 x5 (mL y80.2 127 0) (0 : Int64) y80.2)
          else (
            d_L_law_1789 k28 x5 (mL y80.2 127 0) (1 : Int64) y80.2))
        else (
          d_L_law_1795 k28 x5 y80.2))
      else (
        some ((0 : Int32), y80.2)))
    else if b1 = (28 : Int32) then (
      (d_X11_traces M).bind fun y81 =>
      (d_X12_traces y81.2).bind fun y82 =>
      if y81.1 = y82.1 then (
        d_L_law_2621 k28 x5 y82.2)
      else (
        some ((0 : Int32), y82.2)))
    else if b1 = (29 : Int32) then (
      okk (vp_in (x5 + (1 : Int32)) (mN M 0)) <|
      (d_L_isThere (mI M 0 (x5 + (1 : Int32)).toNatClampNeg) M).bind fun y83 =>
      okk (vp_in (x5 + (1 : Int32)) (mN y83.2 0)) <|
      (d_X12_isThere (mI y83.2 0 (x5 + (1 : Int32)).toNatClampNeg) y83.2).bind fun y84 =>
      (d_X12_thrown y84.2).bind fun y85 =>
      if y85.1 = y83.1 then (
        if y83.1 = 0 then (
          if y84.1 = 0 then (
            d_L_law_1865 k28 x5 (mL y85.2 127 0) (0 : Int64) y85.2)
          else (
            d_L_law_1865 k28 x5 (mL y85.2 127 0) (1 : Int64) y85.2))
        else (
          d_L_law_1871 k28 x5 y85.2))
      else (
        some ((0 : Int32), y85.2)))
    else if b1 = (30 : Int32) then (
      okk (vp_in (x5 + (1 : Int32)) (mN M 0)) <|
      (d_L_steps (mI M 0 (x5 + (1 : Int32)).toNatClampNeg) M).bind fun y86 =>
      okk (vp_in (x5 + (1 : Int32)) (mN y86.2 0)) <|
      (d_X12_steps (mI y86.2 0 (x5 + (1 : Int32)).toNatClampNeg) y86.2).bind fun y87 =>
      (d_X12_thrown y87.2).bind fun y88 =>
      if y88.1 = y86.1 then (
        if y86.1 = 0 then (
          if (lg_cmp (mL y88.2 127 0) (y87.1.toInt64)) = 0 then (
            d_L_law_1927 k28 x5 y88.2)
          else (
            some ((0 : Int32), y88.2)))
        else (
          d_L_law_1927 k28 x5 y88.2))
      else (
        some ((0 : Int32), y88.2)))
    else if b1 = (31 : Int32) then (
      okk (vp_in (x5 + (1 : Int32)) (mN M 0)) <|
      okk (vp_in (x5 + (2 : Int32)) (mN M 0)) <|
      (d_L_lineAt (mI M 0 (x5 + (1 : Int32)).toNatClampNeg) (mI M 0 (x5 + (2 : Int32)).toNatClampNeg) M).bind fun y89 =>
      okk (vp_in (x5 + (1 : Int32)) (mN y89.2 0)) <|
      okk (vp_in (x5 + (2 : Int32)) (mN y89.2 0)) <|
      (d_X12_lineAt (mI y89.2 0 (x5 + (1 : Int32)).toNatClampNeg) (mI y89.2 0 (x5 + (2 : Int32)).toNatClampNeg) y89.2).bind fun y90 =>
      (d_X12_thrown y90.2).bind fun y91 =>
      if y91.1 = y89.1 then (
        if y89.1 = 0 then (
          if (lg_cmp (mL y91.2 127 0) (y90.1.toInt64)) = 0 then (
            d_L_law_1995 k28 x5 y91.2)
          else (
            some ((0 : Int32), y91.2)))
        else (
          d_L_law_1995 k28 x5 y91.2))
      else (
        some ((0 : Int32), y91.2)))
    else if b1 = (32 : Int32) then (
      okk (vp_in (x5 + (1 : Int32)) (mN M 0)) <|
      (d_L_guards (mI M 0 (x5 + (1 : Int32)).toNatClampNeg) M).bind fun y92 =>
      okk (vp_in (x5 + (1 : Int32)) (mN y92.2 0)) <|
      (d_X12_guards_ (mI y92.2 0 (x5 + (1 : Int32)).toNatClampNeg) y92.2).bind fun y93 =>
      (d_X12_thrown y93.2).bind fun y94 =>
      if y94.1 = y92.1 then (
        if y92.1 = 0 then (
          if (lg_cmp (mL y94.2 127 0) (y93.1.toInt64)) = 0 then (
            d_L_law_2051 k28 x5 y94.2)
          else (
            some ((0 : Int32), y94.2)))
        else (
          d_L_law_2051 k28 x5 y94.2))
      else (
        some ((0 : Int32), y94.2)))
    else if b1 = (33 : Int32) then (
      okk (vp_in (x5 + (1 : Int32)) (mN M 0)) <|
      okk (vp_in (x5 + (2 : Int32)) (mN M 0)) <|
      (d_L_guardAt (mI M 0 (x5 + (1 : Int32)).toNatClampNeg) (mI M 0 (x5 + (2 : Int32)).toNatClampNeg) M).bind fun y95 =>
      okk (vp_in (x5 + (1 : Int32)) (mN y95.2 0)) <|
      okk (vp_in (x5 + (2 : Int32)) (mN y95.2 0)) <|
      (d_X12_guardAt (mI y95.2 0 (x5 + (1 : Int32)).toNatClampNeg) (mI y95.2 0 (x5 + (2 : Int32)).toNatClampNeg) y95.2).bind fun y96 =>
      (d_X12_thrown y96.2).bind fun y97 =>
      if y97.1 = y95.1 then (
        if y95.1 = 0 then (
          if (lg_cmp (mL y97.2 127 0) (y96.1.toInt64)) = 0 then (
            d_L_law_2119 k28 x5 y97.2)
          else (
            some ((0 : Int32), y97.2)))
        else (
          d_L_law_2119 k28 x5 y97.2))
      else (
        some ((0 : Int32), y97.2)))
    else if b1 = (34 : Int32) then (
      okk (vp_in (x5 + (1 : Int32)) (mN M 0)) <|
      okk (vp_in (x5 + (2 : Int32)) (mN M 0)) <|
      (d_L_guardStep (mI M 0 (x5 + (1 : Int32)).toNatClampNeg) (mI M 0 (x5 + (2 : Int32)).toNatClampNeg) M).bind fun y98 =>
      okk (vp_in (x5 + (1 : Int32)) (mN y98.2 0)) <|
      okk (vp_in (x5 + (2 : Int32)) (mN y98.2 0)) <|
      (d_X12_guardStep (mI y98.2 0 (x5 + (1 : Int32)).toNatClampNeg) (mI y98.2 0 (x5 + (2 : Int32)).toNatClampNeg) y98.2).bind fun y99 =>
      (d_X12_thrown y99.2).bind fun y100 =>
      if y100.1 = y98.1 then (
        if y98.1 = 0 then (
          if (lg_cmp (mL y100.2 127 0) (y99.1.toInt64)) = 0 then (
            d_L_law_2187 k28 x5 y100.2)
          else (
            some ((0 : Int32), y100.2)))
        else (
          d_L_law_2187 k28 x5 y100.2))
      else (
        some ((0 : Int32), y100.2)))
    else if b1 = (35 : Int32) then (
      okk (vp_in (x5 + (1 : Int32)) (mN M 0)) <|
      okk (vp_in (x5 + (2 : Int32)) (mN M 0)) <|
      (d_L_exits (mI M 0 (x5 + (1 : Int32)).toNatClampNeg) (mI M 0 (x5 + (2 : Int32)).toNatClampNeg) M).bind fun y101 =>
      okk (vp_in (x5 + (1 : Int32)) (mN y101.2 0)) <|
      okk (vp_in (x5 + (2 : Int32)) (mN y101.2 0)) <|
      (d_X12_exits (mI y101.2 0 (x5 + (1 : Int32)).toNatClampNeg) (mI y101.2 0 (x5 + (2 : Int32)).toNatClampNeg) y101.2).bind fun y102 =>
      (d_X12_thrown y102.2).bind fun y103 =>
      if y103.1 = y101.1 then (
        if y101.1 = 0 then (
          if (lg_cmp (mL y103.2 127 0) (y102.1.toInt64)) = 0 then (
            d_L_law_2255 k28 x5 y103.2)
          else (
            some ((0 : Int32), y103.2)))
        else (
          d_L_law_2255 k28 x5 y103.2))
      else (
        some ((0 : Int32), y103.2)))
    else if b1 = (36 : Int32) then (
      okk (vp_in (x5 + (1 : Int32)) (mN M 0)) <|
      okk (vp_in (x5 + (2 : Int32)) (mN M 0)) <|
      (d_L_sideOf (mI M 0 (x5 + (1 : Int32)).toNatClampNeg) (mI M 0 (x5 + (2 : Int32)).toNatClampNeg) M).bind fun y104 =>
      okk (vp_in (x5 + (1 : Int32)) (mN y104.2 0)) <|
      okk (vp_in (x5 + (2 : Int32)) (mN y104.2 0)) <|
      (d_X12_sideOf (mI y104.2 0 (x5 + (1 : Int32)).toNatClampNeg) (mI y104.2 0 (x5 + (2 : Int32)).toNatClampNeg) y104.2).bind fun y105 =>
      (d_X12_thrown y105.2).bind fun y106 =>
      if y106.1 = y104.1 then (
        if y104.1 = 0 then (
          if (lg_cmp (mL y106.2 127 0) (y105.1.toInt64)) = 0 then (
            d_L_law_2323 k28 x5 y106.2)
          else (
            some ((0 : Int32), y106.2)))
        else (
          d_L_law_2323 k28 x5 y106.2))
      else (
        some ((0 : Int32), y106.2)))
    else if b1 = (37 : Int32) then (
      okk (vp_in (x5 + (1 : Int32)) (mN M 0)) <|
      (d_L_rootOf (mI M 0 (x5 + (1 : Int32)).toNatClampNeg) M).bind fun y107 =>
      okk (vp_in (x5 + (1 : Int32)) (mN y107.2 0)) <|
      (d_X12_rootOf (mI y107.2 0 (x5 + (1 : Int32)).toNatClampNeg) y107.2).bind fun y108 =>
      (d_X12_thrown y108.2).bind fun y109 =>
      if y109.1 = y107.1 then (
        if y107.1 = 0 then (
          if (lg_cmp (mL y109.2 127 0) (y108.1.toInt64)) = 0 then (
            d_L_law_2379 k28 x5 y109.2)
          else (
            some ((0 : Int32), y109.2)))
        else (
          d_L_law_2379 k28 x5 y109.2))
      else (
        some ((0 : Int32), y109.2)))
    else if b1 = (38 : Int32) then (
      okk (vp_in (x5 + (1 : Int32)) (mN M 0)) <|
      (d_L_begun (mI M 0 (x5 + (1 : Int32)).toNatClampNeg) M).bind fun y110 =>
      okk (vp_in (x5 + (1 : Int32)) (mN y110.2 0)) <|
      (d_X12_begun (mI y110.2 0 (x5 + (1 : Int32)).toNatClampNeg) y110.2).bind fun y111 =>
      (d_X12_thrown y111.2).bind fun y112 =>
      if y112.1 = y110.1 then (
        if y110.1 = 0 then (
          if (lg_cmp (mL y112.2 127 0) (y111.1.toInt64)) = 0 then (
            d_L_law_2435 k28 x5 y112.2)
          else (
            some ((0 : Int32), y112.2)))
        else (
          d_L_law_2435 k28 x5 y112.2))
      else (
        some ((0 : Int32), y112.2)))
    else if b1 = (39 : Int32) then (
      (d_X11_inTraces M).bind fun y113 =>
      (d_X12_inTraces y113.2).bind fun y114 =>
      if y113.1 = y114.1 then (
        d_L_law_2621 k28 x5 y114.2)
      else (
        some ((0 : Int32), y114.2)))
    else if b1 = (40 : Int32) then (
      (d_X11_codeSize M).bind fun y115 =>
      (d_X12_codeSize y115.2).bind fun y116 =>
      if y115.1 = y116.1 then (
        d_L_law_2621 k28 x5 y116.2)
      else (
        some ((0 : Int32), y116.2)))
    else if b1 = (41 : Int32) then (
      (d_X11_agrees M).bind fun y117 =>
      (d_X12_agrees y117.2).bind fun y118 =>
      if y117.1 = y118.1 then (
        d_L_law_2621 k28 x5 y118.2)
      else (
        some ((0 : Int32), y118.2)))
    else if b1 = (42 : Int32) then (
      (d_L_tracedShare M).bind fun y119 =>
      (d_X12_tracedShare y119.2).bind fun y120 =>
      (d_X12_thrown y120.2).bind fun y121 =>
      if y121.1 = y119.1 then (
        if y119.1 = 0 then (
          okk (vf_n64 (FP.f2d y120.1)) <|
          if (Op.cmpValue (FP.dcmp (mD y121.2 128 0) (FP.f2d y120.1)) .l) = 0 then (
            d_L_law_2540 k28 x5 y121.2)
          else (
            if (Op.cmpValue (FP.dcmp (mD y121.2 128 0) (mD y121.2 128 0)) .l) = 0 then (
              some ((0 : Int32), y121.2))
            else (
              if (Op.cmpValue (FP.fcmp y120.1 y120.1) .l) = 0 then (
                some ((0 : Int32), y121.2))
              else (
                d_L_law_2540 k28 x5 y121.2))))
        else (
          d_L_law_2540 k28 x5 y121.2))
      else (
        some ((0 : Int32), y121.2)))
    else if b1 = (43 : Int32) then (
      (d_L_meanGuards M).bind fun y122 =>
      (d_X12_meanGuards y122.2).bind fun y123 =>
      (d_X12_thrown y123.2).bind fun y124 =>
      if y124.1 = y122.1 then (
        if y122.1 = 0 then (
          if (Op.cmpValue (FP.dcmp (mD y124.2 128 0) y123.1) .l) = 0 then (
            d_L_law_2605 k28 x5 y124.2)
          else (
            if (Op.cmpValue (FP.dcmp (mD y124.2 128 0) (mD y124.2 128 0)) .l) = 0 then (
              some ((0 : Int32), y124.2))
            else (
              if (Op.cmpValue (FP.dcmp y123.1 y123.1) .l) = 0 then (
                some ((0 : Int32), y124.2))
              else (
                d_L_law_2605 k28 x5 y124.2))))
        else (
          d_L_law_2605 k28 x5 y124.2))
      else (
        some ((0 : Int32), y124.2)))
    else if b1 = (44 : Int32) then (
      (d_X11_isSound M).bind fun y125 =>
      (d_X12_isSound y125.2).bind fun y126 =>
      if y125.1 = y126.1 then (
        d_L_law_2621 k28 x5 y126.2)
      else (
        some ((0 : Int32), y126.2)))
    else (
      d_L_law_2621 k28 x5 M))
noncomputable def d_L_law_28 : Nat → (Int32) → Mem → Option (Int32 × Mem) := lp fun k a M => d_L_law_28b k a M
end VCD
