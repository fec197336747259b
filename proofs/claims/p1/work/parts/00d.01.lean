/-! ===== what the methods reckon (printed by a program) ===== -/
section VCD
noncomputable def d_X12_init_560b (k560 : (Int32) → Mem → Option (Unit × Mem)) (r0 : Nat) (x1 : Int32) (M : Mem) : Option (Unit × Mem) :=
  if (8 : Int32) ≤ x1 then (
    some ((), M))
  else (
    okk (mK M r0 = 12) <|
    (mR M r0 6).bind fun r_1 =>
    okk (mK M r_1 = 21) <|
    okk (vp_in x1 (mN M r_1)) <|
    bnd (sI M r_1 x1.toNatClampNeg (-1 : Int32)) fun M1 =>
    bnd ((x1 + (1 : Int32))) fun b1 =>
    k560 (b1) M1)
noncomputable def d_X12_init_560 (r0 : Nat) : Nat → (Int32) → Mem → Option (Unit × Mem) := lp fun k a M => d_X12_init_560b k r0 a M
noncomputable def d_X12_init_538b (k538 : (Int32) → Mem → Option (Unit × Mem)) (r0 : Nat) (x1 : Int32) (M : Mem) : Option (Unit × Mem) :=
  if (360 : Int32) ≤ x1 then (
    d_X12_init_560 r0 fuel ((0 : Int32)) M)
  else (
    okk (mK M r0 = 12) <|
    (mR M r0 16).bind fun r_1 =>
    okk (mK M r_1 = 21) <|
    okk (vp_in x1 (mN M r_1)) <|
    bnd (sI M r_1 x1.toNatClampNeg (-1 : Int32)) fun M1 =>
    bnd ((x1 + (1 : Int32))) fun b1 =>
    k538 (b1) M1)
noncomputable def d_X12_init_538 (r0 : Nat) : Nat → (Int32) → Mem → Option (Unit × Mem) := lp fun k a M => d_X12_init_538b k r0 a M
noncomputable def d_X12_init_517b (k517 : (Int32) → Mem → Option (Unit × Mem)) (r0 : Nat) (x1 : Int32) (M : Mem) : Option (Unit × Mem) :=
  if (30 : Int32) ≤ x1 then (
    d_X12_init_538 r0 fuel ((0 : Int32)) M)
  else (
    okk (mK M r0 = 12) <|
    (mR M r0 10).bind fun r_1 =>
    okk (mK M r_1 = 21) <|
    okk (vp_in x1 (mN M r_1)) <|
    bnd (sI M r_1 x1.toNatClampNeg (-1 : Int32)) fun M1 =>
    bnd ((x1 + (1 : Int32))) fun b1 =>
    k517 (b1) M1)
noncomputable def d_X12_init_517 (r0 : Nat) : Nat → (Int32) → Mem → Option (Unit × Mem) := lp fun k a M => d_X12_init_517b k r0 a M
set_option maxRecDepth 20000 in
noncomputable def d_X12_init (r0 : Nat) (M : Mem) : Option (Unit × Mem) :=
  bnd (nx M) fun r_1 => okk (r_1 < 2147483648) <|
  bnd (sN M r_1 21 8) fun M1 =>
  okk (mK M1 r0 = 12) <|
  bnd (sR M1 r0 2 (some r_1)) fun M2 =>
  bnd (nx M2) fun r_2 => okk (r_2 < 2147483648) <|
  bnd (sN M2 r_2 21 8) fun M3 =>
  okk (mK M3 r0 = 12) <|
  bnd (sR M3 r0 3 (some r_2)) fun M4 =>
  bnd (nx M4) fun r_3 => okk (r_3 < 2147483648) <|
  bnd (sN M4 r_3 22 320) fun M5 =>
  okk (mK M5 r0 = 12) <|
  bnd (sR M5 r0 4 (some r_3)) fun M6 =>
  bnd (nx M6) fun r_4 => okk (r_4 < 2147483648) <|
  bnd (sN M6 r_4 21 320) fun M7 =>
  okk (mK M7 r0 = 12) <|
  bnd (sR M7 r0 5 (some r_4)) fun M8 =>
  bnd (nx M8) fun r_5 => okk (r_5 < 2147483648) <|
  bnd (sN M8 r_5 21 8) fun M9 =>
  okk (mK M9 r0 = 12) <|
  bnd (sR M9 r0 6 (some r_5)) fun M10 =>
  bnd (nx M10) fun r_6 => okk (r_6 < 2147483648) <|
  bnd (sN M10 r_6 21 8) fun M11 =>
  okk (mK M11 r0 = 12) <|
  bnd (sR M11 r0 7 (some r_6)) fun M12 =>
  bnd (nx M12) fun r_7 => okk (r_7 < 2147483648) <|
  bnd (sN M12 r_7 21 5) fun M13 =>
  okk (mK M13 r0 = 12) <|
  bnd (sR M13 r0 9 (some r_7)) fun M14 =>
  bnd (nx M14) fun r_8 => okk (r_8 < 2147483648) <|
  bnd (sN M14 r_8 21 30) fun M15 =>
  okk (mK M15 r0 = 12) <|
  bnd (sR M15 r0 10 (some r_8)) fun M16 =>
  bnd (nx M16) fun r_9 => okk (r_9 < 2147483648) <|
  bnd (sN M16 r_9 21 5) fun M17 =>
  okk (mK M17 r0 = 12) <|
  bnd (sR M17 r0 11 (some r_9)) fun M18 =>
  bnd (nx M18) fun r_10 => okk (r_10 < 2147483648) <|
  bnd (sN M18 r_10 21 60) fun M19 =>
  okk (mK M19 r0 = 12) <|
  bnd (sR M19 r0 13 (some r_10)) fun M20 =>
  bnd (nx M20) fun r_11 => okk (r_11 < 2147483648) <|
  bnd (sN M20 r_11 21 60) fun M21 =>
  okk (mK M21 r0 = 12) <|
  bnd (sR M21 r0 14 (some r_11)) fun M22 =>
  bnd (nx M22) fun r_12 => okk (r_12 < 2147483648) <|
  bnd (sN M22 r_12 21 360) fun M23 =>
  okk (mK M23 r0 = 12) <|
  bnd (sR M23 r0 15 (some r_12)) fun M24 =>
  bnd (nx M24) fun r_13 => okk (r_13 < 2147483648) <|
  bnd (sN M24 r_13 21 360) fun M25 =>
  okk (mK M25 r0 = 12) <|
  bnd (sR M25 r0 16 (some r_13)) fun M26 =>
  bnd (nx M26) fun r_14 => okk (r_14 < 2147483648) <|
  bnd (sN M26 r_14 21 320) fun M27 =>
  okk (mK M27 r0 = 12) <|
  bnd (sR M27 r0 17 (some r_14)) fun M28 =>
  bnd (nx M28) fun r_15 => okk (r_15 < 2147483648) <|
  bnd (sN M28 r_15 21 960) fun M29 =>
  okk (mK M29 r0 = 12) <|
  bnd (sR M29 r0 18 (some r_15)) fun M30 =>
  bnd (nx M30) fun r_16 => okk (r_16 < 2147483648) <|
  bnd (sN M30 r_16 21 320) fun M31 =>
  okk (mK M31 r0 = 12) <|
  bnd (sR M31 r0 19 (some r_16)) fun M32 =>
  bnd (nx M32) fun r_17 => okk (r_17 < 2147483648) <|
  bnd (sN M32 r_17 21 320) fun M33 =>
  okk (mK M33 r0 = 12) <|
  bnd (sR M33 r0 20 (some r_17)) fun M34 =>
  bnd (nx M34) fun r_18 => okk (r_18 < 2147483648) <|
  bnd (sN M34 r_18 21 320) fun M35 =>
  okk (mK M35 r0 = 12) <|
  bnd (sR M35 r0 21 (some r_18)) fun M36 =>
  bnd (nx M36) fun r_19 => okk (r_19 < 2147483648) <|
  bnd (sN M36 r_19 21 320) fun M37 =>
  okk (mK M37 r0 = 12) <|
  bnd (sR M37 r0 22 (some r_19)) fun M38 =>
  okk (mK M38 r0 = 12) <|
  bnd (sI M38 r0 23 (3 : Int32)) fun M39 =>
  okk (mK M39 r0 = 12) <|
  bnd (sI M39 r0 24 (2 : Int32)) fun M40 =>
  okk (mK M40 r0 = 12) <|
  bnd (sI M40 r0 25 (80 : Int32)) fun M41 =>
  bnd (nx M41) fun r_20 => okk (r_20 < 2147483648) <|
  bnd (sN M41 r_20 23 20) fun M42 =>
  okk (mK M42 r0 = 12) <|
  bnd (sR M42 r0 27 (some r_20)) fun M43 =>
  bnd (nx M43) fun r_21 => okk (r_21 < 2147483648) <|
  bnd (sN M43 r_21 21 20) fun M44 =>
  okk (mK M44 r0 = 12) <|
  bnd (sR M44 r0 28 (some r_21)) fun M45 =>
  bnd (nx M45) fun r_22 => okk (r_22 < 2147483648) <|
  bnd (sN M45 r_22 21 600) fun M46 =>
  okk (mK M46 r0 = 12) <|
  bnd (sR M46 r0 29 (some r_22)) fun M47 =>
  bnd (nx M47) fun r_23 => okk (r_23 < 2147483648) <|
  bnd (sN M47 r_23 21 20) fun M48 =>
  okk (mK M48 r0 = 12) <|
  bnd (sR M48 r0 30 (some r_23)) fun M49 =>
  bnd (nx M49) fun r_24 => okk (r_24 < 2147483648) <|
  bnd (sN M49 r_24 21 20) fun M50 =>
  okk (mK M50 r0 = 12) <|
  bnd (sR M50 r0 31 (some r_24)) fun M51 =>
  bnd (nx M51) fun r_25 => okk (r_25 < 2147483648) <|
  bnd (sN M51 r_25 21 20) fun M52 =>
  okk (mK M52 r0 = 12) <|
  bnd (sR M52 r0 32 (some r_25)) fun M53 =>
  bnd (nx M53) fun r_26 => okk (r_26 < 2147483648) <|
  bnd (sN M53 r_26 21 20) fun M54 =>
  okk (mK M54 r0 = 12) <|
  bnd (sR M54 r0 33 (some r_26)) fun M55 =>
  bnd (nx M55) fun r_27 => okk (r_27 < 2147483648) <|
  bnd (sN M55 r_27 21 20) fun M56 =>
  okk (mK M56 r0 = 12) <|
  bnd (sR M56 r0 34 (some r_27)) fun M57 =>
  bnd (nx M57) fun r_28 => okk (r_28 < 2147483648) <|
  bnd (sN M57 r_28 22 2400) fun M58 =>
  okk (mK M58 r0 = 12) <|
  bnd (sR M58 r0 36 (some r_28)) fun M59 =>
  bnd (nx M59) fun r_29 => okk (r_29 < 2147483648) <|
  bnd (sN M59 r_29 21 2400) fun M60 =>
  okk (mK M60 r0 = 12) <|
  bnd (sR M60 r0 37 (some r_29)) fun M61 =>
  bnd (nx M61) fun r_30 => okk (r_30 < 2147483648) <|
  bnd (sN M61 r_30 21 2400) fun M62 =>
  okk (mK M62 r0 = 12) <|
  bnd (sR M62 r0 38 (some r_30)) fun M63 =>
  bnd (nx M63) fun r_31 => okk (r_31 < 2147483648) <|
  bnd (sN M63 r_31 21 2400) fun M64 =>
  okk (mK M64 r0 = 12) <|
  bnd (sR M64 r0 39 (some r_31)) fun M65 =>
  bnd (nx M65) fun r_32 => okk (r_32 < 2147483648) <|
  bnd (sN M65 r_32 21 2400) fun M66 =>
  okk (mK M66 r0 = 12) <|
  bnd (sR M66 r0 40 (some r_32)) fun M67 =>
  bnd (nx M67) fun r_33 => okk (r_33 < 2147483648) <|
  bnd (sN M67 r_33 21 2400) fun M68 =>
  okk (mK M68 r0 = 12) <|
  bnd (sR M68 r0 41 (some r_33)) fun M69 =>
  bnd (nx M69) fun r_34 => okk (r_34 < 2147483648) <|
  bnd (sN M69 r_34 21 2400) fun M70 =>
  okk (mK M70 r0 = 12) <|
  bnd (sR M70 r0 42 (some r_34)) fun M71 =>
  bnd (nx M71) fun r_35 => okk (r_35 < 2147483648) <|
  bnd (sN M71 r_35 21 2400) fun M72 =>
  okk (mK M72 r0 = 12) <|
  bnd (sR M72 r0 43 (some r_35)) fun M73 =>
  bnd (nx M73) fun r_36 => okk (r_36 < 2147483648) <|
  bnd (sN M73 r_36 22 168) fun M74 =>
  okk (mK M74 r0 = 12) <|
  bnd (sR M74 r0 44 (some r_36)) fun M75 =>
  bnd (nx M75) fun r_37 => okk (r_37 < 2147483648) <|
  bnd (sN M75 r_37 21 168) fun M76 =>
  okk (mK M76 r0 = 12) <|
  bnd (sR M76 r0 45 (some r_37)) fun M77 =>
  bnd (nx M77) fun r_38 => okk (r_38 < 2147483648) <|
  bnd (sN M77 r_38 25 168) fun M78 =>
  okk (mK M78 r0 = 12) <|
  bnd (sR M78 r0 46 (some r_38)) fun M79 =>
  bnd (nx M79) fun r_39 => okk (r_39 < 2147483648) <|
  bnd (sN M79 r_39 21 168) fun M80 =>
  okk (mK M80 r0 = 12) <|
  bnd (sR M80 r0 47 (some r_39)) fun M81 =>
  bnd (nx M81) fun r_40 => okk (r_40 < 2147483648) <|
  bnd (sN M81 r_40 21 12) fun M82 =>
  okk (mK M82 r0 = 12) <|
  bnd (sR M82 r0 49 (some r_40)) fun M83 =>
  bnd (nx M83) fun r_41 => okk (r_41 < 2147483648) <|
  bnd (sN M83 r_41 21 12) fun M84 =>
  okk (mK M84 r0 = 12) <|
  bnd (sR M84 r0 50 (some r_41)) fun M85 =>
  bnd (nx M85) fun r_42 => okk (r_42 < 2147483648) <|
  bnd (sN M85 r_42 21 12) fun M86 =>
  okk (mK M86 r0 = 12) <|
  bnd (sR M86 r0 51 (some r_42)) fun M87 =>
  bnd (nx M87) fun r_43 => okk (r_43 < 2147483648) <|
  bnd (sN M87 r_43 21 60) fun M88 =>
  okk (mK M88 r0 = 12) <|
  bnd (sR M88 r0 53 (some r_43)) fun M89 =>
  bnd (nx M89) fun r_44 => okk (r_44 < 2147483648) <|
  bnd (sN M89 r_44 22 360) fun M90 =>
  okk (mK M90 r0 = 12) <|
  bnd (sR M90 r0 54 (some r_44)) fun M91 =>
  bnd (nx M91) fun r_45 => okk (r_45 < 2147483648) <|
  bnd (sN M91 r_45 21 360) fun M92 =>
  okk (mK M92 r0 = 12) <|
  bnd (sR M92 r0 55 (some r_45)) fun M93 =>
  bnd (nx M93) fun r_46 => okk (r_46 < 2147483648) <|
  bnd (sN M93 r_46 25 360) fun M94 =>
  okk (mK M94 r0 = 12) <|
  bnd (sR M94 r0 56 (some r_46)) fun M95 =>
  bnd (nx M95) fun r_47 => okk (r_47 < 2147483648) <|
  bnd (sN M95 r_47 22 20) fun M96 =>
  okk (mK M96 r0 = 12) <|
  bnd (sR M96 r0 60 (some r_47)) fun M97 =>
  bnd (nx M97) fun r_48 => okk (r_48 < 2147483648) <|
  bnd (sN M97 r_48 24 20) fun M98 =>
  okk (mK M98 r0 = 12) <|
  bnd (sR M98 r0 61 (some r_48)) fun M99 =>
  okk (mK M99 r0 = 12) <|
  bnd (sI M99 r0 62 (45 : Int32)) fun M100 =>
  okk (mK M100 r0 = 12) <|
  bnd (sI M100 r0 68 (-1 : Int32)) fun M101 =>
  bnd (nx M101) fun r_49 => okk (r_49 < 2147483648) <|
  bnd (sN M101 r_49 21 30) fun M102 =>
  okk (mK M102 r0 = 12) <|
  bnd (sR M102 r0 77 (some r_49)) fun M103 =>
  bnd (nx M103) fun r_50 => okk (r_50 < 2147483648) <|
  bnd (sN M103 r_50 22 120) fun M104 =>
  okk (mK M104 r0 = 12) <|
  bnd (sR M104 r0 79 (some r_50)) fun M105 =>
  bnd (nx M105) fun r_51 => okk (r_51 < 2147483648) <|
  bnd (sN M105 r_51 21 120) fun M106 =>
  okk (mK M106 r0 = 12) <|
  bnd (sR M106 r0 80 (some r_51)) fun M107 =>
  bnd (nx M107) fun r_52 => okk (r_52 < 2147483648) <|
  bnd (sN M107 r_52 21 120) fun M108 =>
  okk (mK M108 r0 = 12) <|
  bnd (sR M108 r0 81 (some r_52)) fun M109 =>
  bnd (nx M109) fun r_53 => okk (r_53 < 2147483648) <|
  bnd (sN M109 r_53 21 120) fun M110 =>
  okk (mK M110 r0 = 12) <|
  bnd (sR M110 r0 82 (some r_53)) fun M111 =>
  bnd (nx M111) fun r_54 => okk (r_54 < 2147483648) <|
  bnd (sN M111 r_54 22 600) fun M112 =>
  okk (mK M112 r0 = 12) <|
  bnd (sR M112 r0 84 (some r_54)) fun M113 =>
  bnd (nx M113) fun r_55 => okk (r_55 < 2147483648) <|
  bnd (sN M113 r_55 23 600) fun M114 =>
  okk (mK M114 r0 = 12) <|
  bnd (sR M114 r0 85 (some r_55)) fun M115 =>
  bnd (nx M115) fun r_56 => okk (r_56 < 2147483648) <|
  bnd (sN M115 r_56 21 600) fun M116 =>
  okk (mK M116 r0 = 12) <|
  bnd (sR M116 r0 86 (some r_56)) fun M117 =>
  bnd (nx M117) fun r_57 => okk (r_57 < 2147483648) <|
  bnd (sN M117 r_57 21 600) fun M118 =>
  okk (mK M118 r0 = 12) <|
  bnd (sR M118 r0 87 (some r_57)) fun M119 =>
  d_X12_init_517 r0 fuel ((0 : Int32)) M119
noncomputable def d_X12_thrown (M : Mem) : Option (Int32 × Mem) :=
  some ((mI M 69 0), M)
noncomputable def d_X12_in (x0 : Int32) (x1 : Int32) (x2 : Int32) (M : Mem) : Option (Int32 × Mem) :=
  if x0 < x1 then (
    some ((0 : Int32), M))
  else (
    if x2 < x0 then (
      some ((0 : Int32), M))
    else (
      some ((1 : Int32), M)))
noncomputable def d_X12_fails (x1 : Int32) (M : Mem) : Option (Int32 × Mem) :=
  bnd (sI M 69 0 x1) fun M1 =>
  some ((0 : Int32), M1)
noncomputable def d_X12_isFunction (x1 : Int32) (M : Mem) : Option (Int32 × Mem) :=
  (d_X12_in x1 (0 : Int32) ((mI M 69 1) - (1 : Int32)) M).bind fun y1 =>
  okk (isBo y1.1) <|
  some (y1.1, y1.2)
noncomputable def d_X12_addFunction (x1 : Int32) (M : Mem) : Option (Int32 × Mem) :=
  bnd (sI M 69 0 (0 : Int32)) fun M1 =>
  (d_X12_in x1 (0 : Int32) (3 : Int32) M1).bind fun y1 =>
  if y1.1 = 0 then (
    (d_X12_fails (1 : Int32) y1.2).bind fun y3 =>
    some (y3.1, y3.2))
  else (
    if (mI y1.2 69 1) = (8 : Int32) then (
      (d_X12_fails (2 : Int32) y1.2).bind fun y2 =>
      some (y2.1, y2.2))
    else (
      okk (vp_in (mI y1.2 69 1) 8) <|
      bnd (sI y1.2 70 (mI y1.2 69 1).toNatClampNeg x1) fun M2 =>
      bnd (sI M2 69 1 ((mI M2 69 1) + (1 : Int32))) fun M3 =>
      some (((mI M3 69 1) - (1 : Int32)), M3)))
noncomputable def d_X12_isPair (x0 : Int32) (M : Mem) : Option (Int32 × Mem) :=
  if x0 = (43 : Int32) then (
    some ((1 : Int32), M))
  else (
    if x0 = (45 : Int32) then (
      some ((1 : Int32), M))
    else (
      if x0 = (42 : Int32) then (
        some ((1 : Int32), M))
      else (
        if x0 = (47 : Int32) then (
          some ((1 : Int32), M))
        else (
          if x0 = (37 : Int32) then (
            some ((1 : Int32), M))
          else (
            if x0 = (60 : Int32) then (
              some ((1 : Int32), M))
            else (
              if x0 = (61 : Int32) then (
                some ((1 : Int32), M))
              else (
                some ((0 : Int32), M))))))))
noncomputable def d_X12_isCode_52 (x2 : Int32) (M : Mem) : Option (Int32 × Mem) :=
  (d_X12_in x2 (0 : Int32) (5 : Int32) M).bind fun y1 =>
  okk (isBo y1.1) <|
  some (y1.1, y1.2)
noncomputable def d_X12_isCode_71 (x2 : Int32) (M : Mem) : Option (Int32 × Mem) :=
  (d_X12_in x2 (0 : Int32) (39 : Int32) M).bind fun y1 =>
  okk (isBo y1.1) <|
  some (y1.1, y1.2)
noncomputable def d_X12_isCode_157 (x2 : Int32) (s0 : Int32) (M : Mem) : Option (Int32 × Mem) :=
  if s0 = 0 then (
    some ((0 : Int32), M))
  else (
    if x2 = 0 then (
      some ((1 : Int32), M))
    else (
      some ((0 : Int32), M)))
noncomputable def d_X12_isCode_152 (x2 : Int32) (M : Mem) : Option (Int32 × Mem) :=
  d_X12_isCode_157 x2 (1 : Int32) M
noncomputable def d_X12_isCode (x1 : Int32) (x2 : Int32) (M : Mem) : Option (Int32 × Mem) :=
  if x1 = (105 : Int32) then (
    some ((1 : Int32), M))
  else (
    if x1 = (107 : Int32) then (
      (d_X12_in x2 (0 : Int32) (7 : Int32) M).bind fun y4 =>
      okk (isBo y4.1) <|
      some (y4.1, y4.2))
    else (
      if x1 = (108 : Int32) then (
        d_X12_isCode_52 x2 M)
      else (
        if x1 = (115 : Int32) then (
          d_X12_isCode_52 x2 M)
        else (
          if x1 = (103 : Int32) then (
            d_X12_isCode_52 x2 M)
          else (
            if x1 = (112 : Int32) then (
              d_X12_isCode_52 x2 M)
            else (
              if x1 = (109 : Int32) then (
                d_X12_isCode_52 x2 M)
              else (
                if x1 = (106 : Int32) then (
                  d_X12_isCode_71 x2 M)
                else (
                  if x1 = (122 : Int32) then (
                    d_X12_isCode_71 x2 M)
                  else (
                    if x1 = (110 : Int32) then (
                      (d_X12_in x2 (0 : Int32) ((mI M 69 8) - (1 : Int32)) M).bind fun y3 =>
                      okk (isBo y3.1) <|
                      some (y3.1, y3.2))
                    else (
                      if x1 = (99 : Int32) then (
                        (d_X12_in x2 (0 : Int32) ((mI M 69 1) - (1 : Int32)) M).bind fun y2 =>
                        okk (isBo y2.1) <|
                        some (y2.1, y2.2))
                      else (
                        if x1 = (117 : Int32) then (
                          d_X12_isCode_152 x2 M)
                        else (
                          if x1 = (100 : Int32) then (
                            d_X12_isCode_152 x2 M)
                          else (
                            if x1 = (119 : Int32) then (
                              d_X12_isCode_152 x2 M)
                            else (
                              if x1 = (114 : Int32) then (
                                d_X12_isCode_152 x2 M)
                              else (
                                if x1 = (116 : Int32) then (
                                  d_X12_isCode_152 x2 M)
                                else (
                                  (d_X12_isPair x1 M).bind fun y1 =>
                                  if y1.1 = 0 then (
                                    d_X12_isCode_157 x2 (0 : Int32) y1.2)
                                  else (
                                    d_X12_isCode_152 x2 y1.2)))))))))))))))))
noncomputable def d_X12_code (x1 : Int32) (x2 : Int32) (x3 : Int32) (M : Mem) : Option (Int32 × Mem) :=
  bnd (sI M 69 0 (0 : Int32)) fun M1 =>
  (d_X12_isFunction x1 M1).bind fun y1 =>
  if y1.1 = 0 then (
    (d_X12_fails (1 : Int32) y1.2).bind fun y5 =>
    some (y5.1, y5.2))
  else (
    (d_X12_isCode x2 x3 y1.2).bind fun y2 =>
    if y2.1 = 0 then (
      (d_X12_fails (2 : Int32) y2.2).bind fun y4 =>
      some (y4.1, y4.2))
    else (
      okk (vp_in x1 8) <|
      if (mI y2.2 71 x1.toNatClampNeg) = (40 : Int32) then (
        (d_X12_fails (3 : Int32) y2.2).bind fun y3 =>
        some (y3.1, y3.2))
      else (
        okk (vp_in x1 8) <|
        okk (vp_in (((40 : Int32) * x1) + (mI y2.2 71 x1.toNatClampNeg)) 320) <|
        okk (isCh x2) <|
        bnd (sI y2.2 72 (((40 : Int32) * x1) + (mI y2.2 71 x1.toNatClampNeg)).toNatClampNeg x2) fun M2 =>
        okk (vp_in x1 8) <|
        okk (vp_in (((40 : Int32) * x1) + (mI M2 71 x1.toNatClampNeg)) 320) <|
        bnd (sI M2 73 (((40 : Int32) * x1) + (mI M2 71 x1.toNatClampNeg)).toNatClampNeg x3) fun M3 =>
        okk (vp_in x1 8) <|
        okk (vp_in x1 8) <|
        bnd (sI M3 71 x1.toNatClampNeg ((mI M3 71 x1.toNatClampNeg) + (1 : Int32))) fun M4 =>
        okk (vp_in x1 8) <|
        some ((mI M4 71 x1.toNatClampNeg), M4))))
noncomputable def d_X12_setHandler (x1 : Int32) (x2 : Int32) (M : Mem) : Option (Int32 × Mem) :=
  bnd (sI M 69 0 (0 : Int32)) fun M1 =>
  (d_X12_isFunction x1 M1).bind fun y1 =>
  if y1.1 = 0 then (
    (d_X12_fails (1 : Int32) y1.2).bind fun y4 =>
    some (y4.1, y4.2))
  else (
    (d_X12_in x2 (0 : Int32) (39 : Int32) y1.2).bind fun y2 =>
    if y2.1 = 0 then (
      (d_X12_fails (2 : Int32) y2.2).bind fun y3 =>
      some (y3.1, y3.2))
    else (
      okk (vp_in x1 8) <|
      bnd ((mI y2.2 74 x1.toNatClampNeg)) fun b1 =>
      okk (vp_in x1 8) <|
      bnd (sI y2.2 74 x1.toNatClampNeg x2) fun M2 =>
      some (b1, M2)))
noncomputable def d_X12_newShape (x1 : Int32) (M : Mem) : Option (Int32 × Mem) :=
  okk (vp_in (mI M 69 12) 60) <|
  bnd (sI M 79 (mI M 69 12).toNatClampNeg x1) fun M1 =>
  okk (vp_in (mI M1 69 12) 60) <|
  bnd (sI M1 80 (mI M1 69 12).toNatClampNeg (0 : Int32)) fun M2 =>
  bnd (sI M2 69 12 ((mI M2 69 12) + (1 : Int32))) fun M3 =>
  some (((mI M3 69 12) - (1 : Int32)), M3)
noncomputable def d_X12_addClass (x1 : Int32) (M : Mem) : Option (Int32 × Mem) :=
  bnd (sI M 69 0 (0 : Int32)) fun M1 =>
  (d_X12_in x1 (-1 : Int32) ((mI M1 69 8) - (1 : Int32)) M1).bind fun y1 =>
  if y1.1 = 0 then (
    (d_X12_fails (1 : Int32) y1.2).bind fun y5 =>
    some (y5.1, y5.2))
  else (
    if (mI y1.2 69 8) = (5 : Int32) then (
      (d_X12_fails (2 : Int32) y1.2).bind fun y4 =>
      some (y4.1, y4.2))
    else (
      if (mI y1.2 69 12) = (60 : Int32) then (
        (d_X12_fails (3 : Int32) y1.2).bind fun y3 =>
        some (y3.1, y3.2))
      else (
        okk (vp_in (mI y1.2 69 8) 5) <|
        bnd (sI y1.2 76 (mI y1.2 69 8).toNatClampNeg x1) fun M2 =>
        (d_X12_newShape (mI M2 69 8) M2).bind fun y2 =>
        okk (vp_in (mI M2 69 8) 5) <|
        bnd (sI y2.2 78 (mI M2 69 8).toNatClampNeg y2.1) fun M3 =>
        bnd (sI M3 69 8 ((mI M3 69 8) + (1 : Int32))) fun M4 =>
        some (((mI M4 69 8) - (1 : Int32)), M4))))
noncomputable def d_X12_throwAway_39 (k2 : (Int32) → Mem → Option (Unit × Mem)) (x1 : Int32) (x2 : Int32) (s1 : Int32) (s2 : Int32) (M : Mem) : Option (Unit × Mem) :=
  okk (vp_in s1 20) <|
  okk (isBo s2) <|
  bnd (sI M 89 s1.toNatClampNeg s2) fun M1 =>
  bnd ((x2 + (1 : Int32))) fun b1 =>
  k2 (b1) M1
noncomputable def d_X12_throwAway_38 (k2 : (Int32) → Mem → Option (Unit × Mem)) (x1 : Int32) (x2 : Int32) (s1 : Int32) (M : Mem) : Option (Unit × Mem) :=
  d_X12_throwAway_39 k2 x1 x2 s1 (0 : Int32) M
noncomputable def d_X12_throwAway_2b (k2 : (Int32) → Mem → Option (Unit × Mem)) (x1 : Int32) (x2 : Int32) (M : Mem) : Option (Unit × Mem) :=
  if (mI M 69 26) ≤ x2 then (
    okk (vp_in x1 20) <|
    okk (vp_in (mI M 94 x1.toNatClampNeg) 320) <|
    bnd (sI M 87 (mI M 94 x1.toNatClampNeg).toNatClampNeg (0 : Int32)) fun M1 =>
    some ((), M1))
  else (
    okk (vp_in x2 20) <|
    if (mI M 89 x2.toNatClampNeg) = 0 then (
      d_X12_throwAway_38 k2 x1 x2 x2 M)
    else (
      okk (vp_in x2 20) <|
      if (mI M 93 x2.toNatClampNeg) = x1 then (
        d_X12_throwAway_38 k2 x1 x2 x2 M)
      else (
        d_X12_throwAway_39 k2 x1 x2 x2 (1 : Int32) M)))
noncomputable def d_X12_throwAway_2 (x1 : Int32) : Nat → (Int32) → Mem → Option (Unit × Mem) := lp fun k a M => d_X12_throwAway_2b k x1 a M
noncomputable def d_X12_throwAway (x1 : Int32) (M : Mem) : Option (Unit × Mem) :=
  d_X12_throwAway_2 x1 fuel ((0 : Int32)) M
noncomputable def d_X12_throwsWith_144 (k5 : (Int32 × Int32) → Mem → Option (Int32 × Mem)) (x1 : Int32) (x2 : Int32) (x3 : Int32) (x4 : Int32) (M : Mem) : Option (Int32 × Mem) :=
  bnd ((x4 + (1 : Int32))) fun b1 =>
  k5 (x3, b1) M
noncomputable def d_X12_throwsWith_125 (k5 : (Int32 × Int32) → Mem → Option (Int32 × Mem)) (x1 : Int32) (x2 : Int32) (x3 : Int32) (x4 : Int32) (x5 : Int32) (M : Mem) : Option (Int32 × Mem) :=
  if x5 = 0 then (
    d_X12_throwsWith_144 k5 x1 x2 x3 x4 M)
  else (
    okk (vp_in x4 20) <|
    (d_X12_throwAway (mI M 93 x4.toNatClampNeg) M).bind fun y1 =>
    bnd ((x3 + (1 : Int32))) fun b1 =>
    d_X12_throwsWith_144 k5 x1 x2 b1 x4 y1.2)
noncomputable def d_X12_throwsWith_117 (k20 : (Int32 × Int32) → Mem → Option (Int32 × Mem)) (x1 : Int32) (x2 : Int32) (x3 : Int32) (x4 : Int32) (x6 : Int32) (s0 : Int32) (M : Mem) : Option (Int32 × Mem) :=
  bnd ((x6 + (1 : Int32))) fun b1 =>
  k20 (s0, b1) M
noncomputable def d_X12_throwsWith_112 (k20 : (Int32 × Int32) → Mem → Option (Int32 × Mem)) (x1 : Int32) (x2 : Int32) (x3 : Int32) (x4 : Int32) (x6 : Int32) (M : Mem) : Option (Int32 × Mem) :=
  d_X12_throwsWith_117 k20 x1 x2 x3 x4 x6 (1 : Int32) M
noncomputable def d_X12_throwsWith_116 (k20 : (Int32 × Int32) → Mem → Option (Int32 × Mem)) (x1 : Int32) (x2 : Int32) (x3 : Int32) (x4 : Int32) (x6 : Int32) (M : Mem) : Option (Int32 × Mem) :=
  d_X12_throwsWith_117 k20 x1 x2 x3 x4 x6 (0 : Int32) M
noncomputable def d_X12_throwsWith_20b (k5 : (Int32 × Int32) → Mem → Option (Int32 × Mem)) (k20 : (Int32 × Int32) → Mem → Option (Int32 × Mem)) (x1 : Int32) (x2 : Int32) (x3 : Int32) (x4 : Int32) (x5 : Int32) (x6 : Int32) (M : Mem) : Option (Int32 × Mem) :=
  okk (vp_in x4 20) <|
  if (mI M 90 x4.toNatClampNeg) ≤ x6 then (
    d_X12_throwsWith_125 k5 x1 x2 x3 x4 x5 M)
  else (
    okk (vp_in x4 20) <|
    if (mI M 89 x4.toNatClampNeg) = 0 then (
      d_X12_throwsWith_125 k5 x1 x2 x3 x4 x5 M)
    else (
      okk (vp_in (((30 : Int32) * x4) + x6) 600) <|
      okk (vp_in (((30 : Int32) * x4) + x6) 600) <|
      bnd ((((40 : Int32) * ((mI M 91 (((30 : Int32) * x4) + x6).toNatClampNeg) / (100 : Int32))) + ((mI M 91 (((30 : Int32) * x4) + x6).toNatClampNeg) - (mI M 91 (((30 : Int32) * x4) + x6).toNatClampNeg) / (100 : Int32) * (100 : Int32)))) fun b1 =>
      if x5 = 0 then (
        okk (vp_in b1 320) <|
        if (mI M 72 b1.toNatClampNeg) = x1 then (
          if x2 = (-1 : Int32) then (
            d_X12_throwsWith_112 k20 x1 x2 x3 x4 x6 M)
          else (
            okk (vp_in b1 320) <|
            if (mI M 73 b1.toNatClampNeg) = x2 then (
              d_X12_throwsWith_112 k20 x1 x2 x3 x4 x6 M)
            else (
              d_X12_throwsWith_116 k20 x1 x2 x3 x4 x6 M)))
        else (
          d_X12_throwsWith_116 k20 x1 x2 x3 x4 x6 M))
      else (
        d_X12_throwsWith_112 k20 x1 x2 x3 x4 x6 M)))
noncomputable def d_X12_throwsWith_20 (k5 : (Int32 × Int32) → Mem → Option (Int32 × Mem)) (x1 : Int32) (x2 : Int32) (x3 : Int32) (x4 : Int32) : Nat → (Int32 × Int32) → Mem → Option (Int32 × Mem) := lp fun k a M => d_X12_throwsWith_20b k5 k x1 x2 x3 x4 a.1 a.2 M
noncomputable def d_X12_throwsWith_5b (k5 : (Int32 × Int32) → Mem → Option (Int32 × Mem)) (x1 : Int32) (x2 : Int32) (x3 : Int32) (x4 : Int32) (M : Mem) : Option (Int32 × Mem) :=
  if (mI M 69 26) ≤ x4 then (
    some (x3, M))
  else (
    d_X12_throwsWith_20 k5 x1 x2 x3 x4 fuel ((0 : Int32), (0 : Int32)) M)
noncomputable def d_X12_throwsWith_5 (x1 : Int32) (x2 : Int32) : Nat → (Int32 × Int32) → Mem → Option (Int32 × Mem) := lp fun k a M => d_X12_throwsWith_5b k x1 x2 a.1 a.2 M
noncomputable def d_X12_throwsWith (x1 : Int32) (x2 : Int32) (M : Mem) : Option (Int32 × Mem) :=
  d_X12_throwsWith_5 x1 x2 fuel ((0 : Int32), (0 : Int32)) M
noncomputable def d_X12_setMethod_133 (k85 : (Int32) → Mem → Option (Int32 × Mem)) (x4 : Int32) (s1 : Int32) (s2 : Int32) (M : Mem) : Option (Int32 × Mem) :=
  okk (vp_in s1 320) <|
  bnd (sI M 83 s1.toNatClampNeg s2) fun M1 =>
  bnd ((x4 + (1 : Int32))) fun b1 =>
  k85 (b1) M1
noncomputable def d_X12_setMethod_126 (k85 : (Int32) → Mem → Option (Int32 × Mem)) (x4 : Int32) (s1 : Int32) (M : Mem) : Option (Int32 × Mem) :=
  okk (vp_in x4 320) <|
  d_X12_setMethod_133 k85 x4 s1 (mI M 83 x4.toNatClampNeg) M
noncomputable def d_X12_setMethod_85b (k85 : (Int32) → Mem → Option (Int32 × Mem)) (x4 : Int32) (M : Mem) : Option (Int32 × Mem) :=
  if (320 : Int32) ≤ x4 then (
    (d_X12_throwsWith (109 : Int32) (-1 : Int32) M).bind fun y1 =>
    some (y1.1, y1.2))
  else (
    okk (vp_in x4 320) <|
    if (mI M 72 x4.toNatClampNeg) = (109 : Int32) then (
      okk (vp_in x4 320) <|
      if (mI M 83 x4.toNatClampNeg) = (-1 : Int32) then (
        d_X12_setMethod_126 k85 x4 x4 M)
      else (
        d_X12_setMethod_133 k85 x4 x4 (0 : Int32) M))
    else (
      d_X12_setMethod_126 k85 x4 x4 M))
noncomputable def d_X12_setMethod_85 : Nat → (Int32) → Mem → Option (Int32 × Mem) := lp fun k a M => d_X12_setMethod_85b k a M
noncomputable def d_X12_setMethod (x1 : Int32) (x2 : Int32) (x3 : Int32) (M : Mem) : Option (Int32 × Mem) :=
  bnd (sI M 69 0 (0 : Int32)) fun M1 =>
  (d_X12_in x1 (0 : Int32) ((mI M1 69 8) - (1 : Int32)) M1).bind fun y1 =>
  if y1.1 = 0 then (
    (d_X12_fails (1 : Int32) y1.2).bind fun y7 =>
    some (y7.1, y7.2))
  else (
    (d_X12_in x2 (0 : Int32) (5 : Int32) y1.2).bind fun y2 =>
    if y2.1 = 0 then (
      (d_X12_fails (2 : Int32) y2.2).bind fun y6 =>
      some (y6.1, y6.2))
    else (
      (d_X12_isFunction x3 y2.2).bind fun y3 =>
      if y3.1 = 0 then (
        (d_X12_fails (3 : Int32) y3.2).bind fun y5 =>
        some (y5.1, y5.2))
      else (
        okk (vp_in x3 8) <|
        if (mI y3.2 70 x3.toNatClampNeg) = (1 : Int32) then (
          okk (vp_in (((6 : Int32) * x1) + x2) 30) <|
          bnd (sI y3.2 77 (((6 : Int32) * x1) + x2).toNatClampNeg x3) fun M2 =>
          d_X12_setMethod_85 fuel ((0 : Int32)) M2)
        else (
          (d_X12_fails (4 : Int32) y3.2).bind fun y4 =>
          some (y4.1, y4.2)))))
noncomputable def d_X12_setCell_36 (x1 : Int32) (x2 : Int32) (s0 : Int32) (M : Mem) : Option (Int32 × Mem) :=
  okk (vp_in x1 8) <|
  bnd (sI M 75 x1.toNatClampNeg x2) fun M1 =>
  if s0 = 0 then (
    some ((0 : Int32), M1))
  else (
    (d_X12_throwsWith (107 : Int32) x1 M1).bind fun y1 =>
    some (y1.1, y1.2))
noncomputable def d_X12_setCell (x1 : Int32) (x2 : Int32) (M : Mem) : Option (Int32 × Mem) :=
  bnd (sI M 69 0 (0 : Int32)) fun M1 =>
  (d_X12_in x1 (0 : Int32) (7 : Int32) M1).bind fun y1 =>
  if y1.1 = 0 then (
    (d_X12_fails (1 : Int32) y1.2).bind fun y2 =>
    some (y2.1, y2.2))
  else (
    okk (vp_in x1 8) <|
    if (mI y1.2 75 x1.toNatClampNeg) = x2 then (
      d_X12_setCell_36 x1 x2 (0 : Int32) y1.2)
    else (
      d_X12_setCell_36 x1 x2 (1 : Int32) y1.2))
noncomputable def d_X12_size_32 (k4 : (Int32 × Int32) → Mem → Option (Int32 × Mem)) (x2 : Int32) (s0 : Int32) (s1 : Int32) (M : Mem) : Option (Int32 × Mem) :=
  bnd ((s0 + s1)) fun b1 =>
  bnd ((x2 + (1 : Int32))) fun b2 =>
  k4 (b1, b2) M
noncomputable def d_X12_size_4b (k4 : (Int32 × Int32) → Mem → Option (Int32 × Mem)) (x1 : Int32) (x2 : Int32) (M : Mem) : Option (Int32 × Mem) :=
  if (mI M 69 26) ≤ x2 then (
    some (x1, M))
  else (
    okk (vp_in x2 20) <|
    if (mI M 89 x2.toNatClampNeg) = 0 then (
      d_X12_size_32 k4 x2 x1 (0 : Int32) M)
    else (
      okk (vp_in x2 20) <|
      d_X12_size_32 k4 x2 x1 (mI M 90 x2.toNatClampNeg) M))
noncomputable def d_X12_size_4 : Nat → (Int32 × Int32) → Mem → Option (Int32 × Mem) := lp fun k a M => d_X12_size_4b k a.1 a.2 M
noncomputable def d_X12_size (M : Mem) : Option (Int32 × Mem) :=
  d_X12_size_4 fuel ((0 : Int32), (0 : Int32)) M
noncomputable def d_X12_oldest_73 (k4 : (Int32 × Int32) → Mem → Option (Int32 × Mem)) (x1 : Int32) (x3 : Int32) (s0 : Int32) (M : Mem) : Option (Int32 × Mem) :=
  bnd ((x3 + (1 : Int32))) fun b1 =>
  k4 (s0, b1) M
noncomputable def d_X12_oldest_72 (k4 : (Int32 × Int32) → Mem → Option (Int32 × Mem)) (x1 : Int32) (x2 : Int32) (x3 : Int32) (M : Mem) : Option (Int32 × Mem) :=
  d_X12_oldest_73 k4 x1 x3 x2 M
noncomputable def d_X12_oldest_68 (k4 : (Int32 × Int32) → Mem → Option (Int32 × Mem)) (x1 : Int32) (x3 : Int32) (M : Mem) : Option (Int32 × Mem) :=
  d_X12_oldest_73 k4 x1 x3 x3 M
noncomputable def d_X12_oldest_41 (k4 : (Int32 × Int32) → Mem → Option (Int32 × Mem)) (x1 : Int32) (x2 : Int32) (x3 : Int32) (s0 : Int32) (M : Mem) : Option (Int32 × Mem) :=
  if s0 = 0 then (
    d_X12_oldest_72 k4 x1 x2 x3 M)
  else (
    if x2 = (-1 : Int32) then (
      d_X12_oldest_68 k4 x1 x3 M)
    else (
      okk (vp_in x3 20) <|
      okk (vp_in x2 20) <|
      if (mI M 96 x2.toNatClampNeg) ≤ (mI M 96 x3.toNatClampNeg) then (
        d_X12_oldest_72 k4 x1 x2 x3 M)
      else (
        d_X12_oldest_68 k4 x1 x3 M)))
noncomputable def d_X12_oldest_40 (k4 : (Int32 × Int32) → Mem → Option (Int32 × Mem)) (x1 : Int32) (x2 : Int32) (x3 : Int32) (M : Mem) : Option (Int32 × Mem) :=
  d_X12_oldest_41 k4 x1 x2 x3 (0 : Int32) M
noncomputable def d_X12_oldest_4b (k4 : (Int32 × Int32) → Mem → Option (Int32 × Mem)) (x1 : Int32) (x2 : Int32) (x3 : Int32) (M : Mem) : Option (Int32 × Mem) :=
  if (mI M 69 26) ≤ x3 then (
    some (x2, M))
  else (
    okk (vp_in x3 20) <|
    if (mI M 89 x3.toNatClampNeg) = 0 then (
      d_X12_oldest_40 k4 x1 x2 x3 M)
    else (
      okk (vp_in x3 20) <|
      if (mI M 93 x3.toNatClampNeg) = x3 then (
        if x3 = x1 then (
          d_X12_oldest_40 k4 x1 x2 x3 M)
        else (
          d_X12_oldest_41 k4 x1 x2 x3 (1 : Int32) M))
      else (
        d_X12_oldest_40 k4 x1 x2 x3 M)))
noncomputable def d_X12_oldest_4 (x1 : Int32) : Nat → (Int32 × Int32) → Mem → Option (Int32 × Mem) := lp fun k a M => d_X12_oldest_4b k x1 a.1 a.2 M
noncomputable def d_X12_oldest (x1 : Int32) (M : Mem) : Option (Int32 × Mem) :=
  d_X12_oldest_4 x1 fuel ((-1 : Int32), (0 : Int32)) M
noncomputable def d_X12_setLimits_61b (k61 : (Int32) → Mem → Option (Int32 × Mem)) (x4 : Int32) (M : Mem) : Option (Int32 × Mem) :=
  (d_X12_size M).bind fun y1 =>
  if y1.1 ≤ (mI y1.2 69 25) then (
    some (x4, y1.2))
  else (
    (d_X12_oldest (-1 : Int32) y1.2).bind fun y2 =>
    (d_X12_throwAway y2.1 y2.2).bind fun y3 =>
    bnd ((x4 + (1 : Int32))) fun b1 =>
    k61 (b1) y3.2)
noncomputable def d_X12_setLimits_61 : Nat → (Int32) → Mem → Option (Int32 × Mem) := lp fun k a M => d_X12_setLimits_61b k a M
noncomputable def d_X12_setLimits (x1 : Int32) (x2 : Int32) (x3 : Int32) (M : Mem) : Option (Int32 × Mem) :=
  bnd (sI M 69 0 (0 : Int32)) fun M1 =>
  (d_X12_in x1 (2 : Int32) (50 : Int32) M1).bind fun y1 =>
  if y1.1 = 0 then (
    (d_X12_fails (1 : Int32) y1.2).bind fun y2 =>
    some (y2.1, y2.2))
  else (
    (d_X12_in x2 (1 : Int32) (20 : Int32) y1.2).bind fun y3 =>
    if y3.1 = 0 then (
      (d_X12_fails (1 : Int32) y3.2).bind fun y4 =>
      some (y4.1, y4.2))
    else (
      (d_X12_in x3 (10 : Int32) (200 : Int32) y3.2).bind fun y5 =>
      if y5.1 = 0 then (
        (d_X12_fails (1 : Int32) y5.2).bind fun y6 =>
        some (y6.1, y6.2))
      else (
        bnd (sI y5.2 69 23 x1) fun M2 =>
        bnd (sI M2 69 24 x2) fun M3 =>
        bnd (sI M3 69 25 x3) fun M4 =>
        d_X12_setLimits_61 fuel ((0 : Int32)) M4)))
noncomputable def d_X12_methodOf_2b (k2 : (Int32) → Mem → Option (Int32 × Mem)) (x2 : Int32) (x3 : Int32) (M : Mem) : Option (Int32 × Mem) :=
  if x3 = (-1 : Int32) then (
    some ((-1 : Int32), M))
  else (
    okk (vp_in (((6 : Int32) * x3) + x2) 30) <|
    if (mI M 77 (((6 : Int32) * x3) + x2).toNatClampNeg) = (-1 : Int32) then (
      okk (vp_in x3 5) <|
      bnd ((mI M 76 x3.toNatClampNeg)) fun b1 =>
      k2 (b1) M)
    else (
      okk (vp_in (((6 : Int32) * x3) + x2) 30) <|
      some ((mI M 77 (((6 : Int32) * x3) + x2).toNatClampNeg), M)))
noncomputable def d_X12_methodOf_2 (x2 : Int32) : Nat → (Int32) → Mem → Option (Int32 × Mem) := lp fun k a M => d_X12_methodOf_2b k x2 a M
noncomputable def d_X12_methodOf (x1 : Int32) (x2 : Int32) (M : Mem) : Option (Int32 × Mem) :=
  d_X12_methodOf_2 x2 fuel (x1) M
noncomputable def d_X12_hasField_2b (k2 : (Int32) → Mem → Option (Int32 × Mem)) (x1 : Int32) (x2 : Int32) (x3 : Int32) (M : Mem) : Option (Int32 × Mem) :=
  okk (vp_in x1 60) <|
  if (mI M 80 x1.toNatClampNeg) ≤ x3 then (
    some ((0 : Int32), M))
  else (
    okk (vp_in (((6 : Int32) * x1) + x3) 360) <|
    if (mI M 81 (((6 : Int32) * x1) + x3).toNatClampNeg) = x2 then (
      some ((1 : Int32), M))
    else (
      bnd ((x3 + (1 : Int32))) fun b1 =>
      k2 (b1) M))
noncomputable def d_X12_hasField_2 (x1 : Int32) (x2 : Int32) : Nat → (Int32) → Mem → Option (Int32 × Mem) := lp fun k a M => d_X12_hasField_2b k x1 x2 a M
noncomputable def d_X12_hasField (x1 : Int32) (x2 : Int32) (M : Mem) : Option (Int32 × Mem) :=
  d_X12_hasField_2 x1 x2 fuel ((0 : Int32)) M
noncomputable def d_X12_shapeBehind_124 (x1 : Int32) (x2 : Int32) (M : Mem) : Option (Int32 × Mem) :=
  okk (vp_in (((6 : Int32) * x1) + x2) 360) <|
  some ((mI M 82 (((6 : Int32) * x1) + x2).toNatClampNeg), M)
noncomputable def d_X12_shapeBehind_40b (k40 : (Int32) → Mem → Option (Int32 × Mem)) (x1 : Int32) (x2 : Int32) (x3 : Int32) (x4 : Int32) (M : Mem) : Option (Int32 × Mem) :=
  okk (vp_in x1 60) <|
  if (mI M 80 x1.toNatClampNeg) ≤ x4 then (
    okk (vp_in x1 60) <|
    okk (vp_in x3 60) <|
    bnd (sI M 80 x3.toNatClampNeg ((mI M 80 x1.toNatClampNeg) + (1 : Int32))) fun M1 =>
    okk (vp_in x1 60) <|
    okk (vp_in (((6 : Int32) * x3) + (mI M1 80 x1.toNatClampNeg)) 360) <|
    bnd (sI M1 81 (((6 : Int32) * x3) + (mI M1 80 x1.toNatClampNeg)).toNatClampNeg x2) fun M2 =>
    okk (vp_in (((6 : Int32) * x1) + x2) 360) <|
    bnd (sI M2 82 (((6 : Int32) * x1) + x2).toNatClampNeg x3) fun M3 =>
    d_X12_shapeBehind_124 x1 x2 M3)
  else (
    okk (vp_in (((6 : Int32) * x1) + x4) 360) <|
    okk (vp_in (((6 : Int32) * x3) + x4) 360) <|
    bnd (sI M 81 (((6 : Int32) * x3) + x4).toNatClampNeg (mI M 81 (((6 : Int32) * x1) + x4).toNatClampNeg)) fun M4 =>
    bnd ((x4 + (1 : Int32))) fun b1 =>
    k40 (b1) M4)
noncomputable def d_X12_shapeBehind_40 (x1 : Int32) (x2 : Int32) (x3 : Int32) : Nat → (Int32) → Mem → Option (Int32 × Mem) := lp fun k a M => d_X12_shapeBehind_40b k x1 x2 x3 a M
noncomputable def d_X12_shapeBehind (x1 : Int32) (x2 : Int32) (M : Mem) : Option (Int32 × Mem) :=
  (d_X12_hasField x1 x2 M).bind fun y1 =>
  if y1.1 = 0 then (
    okk (vp_in (((6 : Int32) * x1) + x2) 360) <|
    if (mI y1.2 82 (((6 : Int32) * x1) + x2).toNatClampNeg) = (-1 : Int32) then (
      okk (vp_in x1 60) <|
      (d_X12_newShape (mI y1.2 79 x1.toNatClampNeg) y1.2).bind fun y2 =>
      d_X12_shapeBehind_40 x1 x2 y2.1 fuel ((0 : Int32)) y2.2)
    else (
      d_X12_shapeBehind_124 x1 x2 y1.2))
  else (
    some (x1, y1.2))
noncomputable def d_X12_rootAt_41 (k2 : (Int32) → Mem → Option (Int32 × Mem)) (x1 : Int32) (x2 : Int32) (M : Mem) : Option (Int32 × Mem) :=
  bnd ((x2 + (1 : Int32))) fun b1 =>
  k2 (b1) M
noncomputable def d_X12_rootAt_2b (k2 : (Int32) → Mem → Option (Int32 × Mem)) (x1 : Int32) (x2 : Int32) (M : Mem) : Option (Int32 × Mem) :=
  if (mI M 69 26) ≤ x2 then (
    some ((-1 : Int32), M))
  else (
    okk (vp_in x2 20) <|
    if (mI M 89 x2.toNatClampNeg) = 0 then (
      d_X12_rootAt_41 k2 x1 x2 M)
    else (
      okk (vp_in x2 20) <|
      if (mI M 93 x2.toNatClampNeg) = x2 then (
        okk (vp_in x2 20) <|
        if (mI M 94 x2.toNatClampNeg) = x1 then (
          some (x2, M))
        else (
          d_X12_rootAt_41 k2 x1 x2 M))
      else (
        d_X12_rootAt_41 k2 x1 x2 M)))
noncomputable def d_X12_rootAt_2 (x1 : Int32) : Nat → (Int32) → Mem → Option (Int32 × Mem) := lp fun k a M => d_X12_rootAt_2b k x1 a M
noncomputable def d_X12_rootAt (x1 : Int32) (M : Mem) : Option (Int32 × Mem) :=
  d_X12_rootAt_2 x1 fuel ((0 : Int32)) M
noncomputable def d_X12_enters (x1 : Int32) (M : Mem) : Option (Unit × Mem) :=
  bnd (sI M 69 68 x1) fun M1 =>
  bnd (sI M1 69 69 (0 : Int32)) fun M2 =>
  bnd (sI M2 69 70 (mI M2 69 48)) fun M3 =>
  okk (vp_in x1 20) <|
  okk (vp_in x1 20) <|
  bnd (sI M3 95 x1.toNatClampNeg ((mI M3 95 x1.toNatClampNeg) + (1 : Int32))) fun M4 =>
  bnd (sI M4 69 35 ((mI M4 69 35) + (1 : Int32))) fun M5 =>
  okk (vp_in x1 20) <|
  bnd (sI M5 96 x1.toNatClampNeg (mI M5 69 35)) fun M6 =>
  some ((), M6)
noncomputable def d_X12_top (x1 : Int32) (M : Mem) : Option (Int32 × Mem) :=
  okk (vp_in (mI M 69 48) 12) <|
  some (((((((14 : Int32) * (mI M 69 48)) + (6 : Int32)) + (mI M 111 (mI M 69 48).toNatClampNeg)) - (1 : Int32)) - x1), M)
noncomputable def d_X12_isNumber (x0 : Int32) (M : Mem) : Option (Int32 × Mem) :=
  if x0 = (105 : Int32) then (
    some ((1 : Int32), M))
  else (
    if x0 = (102 : Int32) then (
      some ((1 : Int32), M))
    else (
      some ((0 : Int32), M)))
noncomputable def d_X12_asFloat (x1 : Int32) (M : Mem) : Option (UInt64 × Mem) :=
  okk (vp_in x1 168) <|
  if (mI M 105 x1.toNatClampNeg) = (105 : Int32) then (
    okk (vp_in x1 168) <|
    some ((FP.i2d (mI M 106 x1.toNatClampNeg)), M))
  else (
    okk (vp_in x1 168) <|
    some ((mD M 107 x1.toNatClampNeg), M))
noncomputable def d_X12_isNull_31 (x1 : Int32) (M : Mem) : Option (Int32 × Mem) :=
  okk (vp_in x1 168) <|
  if (mI M 105 x1.toNatClampNeg) = (102 : Int32) then (
    okk (vp_in x1 168) <|
    if (Op.cmpValue (FP.dcmp (mD M 107 x1.toNatClampNeg) FP.dconst0) .l) = 0 then (
      some ((1 : Int32), M))
    else (
      some ((0 : Int32), M)))
  else (
    some ((0 : Int32), M))
noncomputable def d_X12_isNull (x1 : Int32) (M : Mem) : Option (Int32 × Mem) :=
  okk (vp_in x1 168) <|
  if (mI M 105 x1.toNatClampNeg) = (110 : Int32) then (
    some ((1 : Int32), M))
  else (
    okk (vp_in x1 168) <|
    if (mI M 105 x1.toNatClampNeg) = (105 : Int32) then (
      okk (vp_in x1 168) <|
      if (mI M 106 x1.toNatClampNeg) = 0 then (
        some ((1 : Int32), M))
      else (
        d_X12_isNull_31 x1 M))
    else (
      d_X12_isNull_31 x1 M))
noncomputable def d_X12_bits_139 (x3 : Int64) (x5 : UInt64) (x7 : Int32) (M : Mem) : Option (Int64 × Mem) :=
  if 0 ≤ (Op.cmpValue (FP.dcmp x5 FP.dconst1) .g) then (
    some (((x3 ||| (((x7 + (1023 : Int32)).toInt64) <<< ((52 : Int32).toInt64 &&& 63))) ||| (FP.d2l (FP.dmul (FP.dsub x5 FP.dconst1) (4841369599423283200 : UInt64)))), M))
  else (
    some ((x3 ||| (FP.d2l (FP.dmul x5 (4841369599423283200 : UInt64)))), M))
noncomputable def d_X12_bits_110b (k110 : (UInt64 × Int32) → Mem → Option (Int64 × Mem)) (x3 : Int64) (x5 : UInt64) (x7 : Int32) (M : Mem) : Option (Int64 × Mem) :=
  if 0 ≤ (Op.cmpValue (FP.dcmp x5 FP.dconst1) .g) then (
    d_X12_bits_139 x3 x5 x7 M)
  else (
    if x7 ≤ (-1022 : Int32) then (
      d_X12_bits_139 x3 x5 x7 M)
    else (
      bnd ((FP.dmul x5 (4611686018427387904 : UInt64))) fun b1 =>
      bnd ((x7 + (-1 : Int32))) fun b2 =>
      k110 (b1, b2) M))
noncomputable def d_X12_bits_110 (x3 : Int64) : Nat → (UInt64 × Int32) → Mem → Option (Int64 × Mem) := lp fun k a M => d_X12_bits_110b k x3 a.1 a.2 M
noncomputable def d_X12_bits_87b (k87 : (UInt64 × Int32) → Mem → Option (Int64 × Mem)) (x3 : Int64) (x5 : UInt64) (x7 : Int32) (M : Mem) : Option (Int64 × Mem) :=
  if (Op.cmpValue (FP.dcmp x5 (4611686018427387904 : UInt64)) .l) < 0 then (
    d_X12_bits_110 x3 fuel (x5, x7) M)
  else (
    bnd ((FP.ddiv x5 (4611686018427387904 : UInt64))) fun b1 =>
    bnd ((x7 + (1 : Int32))) fun b2 =>
    k87 (b1, b2) M)
noncomputable def d_X12_bits_87 (x3 : Int64) : Nat → (UInt64 × Int32) → Mem → Option (Int64 × Mem) := lp fun k a M => d_X12_bits_87b k x3 a.1 a.2 M
noncomputable def d_X12_bits_58 (x3 : Int64) (s0 : UInt64) (M : Mem) : Option (Int64 × Mem) :=
  if (Op.cmpValue (FP.dcmp s0 FP.dconst0) .l) = 0 then (
    some (x3, M))
  else (
    if (Op.cmpValue (FP.dcmp s0 (9218868437227405311 : UInt64)) .l) ≤ 0 then (
      d_X12_bits_87 x3 fuel (s0, (0 : Int32)) M)
    else (
      some ((x3 ||| (9218868437227405312 : Int64)), M)))
noncomputable def d_X12_bits_47 (x0 : UInt64) (x2 : Int32) (s0 : Int64) (M : Mem) : Option (Int64 × Mem) :=
  if x2 = 0 then (
    d_X12_bits_58 s0 x0 M)
  else (
    d_X12_bits_58 s0 (FP.dneg x0) M)
noncomputable def d_X12_bits_35 (x0 : UInt64) (s0 : Int32) (M : Mem) : Option (Int64 × Mem) :=
  if s0 = 0 then (
    d_X12_bits_47 x0 s0 (0 : Int64) M)
  else (
    d_X12_bits_47 x0 s0 (-9223372036854775808 : Int64) M)
noncomputable def d_X12_bits_30 (x0 : UInt64) (M : Mem) : Option (Int64 × Mem) :=
  d_X12_bits_35 x0 (1 : Int32) M
noncomputable def d_X12_bits_34 (x0 : UInt64) (M : Mem) : Option (Int64 × Mem) :=
  d_X12_bits_35 x0 (0 : Int32) M
noncomputable def d_X12_bits (x0 : UInt64) (M : Mem) : Option (Int64 × Mem) :=
  if (Op.cmpValue (FP.dcmp x0 x0) .l) = 0 then (
    if (Op.cmpValue (FP.dcmp x0 FP.dconst0) .g) < 0 then (
      d_X12_bits_30 x0 M)
    else (
      if (Op.cmpValue (FP.dcmp x0 FP.dconst0) .l) = 0 then (
        if 0 ≤ (Op.cmpValue (FP.dcmp (FP.ddiv FP.dconst1 x0) FP.dconst0) .g) then (
          d_X12_bits_34 x0 M)
        else (
          d_X12_bits_30 x0 M))
      else (
        d_X12_bits_34 x0 M)))
  else (
    some ((9221120237041090560 : Int64), M))
noncomputable def d_X12_told (x0 : Int32) (x1 : Int32) (x2 : UInt64) (M : Mem) : Option (Int64 × Mem) :=
  if x0 = (105 : Int32) then (
    some ((x1.toInt64), M))
  else (
    if x0 = (111 : Int32) then (
      some ((x1.toInt64), M))
    else (
      if x0 = (102 : Int32) then (
        (d_X12_bits x2 M).bind fun y1 =>
        some (y1.1, y1.2))
      else (
        some ((0 : Int64), M))))
noncomputable def d_X12_copies (x1 : Int32) (x2 : Int32) (M : Mem) : Option (Unit × Mem) :=
  okk (vp_in x1 168) <|
  okk (vp_in x2 168) <|
  okk (isCh (mI M 105 x1.toNatClampNeg)) <|
  bnd (sI M 105 x2.toNatClampNeg (mI M 105 x1.toNatClampNeg)) fun M1 =>
  okk (vp_in x1 168) <|
  okk (vp_in x2 168) <|
  bnd (sI M1 106 x2.toNatClampNeg (mI M1 106 x1.toNatClampNeg)) fun M2 =>
  okk (vp_in x1 168) <|
  okk (vp_in x2 168) <|
  bnd (sD M2 107 x2.toNatClampNeg (mD M2 107 x1.toNatClampNeg)) fun M3 =>
  okk (vp_in x1 168) <|
  okk (vp_in x2 168) <|
  bnd (sI M3 108 x2.toNatClampNeg (mI M3 108 x1.toNatClampNeg)) fun M4 =>
  some ((), M4)
noncomputable def d_X12_gives (x1 : Int32) (x2 : Int32) (x3 : UInt64) (M : Mem) : Option (Unit × Mem) :=
  okk (isCh x1) <|
  bnd (sI M 69 88 x1) fun M1 =>
  bnd (sI M1 69 89 x2) fun M2 =>
  bnd (sD M2 69 90 x3) fun M3 =>
  some ((), M3)
noncomputable def d_X12_pushes (x1 : Int32) (M : Mem) : Option (Unit × Mem) :=
  okk (vp_in (mI M 69 48) 12) <|
  okk (vp_in (mI M 69 48) 12) <|
  bnd (sI M 111 (mI M 69 48).toNatClampNeg ((mI M 111 (mI M 69 48).toNatClampNeg) + (1 : Int32))) fun M1 =>
  (d_X12_top (0 : Int32) M1).bind fun y1 =>
  okk (vp_in y1.1 168) <|
  okk (isCh (mI y1.2 69 88)) <|
  bnd (sI y1.2 105 y1.1.toNatClampNeg (mI y1.2 69 88)) fun M2 =>
  okk (vp_in y1.1 168) <|
  bnd (sI M2 106 y1.1.toNatClampNeg (mI M2 69 89)) fun M3 =>
  okk (vp_in y1.1 168) <|
  bnd (sD M3 107 y1.1.toNatClampNeg (mD M3 69 90)) fun M4 =>
  okk (vp_in y1.1 168) <|
  bnd (sI M4 108 y1.1.toNatClampNeg x1) fun M5 =>
  some ((), M5)
noncomputable def d_X12_givesInteger_28 (x3 : UInt64) (M : Mem) : Option (Unit × Mem) :=
  (d_X12_gives (102 : Int32) (0 : Int32) x3 M).bind fun y1 =>
  some ((), y1.2)
noncomputable def d_X12_givesInteger (x1 : Int64) (x2 : UInt64) (M : Mem) : Option (Unit × Mem) :=
  if (lg_cmp x1 (-2147483648 : Int64)) < 0 then (
    d_X12_givesInteger_28 x2 M)
  else (
    if 0 < (lg_cmp x1 (2147483647 : Int64)) then (
      d_X12_givesInteger_28 x2 M)
    else (
      (d_X12_gives (105 : Int32) (x1.toInt32) FP.dconst0 M).bind fun y1 =>
      some ((), y1.2)))
noncomputable def d_X12_reckons_361 (x1 : Int32) (x4 : UInt64) (x6 : UInt64) (s0 : Int64) (M : Mem) : Option (Unit × Mem) :=
  if x1 = (43 : Int32) then (
    (d_X12_givesInteger s0 (FP.dadd x4 x6) M).bind fun y4 =>
    some ((), y4.2))
  else (
    if x1 = (45 : Int32) then (
      (d_X12_givesInteger s0 (FP.dsub x4 x6) M).bind fun y3 =>
      some ((), y3.2))
    else (
      if x1 = (42 : Int32) then (
        (d_X12_givesInteger s0 (FP.dmul x4 x6) M).bind fun y2 =>
        some ((), y2.2))
      else (
        (d_X12_givesInteger s0 (FP.ddiv x4 x6) M).bind fun y1 =>
        some ((), y1.2))))
noncomputable def d_X12_reckons_165 (s0 : Int32) (M : Mem) : Option (Unit × Mem) :=
  if s0 = 0 then (
    (d_X12_gives (105 : Int32) (0 : Int32) FP.dconst0 M).bind fun y1 =>
    some ((), y1.2))
  else (
    (d_X12_gives (105 : Int32) (1 : Int32) FP.dconst0 M).bind fun y2 =>
    some ((), y2.2))
noncomputable def d_X12_reckons_164 (M : Mem) : Option (Unit × Mem) :=
  d_X12_reckons_165 (0 : Int32) M
noncomputable def d_X12_reckons_160 (M : Mem) : Option (Unit × Mem) :=
  d_X12_reckons_165 (1 : Int32) M
noncomputable def d_X12_reckons_96 (x2 : Int32) (x3 : Int32) (x4 : UInt64) (x6 : UInt64) (s0 : Int32) (M : Mem) : Option (Unit × Mem) :=
  if s0 = 0 then (
    okk (vp_in x2 168) <|
    okk (vp_in x3 168) <|
    if (mI M 105 x2.toNatClampNeg) = (mI M 105 x3.toNatClampNeg) then (
      okk (vp_in x2 168) <|
      if (mI M 105 x2.toNatClampNeg) = (110 : Int32) then (
        d_X12_reckons_160 M)
      else (
        okk (vp_in x2 168) <|
        okk (vp_in x3 168) <|
        if (mI M 106 x2.toNatClampNeg) = (mI M 106 x3.toNatClampNeg) then (
          d_X12_reckons_160 M)
        else (
          d_X12_reckons_164 M)))
    else (
      d_X12_reckons_164 M))
  else (
    if (Op.cmpValue (FP.dcmp x4 x6) .l) = 0 then (
      d_X12_reckons_165 (1 : Int32) M)
    else (
      d_X12_reckons_165 (0 : Int32) M))
noncomputable def d_X12_reckons_95 (x2 : Int32) (x3 : Int32) (x4 : UInt64) (x6 : UInt64) (M : Mem) : Option (Unit × Mem) :=
  d_X12_reckons_96 x2 x3 x4 x6 (0 : Int32) M
noncomputable def d_X12_reckons_41 (x1 : Int32) (x2 : Int32) (x3 : Int32) (x4 : UInt64) (x6 : UInt64) (s0 : Int32) (M : Mem) : Option (Unit × Mem) :=
  okk (vp_in x2 168) <|
  bnd (((mI M 106 x2.toNatClampNeg).toInt64)) fun b1 =>
  okk (vp_in x3 168) <|
  bnd (((mI M 106 x3.toNatClampNeg).toInt64)) fun b2 =>
  if x1 = (61 : Int32) then (
    okk (vp_in x2 168) <|
    (d_X12_isNumber (mI M 105 x2.toNatClampNeg) M).bind fun y9 =>
    if y9.1 = 0 then (
      d_X12_reckons_95 x2 x3 x4 x6 y9.2)
    else (
      okk (vp_in x3 168) <|
      (d_X12_isNumber (mI y9.2 105 x3.toNatClampNeg) y9.2).bind fun y10 =>
      if y10.1 = 0 then (
        d_X12_reckons_95 x2 x3 x4 x6 y10.2)
      else (
        d_X12_reckons_96 x2 x3 x4 x6 (1 : Int32) y10.2)))
  else (
    if x1 = (60 : Int32) then (
      if 0 ≤ (Op.cmpValue (FP.dcmp x4 x6) .g) then (
        (d_X12_gives (105 : Int32) (0 : Int32) FP.dconst0 M).bind fun y7 =>
        some ((), y7.2))
      else (
        (d_X12_gives (105 : Int32) (1 : Int32) FP.dconst0 M).bind fun y8 =>
        some ((), y8.2)))
    else (
      if s0 = 0 then (
        if x1 = (43 : Int32) then (
          (d_X12_gives (102 : Int32) (0 : Int32) (FP.dadd x4 x6) M).bind fun y6 =>
          some ((), y6.2))
        else (
          if x1 = (45 : Int32) then (
            (d_X12_gives (102 : Int32) (0 : Int32) (FP.dsub x4 x6) M).bind fun y5 =>
            some ((), y5.2))
          else (
            if x1 = (42 : Int32) then (
              (d_X12_gives (102 : Int32) (0 : Int32) (FP.dmul x4 x6) M).bind fun y4 =>
              some ((), y4.2))
            else (
              if x1 = (47 : Int32) then (
                (d_X12_gives (102 : Int32) (0 : Int32) (FP.ddiv x4 x6) M).bind fun y3 =>
                some ((), y3.2))
              else (
                (d_X12_gives (102 : Int32) (0 : Int32) (FP.drem x4 x6) M).bind fun y2 =>
                some ((), y2.2))))))
      else (
        if x1 = (37 : Int32) then (
          okk (¬ b2 = 0) <|
          (d_X12_gives (105 : Int32) ((b1 - b1 / b2 * b2).toInt32) FP.dconst0 M).bind fun y1 =>
          some ((), y1.2))
        else (
          if x1 = (43 : Int32) then (
            d_X12_reckons_361 x1 x4 x6 (b1 + b2) M)
          else (
            if x1 = (45 : Int32) then (
              d_X12_reckons_361 x1 x4 x6 (b1 - b2) M)
            else (
              if x1 = (42 : Int32) then (
                d_X12_reckons_361 x1 x4 x6 (b1 * b2) M)
              else (
                okk (¬ b2 = 0) <|
                d_X12_reckons_361 x1 x4 x6 (b1 / b2) M)))))))
noncomputable def d_X12_reckons_40 (x1 : Int32) (x2 : Int32) (x3 : Int32) (x4 : UInt64) (x6 : UInt64) (M : Mem) : Option (Unit × Mem) :=
  d_X12_reckons_41 x1 x2 x3 x4 x6 (0 : Int32) M
noncomputable def d_X12_reckons (x1 : Int32) (x2 : Int32) (x3 : Int32) (M : Mem) : Option (Unit × Mem) :=
  (d_X12_asFloat x2 M).bind fun y1 =>
  (d_X12_asFloat x3 y1.2).bind fun y2 =>
  okk (vp_in x2 168) <|
  if (mI y2.2 105 x2.toNatClampNeg) = (105 : Int32) then (
    okk (vp_in x3 168) <|
    if (mI y2.2 105 x3.toNatClampNeg) = (105 : Int32) then (
      d_X12_reckons_41 x1 x2 x3 y1.1 y2.1 (1 : Int32) y2.2)
    else (
      d_X12_reckons_40 x1 x2 x3 y1.1 y2.1 y2.2))
  else (
    d_X12_reckons_40 x1 x2 x3 y1.1 y2.1 y2.2)
noncomputable def d_X12_newValue (M : Mem) : Option (Int32 × Mem) :=
  okk (vp_in (mI M 69 83) 600) <|
  bnd (sI M 123 (mI M 69 83).toNatClampNeg (0 : Int32)) fun M1 =>
  okk (vp_in (mI M1 69 83) 600) <|
  bnd (sI M1 124 (mI M1 69 83).toNatClampNeg (0 : Int32)) fun M2 =>
  okk (vp_in (mI M2 69 83) 600) <|
  bnd (sI M2 125 (mI M2 69 83).toNatClampNeg (-1 : Int32)) fun M3 =>
  okk (vp_in (mI M3 69 83) 600) <|
  bnd (sI M3 126 (mI M3 69 83).toNatClampNeg (0 : Int32)) fun M4 =>
  bnd (sI M4 69 83 ((mI M4 69 83) + (1 : Int32))) fun M5 =>
  some (((mI M5 69 83) - (1 : Int32)), M5)
noncomputable def d_X12_valueOf (x1 : Int32) (M : Mem) : Option (Int32 × Mem) :=
  (d_X12_newValue M).bind fun y1 =>
  okk (vp_in y1.1 600) <|
  okk (isCh x1) <|
  bnd (sI y1.2 123 y1.1.toNatClampNeg x1) fun M1 =>
  some (y1.1, M1)
noncomputable def d_X12_isKindKnown (x1 : Int32) (M : Mem) : Option (Int32 × Mem) :=
  okk (vp_in x1 600) <|
  if (mI M 123 x1.toNatClampNeg) = 0 then (
    some ((0 : Int32), M))
  else (
    some ((1 : Int32), M))
noncomputable def d_X12_isNullKnown (x1 : Int32) (M : Mem) : Option (Int32 × Mem) :=
  okk (vp_in x1 600) <|
  if (mI M 126 x1.toNatClampNeg) = 0 then (
    okk (vp_in x1 600) <|
    if (mI M 123 x1.toNatClampNeg) = (111 : Int32) then (
      some ((1 : Int32), M))
    else (
      okk (vp_in x1 600) <|
      if (mI M 123 x1.toNatClampNeg) = (110 : Int32) then (
        some ((1 : Int32), M))
      else (
        some ((0 : Int32), M))))
  else (
    some ((1 : Int32), M))
noncomputable def d_X12_asks (x1 : Int32) (x2 : Int32) (x3 : Int32) (M : Mem) : Option (Unit × Mem) :=
  okk (vp_in (mI M 69 78) 120) <|
  okk (isCh x1) <|
  bnd (sI M 119 (mI M 69 78).toNatClampNeg x1) fun M1 =>
  okk (vp_in (mI M1 69 78) 120) <|
  bnd (sI M1 120 (mI M1 69 78).toNatClampNeg (mI M1 69 76)) fun M2 =>
  okk (vp_in (mI M2 69 78) 120) <|
  bnd (sI M2 121 (mI M2 69 78).toNatClampNeg x2) fun M3 =>
  okk (vp_in (mI M3 69 78) 120) <|
  bnd (sI M3 122 (mI M3 69 78).toNatClampNeg x3) fun M4 =>
  bnd (sI M4 69 78 ((mI M4 69 78) + (1 : Int32))) fun M5 =>
  some ((), M5)
noncomputable def d_X12_asksKind (x1 : Int32) (M : Mem) : Option (Unit × Mem) :=
  (d_X12_top x1 M).bind fun y1 =>
  okk (vp_in y1.1 168) <|
  bnd ((mI y1.2 108 y1.1.toNatClampNeg)) fun b1 =>
  (d_X12_isKindKnown b1 y1.2).bind fun y2 =>
  if y2.1 = 0 then (
    (d_X12_top x1 y2.2).bind fun y3 =>
    okk (vp_in y3.1 168) <|
    (d_X12_asks (107 : Int32) x1 (mI y3.2 105 y3.1.toNatClampNeg) y3.2).bind fun y4 =>
    (d_X12_top x1 y4.2).bind fun y5 =>
    okk (vp_in y5.1 168) <|
    okk (vp_in b1 600) <|
    okk (isCh (mI y5.2 105 y5.1.toNatClampNeg)) <|
    bnd (sI y5.2 123 b1.toNatClampNeg (mI y5.2 105 y5.1.toNatClampNeg)) fun M1 =>
    some ((), M1))
  else (
    some ((), y2.2))
noncomputable def d_X12_asksShape (x1 : Int32) (M : Mem) : Option (Unit × Mem) :=
  (d_X12_top x1 M).bind fun y1 =>
  okk (vp_in y1.1 168) <|
  bnd ((mI y1.2 108 y1.1.toNatClampNeg)) fun b1 =>
  (d_X12_top x1 y1.2).bind fun y2 =>
  okk (vp_in y2.1 168) <|
  okk (vp_in (mI y2.2 106 y2.1.toNatClampNeg) 60) <|
  bnd ((mI y2.2 112 (mI y2.2 106 y2.1.toNatClampNeg).toNatClampNeg)) fun b2 =>
  okk (vp_in b1 600) <|
  if (mI y2.2 125 b1.toNatClampNeg) = (-1 : Int32) then (
    (d_X12_asks (115 : Int32) x1 b2 y2.2).bind fun y3 =>
    okk (vp_in b1 600) <|
    bnd (sI y3.2 125 b1.toNatClampNeg b2) fun M1 =>
    okk (vp_in b1 600) <|
    bnd (sI M1 123 b1.toNatClampNeg (111 : Int32)) fun M2 =>
    some ((), M2))
  else (
    some ((), y2.2))
noncomputable def d_X12_guards_304 (M : Mem) : Option (Unit × Mem) :=
  (d_X12_asksShape (0 : Int32) M).bind fun y1 =>
  some ((), y1.2)
noncomputable def d_X12_guards_263 (x2 : Int32) (s1 : Int32) (s2 : Int32) (s3 : Int32) (M : Mem) : Option (Unit × Mem) :=
  (d_X12_asks s1 s2 s3 M).bind fun y1 =>
  (d_X12_top (0 : Int32) y1.2).bind fun y2 =>
  (d_X12_isNull y2.1 y2.2).bind fun y3 =>
  if y3.1 = 0 then (
    okk (vp_in x2 600) <|
    bnd (sI y3.2 126 x2.toNatClampNeg (2 : Int32)) fun M1 =>
    some ((), M1))
  else (
    okk (vp_in x2 600) <|
    bnd (sI y3.2 126 x2.toNatClampNeg (1 : Int32)) fun M2 =>
    some ((), M2))
noncomputable def d_X12_guards_164 (x1 : Int32) (M : Mem) : Option (Unit × Mem) :=
  (d_X12_top (1 : Int32) M).bind fun y1 =>
  (d_X12_top (0 : Int32) y1.2).bind fun y2 =>
  (d_X12_reckons x1 y1.1 y2.1 y2.2).bind fun y3 =>
  if (mI y3.2 69 88) = (105 : Int32) then (
    (d_X12_asks (111 : Int32) (0 : Int32) (1 : Int32) y3.2).bind fun y5 =>
    some ((), y5.2))
  else (
    (d_X12_asks (111 : Int32) (0 : Int32) (0 : Int32) y3.2).bind fun y4 =>
    some ((), y4.2))
noncomputable def d_X12_guards_135 (x1 : Int32) (x4 : Int32) (M : Mem) : Option (Unit × Mem) :=
  if x4 = 0 then (
    some ((), M))
  else (
    if x1 = (43 : Int32) then (
      d_X12_guards_164 x1 M)
    else (
      if x1 = (45 : Int32) then (
        d_X12_guards_164 x1 M)
      else (
        if x1 = (42 : Int32) then (
          d_X12_guards_164 x1 M)
        else (
          if x1 = (47 : Int32) then (
            d_X12_guards_164 x1 M)
          else (
            some ((), M))))))
noncomputable def d_X12_guards_112 (x1 : Int32) (x3 : Int32) (x4 : Int32) (M : Mem) : Option (Unit × Mem) :=
  (d_X12_isNullKnown x3 M).bind fun y1 =>
  if y1.1 = 0 then (
    (d_X12_asks (122 : Int32) (0 : Int32) (0 : Int32) y1.2).bind fun y2 =>
    okk (vp_in x3 600) <|
    bnd (sI y2.2 126 x3.toNatClampNeg (2 : Int32)) fun M1 =>
    d_X12_guards_135 x1 x4 M1)
  else (
    d_X12_guards_135 x1 x4 y1.2)
noncomputable def d_X12_guards_93 (x1 : Int32) (x3 : Int32) (s0 : Int32) (M : Mem) : Option (Unit × Mem) :=
  if s0 = 0 then (
    d_X12_guards_135 x1 s0 M)
  else (
    if x1 = (47 : Int32) then (
      d_X12_guards_112 x1 x3 s0 M)
    else (
      if x1 = (37 : Int32) then (
        d_X12_guards_112 x1 x3 s0 M)
      else (
        d_X12_guards_135 x1 s0 M)))
noncomputable def d_X12_guards_92 (x1 : Int32) (x3 : Int32) (M : Mem) : Option (Unit × Mem) :=
  d_X12_guards_93 x1 x3 (0 : Int32) M
noncomputable def d_X12_guards_48 (x1 : Int32) (x3 : Int32) (M : Mem) : Option (Unit × Mem) :=
  (d_X12_asksKind (1 : Int32) M).bind fun y1 =>
  (d_X12_asksKind (0 : Int32) y1.2).bind fun y2 =>
  (d_X12_top (1 : Int32) y2.2).bind fun y3 =>
  okk (vp_in y3.1 168) <|
  if (mI y3.2 105 y3.1.toNatClampNeg) = (105 : Int32) then (
    (d_X12_top (0 : Int32) y3.2).bind fun y4 =>
    okk (vp_in y4.1 168) <|
    if (mI y4.2 105 y4.1.toNatClampNeg) = (105 : Int32) then (
      d_X12_guards_93 x1 x3 (1 : Int32) y4.2)
    else (
      d_X12_guards_92 x1 x3 y4.2))
  else (
    d_X12_guards_92 x1 x3 y3.2)
noncomputable def d_X12_guards (x1 : Int32) (M : Mem) : Option (Unit × Mem) :=
  (d_X12_isPair x1 M).bind fun y1 =>
  if y1.1 = 0 then (
    if x1 = (119 : Int32) then (
      (d_X12_asksKind (0 : Int32) y1.2).bind fun y7 =>
      some ((), y7.2))
    else (
      if x1 = (122 : Int32) then (
        (d_X12_top (0 : Int32) y1.2).bind fun y3 =>
        okk (vp_in y3.1 168) <|
        bnd ((mI y3.2 108 y3.1.toNatClampNeg)) fun b1 =>
        (d_X12_isNullKnown b1 y3.2).bind fun y4 =>
        if y4.1 = 0 then (
          (d_X12_top (0 : Int32) y4.2).bind fun y5 =>
          (d_X12_isNull y5.1 y5.2).bind fun y6 =>
          if y6.1 = 0 then (
            d_X12_guards_263 b1 (116 : Int32) (0 : Int32) (0 : Int32) y6.2)
          else (
            d_X12_guards_263 b1 (116 : Int32) (0 : Int32) (1 : Int32) y6.2))
        else (
          some ((), y4.2)))
      else (
        if x1 = (103 : Int32) then (
          d_X12_guards_304 y1.2)
        else (
          if x1 = (109 : Int32) then (
            d_X12_guards_304 y1.2)
          else (
            if x1 = (112 : Int32) then (
              (d_X12_asksShape (1 : Int32) y1.2).bind fun y2 =>
              some ((), y2.2))
            else (
              some ((), y1.2)))))))
  else (
    (d_X12_top (1 : Int32) y1.2).bind fun y8 =>
    okk (vp_in y8.1 168) <|
    bnd ((mI y8.2 108 y8.1.toNatClampNeg)) fun b2 =>
    (d_X12_top (0 : Int32) y8.2).bind fun y9 =>
    okk (vp_in y9.1 168) <|
    bnd ((mI y9.2 108 y9.1.toNatClampNeg)) fun b3 =>
    okk (vp_in b2 600) <|
    if (mI y9.2 124 b2.toNatClampNeg) = 0 then (
      d_X12_guards_48 x1 b3 y9.2)
    else (
      okk (vp_in b3 600) <|
      if (mI y9.2 124 b3.toNatClampNeg) = 0 then (
        d_X12_guards_48 x1 b3 y9.2)
      else (
        some ((), y9.2))))
noncomputable def d_X12_holds_187 (x1 : Int32) (s0 : Int32) (M : Mem) : Option (Int32 × Mem) :=
  okk (vp_in x1 2400) <|
  if s0 = (mI M 100 x1.toNatClampNeg) then (
    some ((1 : Int32), M))
  else (
    some ((0 : Int32), M))
noncomputable def d_X12_holds_85 (x1 : Int32) (s0 : Int32) (M : Mem) : Option (Int32 × Mem) :=
  okk (vp_in x1 2400) <|
  if s0 = (mI M 100 x1.toNatClampNeg) then (
    some ((1 : Int32), M))
  else (
    some ((0 : Int32), M))
noncomputable def d_X12_holds (x1 : Int32) (M : Mem) : Option (Int32 × Mem) :=
  okk (vp_in x1 2400) <|
  (d_X12_top (mI M 99 x1.toNatClampNeg) M).bind fun y1 =>
  okk (vp_in x1 2400) <|
  bnd ((mI y1.2 97 x1.toNatClampNeg)) fun b1 =>
  if b1 = (107 : Int32) then (
    okk (vp_in y1.1 168) <|
    okk (vp_in x1 2400) <|
    if (mI y1.2 105 y1.1.toNatClampNeg) = (mI y1.2 100 x1.toNatClampNeg) then (
      some ((1 : Int32), y1.2))
    else (
      some ((0 : Int32), y1.2)))
  else (
    if b1 = (122 : Int32) then (
      okk (vp_in y1.1 168) <|
      if (mI y1.2 106 y1.1.toNatClampNeg) = 0 then (
        some ((0 : Int32), y1.2))
      else (
        some ((1 : Int32), y1.2)))
    else (
      if b1 = (116 : Int32) then (
        (d_X12_isNull y1.1 y1.2).bind fun y5 =>
        if y5.1 = 0 then (
          d_X12_holds_85 x1 (0 : Int32) y5.2)
        else (
          d_X12_holds_85 x1 (1 : Int32) y5.2))
      else (
        if b1 = (115 : Int32) then (
          okk (vp_in y1.1 168) <|
          okk (vp_in (mI y1.2 106 y1.1.toNatClampNeg) 60) <|
          okk (vp_in x1 2400) <|
          if (mI y1.2 112 (mI y1.2 106 y1.1.toNatClampNeg).toNatClampNeg) = (mI y1.2 100 x1.toNatClampNeg) then (
            some ((1 : Int32), y1.2))
          else (
            some ((0 : Int32), y1.2)))
        else (
          okk (vp_in (mI y1.2 69 48) 12) <|
          okk (vp_in (mI y1.2 69 48) 12) <|
          okk (vp_in (((40 : Int32) * (mI y1.2 109 (mI y1.2 69 48).toNatClampNeg)) + (mI y1.2 110 (mI y1.2 69 48).toNatClampNeg)) 320) <|
          (d_X12_top (1 : Int32) y1.2).bind fun y2 =>
          (d_X12_top (0 : Int32) y2.2).bind fun y3 =>
          (d_X12_reckons (mI y1.2 72 (((40 : Int32) * (mI y1.2 109 (mI y1.2 69 48).toNatClampNeg)) + (mI y1.2 110 (mI y1.2 69 48).toNatClampNeg)).toNatClampNeg) y2.1 y3.1 y3.2).bind fun y4 =>
          if (mI y4.2 69 88) = (105 : Int32) then (
            d_X12_holds_187 x1 (1 : Int32) y4.2)
          else (
            d_X12_holds_187 x1 (0 : Int32) y4.2)))))
noncomputable def d_X12_records_57b (k45 : (Int32) → Mem → Option (Unit × Mem)) (k57 : (Int32) → Mem → Option (Unit × Mem)) (x5 : Int32) (x6 : Int32) (M : Mem) : Option (Unit × Mem) :=
  okk (vp_in x5 12) <|
  if ((6 : Int32) + (mI M 111 x5.toNatClampNeg)) ≤ x6 then (
    bnd ((x5 + (1 : Int32))) fun b1 =>
    k45 (b1) M)
  else (
    (d_X12_newValue M).bind fun y1 =>
    okk (vp_in (((14 : Int32) * x5) + x6) 168) <|
    bnd (sI y1.2 108 (((14 : Int32) * x5) + x6).toNatClampNeg y1.1) fun M1 =>
    bnd ((x6 + (1 : Int32))) fun b2 =>
    k57 (b2) M1)
noncomputable def d_X12_records_57 (k45 : (Int32) → Mem → Option (Unit × Mem)) (x5 : Int32) : Nat → (Int32) → Mem → Option (Unit × Mem) := lp fun k a M => d_X12_records_57b k45 k x5 a M
noncomputable def d_X12_records_45b (k45 : (Int32) → Mem → Option (Unit × Mem)) (x5 : Int32) (M : Mem) : Option (Unit × Mem) :=
  if (mI M 69 48) < x5 then (
    some ((), M))
  else (
    d_X12_records_57 k45 x5 fuel ((0 : Int32)) M)
noncomputable def d_X12_records_45 : Nat → (Int32) → Mem → Option (Unit × Mem) := lp fun k a M => d_X12_records_45b k a M
noncomputable def d_X12_records (x1 : Int32) (x2 : Int32) (x3 : Int32) (x4 : Int32) (M : Mem) : Option (Unit × Mem) :=
  bnd (sI M 69 71 (1 : Int32)) fun M1 =>
  bnd (sI M1 69 72 x1) fun M2 =>
  bnd (sI M2 69 73 x2) fun M3 =>
  bnd (sI M3 69 74 x3) fun M4 =>
  bnd (sI M4 69 75 x4) fun M5 =>
  bnd (sI M5 69 76 (0 : Int32)) fun M6 =>
  bnd (sI M6 69 78 (0 : Int32)) fun M7 =>
  bnd (sI M7 69 83 (0 : Int32)) fun M8 =>
  d_X12_records_45 fuel (x4) M8
noncomputable def d_X12_breaksOff (M : Mem) : Option (Unit × Mem) :=
  if (mI M 69 71) = 0 then (
    some ((), M))
  else (
    bnd (sI M 69 71 (0 : Int32)) fun M1 =>
    if (mI M1 69 73) = (-1 : Int32) then (
      okk (vp_in (mI M1 69 74) 320) <|
      bnd (sI M1 87 (mI M1 69 74).toNatClampNeg (0 : Int32)) fun M4 =>
      okk (vp_in (mI M4 69 74) 320) <|
      okk (vp_in (mI M4 69 74) 320) <|
      bnd (sI M4 88 (mI M4 69 74).toNatClampNeg ((mI M4 88 (mI M4 69 74).toNatClampNeg) + (1 : Int32))) fun M5 =>
      some ((), M5))
    else (
      okk (vp_in (mI M1 69 73) 2400) <|
      bnd (sI M1 102 (mI M1 69 73).toNatClampNeg (0 : Int32)) fun M2 =>
      okk (vp_in (mI M2 69 73) 2400) <|
      okk (vp_in (mI M2 69 73) 2400) <|
      bnd (sI M2 103 (mI M2 69 73).toNatClampNeg ((mI M2 103 (mI M2 69 73).toNatClampNeg) + (1 : Int32))) fun M3 =>
      some ((), M3)))
noncomputable def d_X12_ends_290 (x2 : Int32) (M : Mem) : Option (Unit × Mem) :=
  okk (vp_in x2 20) <|
  (d_X12_enters (mI M 93 x2.toNatClampNeg) M).bind fun y1 =>
  some ((), y1.2)
noncomputable def d_X12_ends_190b (k190 : (Int32) → Mem → Option (Unit × Mem)) (x2 : Int32) (x3 : Int32) (M : Mem) : Option (Unit × Mem) :=
  if (mI M 69 78) ≤ x3 then (
    if (mI M 69 73) = (-1 : Int32) then (
      d_X12_ends_290 x2 M)
    else (
      okk (vp_in (mI M 69 73) 2400) <|
      bnd (sI M 104 (mI M 69 73).toNatClampNeg x2) fun M1 =>
      d_X12_ends_290 x2 M1))
  else (
    bnd ((((120 : Int32) * x2) + x3)) fun b1 =>
    okk (vp_in x3 120) <|
    okk (vp_in b1 2400) <|
    okk (isCh (mI M 119 x3.toNatClampNeg)) <|
    bnd (sI M 97 b1.toNatClampNeg (mI M 119 x3.toNatClampNeg)) fun M2 =>
    okk (vp_in x3 120) <|
    okk (vp_in b1 2400) <|
    bnd (sI M2 98 b1.toNatClampNeg (mI M2 120 x3.toNatClampNeg)) fun M3 =>
    okk (vp_in x3 120) <|
    okk (vp_in b1 2400) <|
    bnd (sI M3 99 b1.toNatClampNeg (mI M3 121 x3.toNatClampNeg)) fun M4 =>
    okk (vp_in x3 120) <|
    okk (vp_in b1 2400) <|
    bnd (sI M4 100 b1.toNatClampNeg (mI M4 122 x3.toNatClampNeg)) fun M5 =>
    okk (vp_in b1 2400) <|
    bnd (sI M5 104 b1.toNatClampNeg (-1 : Int32)) fun M6 =>
    bnd ((x3 + (1 : Int32))) fun b2 =>
    k190 (b2) M6)
noncomputable def d_X12_ends_190 (x2 : Int32) : Nat → (Int32) → Mem → Option (Unit × Mem) := lp fun k a M => d_X12_ends_190b k x2 a M
noncomputable def d_X12_ends_157b (k157 : (Int32) → Mem → Option (Unit × Mem)) (x2 : Int32) (x3 : Int32) (M : Mem) : Option (Unit × Mem) :=
  if (mI M 69 76) ≤ x3 then (
    d_X12_ends_190 x2 fuel ((0 : Int32)) M)
  else (
    okk (vp_in x3 30) <|
    okk (vp_in (((30 : Int32) * x2) + x3) 600) <|
    bnd (sI M 91 (((30 : Int32) * x2) + x3).toNatClampNeg (mI M 118 x3.toNatClampNeg)) fun M1 =>
    bnd ((x3 + (1 : Int32))) fun b1 =>
    k157 (b1) M1)
noncomputable def d_X12_ends_157 (x2 : Int32) : Nat → (Int32) → Mem → Option (Unit × Mem) := lp fun k a M => d_X12_ends_157b k x2 a M
noncomputable def d_X12_ends_144 (x2 : Int32) (s1 : Int32) (s2 : Int32) (M : Mem) : Option (Unit × Mem) :=
  okk (vp_in s1 20) <|
  bnd (sI M 93 s1.toNatClampNeg s2) fun M1 =>
  okk (vp_in x2 20) <|
  bnd (sI M1 94 x2.toNatClampNeg (mI M1 69 74)) fun M2 =>
  d_X12_ends_157 x2 fuel ((0 : Int32)) M2
noncomputable def d_X12_ends_67 (x1 : Int32) (M : Mem) : Option (Unit × Mem) :=
  if x1 = 0 then (
    (d_X12_breaksOff M).bind fun y1 =>
    some ((), y1.2))
  else (
    bnd ((mI M 69 26)) fun b1 =>
    bnd (sI M 69 71 (0 : Int32)) fun M1 =>
    bnd (sI M1 69 26 ((mI M1 69 26) + (1 : Int32))) fun M2 =>
    okk (vp_in b1 20) <|
    bnd (sI M2 89 b1.toNatClampNeg (1 : Int32)) fun M3 =>
    okk (vp_in b1 20) <|
    bnd (sI M3 90 b1.toNatClampNeg (mI M3 69 76)) fun M4 =>
    okk (vp_in b1 20) <|
    bnd (sI M4 92 b1.toNatClampNeg (mI M4 69 78)) fun M5 =>
    if (mI M5 69 72) = (-1 : Int32) then (
      d_X12_ends_144 b1 b1 b1 M5)
    else (
      d_X12_ends_144 b1 b1 (mI M5 69 72) M5))
noncomputable def d_X12_ends_64 (k15 : (Int32) → Mem → Option (Unit × Mem)) (x1 : Int32) (M : Mem) : Option (Unit × Mem) :=
  k15 (x1) M
noncomputable def d_X12_ends_54 (k15 : (Int32) → Mem → Option (Unit × Mem)) (x2 : Int32) (s0 : Int32) (M : Mem) : Option (Unit × Mem) :=
  if s0 = 0 then (
    d_X12_ends_64 k15 s0 M)
  else (
    (d_X12_throwAway x2 M).bind fun y1 =>
    d_X12_ends_64 k15 s0 y1.2)
noncomputable def d_X12_ends_15b (k15 : (Int32) → Mem → Option (Unit × Mem)) (x1 : Int32) (M : Mem) : Option (Unit × Mem) :=
  if x1 = 0 then (
    d_X12_ends_67 x1 M)
  else (
    (d_X12_size M).bind fun y1 =>
    if (y1.1 + (mI y1.2 69 76)) ≤ (mI y1.2 69 25) then (
      d_X12_ends_67 x1 y1.2)
    else (
      (d_X12_oldest (mI y1.2 69 72) y1.2).bind fun y2 =>
      if y2.1 = (-1 : Int32) then (
        d_X12_ends_54 k15 y2.1 (0 : Int32) y2.2)
      else (
        d_X12_ends_54 k15 y2.1 (1 : Int32) y2.2)))
noncomputable def d_X12_ends_15 : Nat → (Int32) → Mem → Option (Unit × Mem) := lp fun k a M => d_X12_ends_15b k a M
noncomputable def d_X12_ends_14 (s0 : Int32) (M : Mem) : Option (Unit × Mem) :=
  d_X12_ends_15 fuel (s0) M
noncomputable def d_X12_ends (M : Mem) : Option (Unit × Mem) :=
  if (20 : Int32) ≤ (mI M 69 26) then (
    d_X12_ends_14 (0 : Int32) M)
  else (
    d_X12_ends_14 (1 : Int32) M)
noncomputable def d_X12_takes_87 (s0 : Int32) (M : Mem) : Option (Int32 × Mem) :=
  if s0 = 0 then (
    some ((0 : Int32), M))
  else (
    some ((1 : Int32), M))
noncomputable def d_X12_takes_82 (M : Mem) : Option (Int32 × Mem) :=
  d_X12_takes_87 (1 : Int32) M
noncomputable def d_X12_takes (x1 : Int32) (x2 : Int32) (M : Mem) : Option (Int32 × Mem) :=
  (d_X12_isPair x1 M).bind fun y1 =>
  if y1.1 = 0 then (
    if x1 = (112 : Int32) then (
      some ((2 : Int32), y1.2))
    else (
      if x1 = (99 : Int32) then (
        okk (vp_in x2 8) <|
        some ((mI y1.2 70 x2.toNatClampNeg), y1.2))
      else (
        if x1 = (115 : Int32) then (
          d_X12_takes_82 y1.2)
        else (
          if x1 = (117 : Int32) then (
            d_X12_takes_82 y1.2)
          else (
            if x1 = (100 : Int32) then (
              d_X12_takes_82 y1.2)
            else (
              if x1 = (119 : Int32) then (
                d_X12_takes_82 y1.2)
              else (
                if x1 = (122 : Int32) then (
                  d_X12_takes_82 y1.2)
                else (
                  if x1 = (103 : Int32) then (
                    d_X12_takes_82 y1.2)
                  else (
                    if x1 = (109 : Int32) then (
                      d_X12_takes_82 y1.2)
                    else (
                      if x1 = (114 : Int32) then (
                        d_X12_takes_82 y1.2)
                      else (
                        if x1 = (116 : Int32) then (
                          d_X12_takes_82 y1.2)
                        else (
                          d_X12_takes_87 (0 : Int32) y1.2))))))))))))
  else (
    some ((2 : Int32), y1.2))
noncomputable def d_X12_hasNoRoom_70 (s0 : Int32) (M : Mem) : Option (Int32 × Mem) :=
  if s0 = 0 then (
    some ((0 : Int32), M))
  else (
    okk (vp_in (mI M 69 48) 12) <|
    if (mI M 111 (mI M 69 48).toNatClampNeg) = (8 : Int32) then (
      some ((1 : Int32), M))
    else (
      some ((0 : Int32), M)))
noncomputable def d_X12_hasNoRoom_65 (M : Mem) : Option (Int32 × Mem) :=
  d_X12_hasNoRoom_70 (1 : Int32) M
noncomputable def d_X12_hasNoRoom (x1 : Int32) (M : Mem) : Option (Int32 × Mem) :=
  if x1 = (114 : Int32) then (
    if (mI M 69 48) ≤ 0 then (
      some ((0 : Int32), M))
    else (
      okk (vp_in ((mI M 69 48) - (1 : Int32)) 12) <|
      if (mI M 111 ((mI M 69 48) - (1 : Int32)).toNatClampNeg) = (8 : Int32) then (
        some ((1 : Int32), M))
      else (
        some ((0 : Int32), M))))
  else (
    if x1 = (105 : Int32) then (
      d_X12_hasNoRoom_65 M)
    else (
      if x1 = (107 : Int32) then (
        d_X12_hasNoRoom_65 M)
      else (
        if x1 = (108 : Int32) then (
          d_X12_hasNoRoom_65 M)
        else (
          if x1 = (117 : Int32) then (
            d_X12_hasNoRoom_65 M)
          else (
            if x1 = (110 : Int32) then (
              d_X12_hasNoRoom_65 M)
            else (
              d_X12_hasNoRoom_70 (0 : Int32) M))))))
noncomputable def d_X12_rounded (x0 : UInt64) (M : Mem) : Option (UInt64 × Mem) :=
  some ((xrint x0), M)
noncomputable def d_X12_why_459 (x3 : Int32) (M : Mem) : Option (Int32 × Mem) :=
  if x3 = (110 : Int32) then (
    if (mI M 69 52) = (60 : Int32) then (
      some ((111 : Int32), M))
    else (
      some ((0 : Int32), M)))
  else (
    some ((0 : Int32), M))
noncomputable def d_X12_why_447 (x3 : Int32) (M : Mem) : Option (Int32 × Mem) :=
  if (mI M 69 48) = (11 : Int32) then (
    some ((100 : Int32), M))
  else (
    d_X12_why_459 x3 M)
noncomputable def d_X12_why_435 (x3 : Int32) (M : Mem) : Option (Int32 × Mem) :=
  if x3 = (99 : Int32) then (
    d_X12_why_447 x3 M)
  else (
    if x3 = (109 : Int32) then (
      d_X12_why_447 x3 M)
    else (
      d_X12_why_459 x3 M))
noncomputable def d_X12_why_399 (x3 : Int32) (x4 : Int32) (x5 : Int32) (M : Mem) : Option (Int32 × Mem) :=
  if x3 = (109 : Int32) then (
    okk (vp_in x5 168) <|
    okk (vp_in (mI M 106 x5.toNatClampNeg) 60) <|
    okk (vp_in (mI M 112 (mI M 106 x5.toNatClampNeg).toNatClampNeg) 60) <|
    (d_X12_methodOf (mI M 79 (mI M 112 (mI M 106 x5.toNatClampNeg).toNatClampNeg).toNatClampNeg) x4 M).bind fun y1 =>
    if y1.1 = (-1 : Int32) then (
      some ((109 : Int32), y1.2))
    else (
      d_X12_why_435 x3 y1.2))
  else (
    d_X12_why_435 x3 M)
noncomputable def d_X12_why_337 (x3 : Int32) (x4 : Int32) (x5 : Int32) (M : Mem) : Option (Int32 × Mem) :=
  if x3 = (112 : Int32) then (
    okk (vp_in (x5 - (1 : Int32)) 168) <|
    okk (vp_in (mI M 106 (x5 - (1 : Int32)).toNatClampNeg) 60) <|
    bnd ((mI M 112 (mI M 106 (x5 - (1 : Int32)).toNatClampNeg).toNatClampNeg)) fun b1 =>
    (d_X12_hasField b1 x4 M).bind fun y1 =>
    if y1.1 = 0 then (
      okk (vp_in (((6 : Int32) * b1) + x4) 360) <|
      if (mI y1.2 82 (((6 : Int32) * b1) + x4).toNatClampNeg) = (-1 : Int32) then (
        if (mI y1.2 69 12) = (60 : Int32) then (
          some ((102 : Int32), y1.2))
        else (
          d_X12_why_399 x3 x4 x5 y1.2))
      else (
        d_X12_why_399 x3 x4 x5 y1.2))
    else (
      d_X12_why_399 x3 x4 x5 y1.2))
  else (
    d_X12_why_399 x3 x4 x5 M)
noncomputable def d_X12_why_307 (x3 : Int32) (x4 : Int32) (x5 : Int32) (M : Mem) : Option (Int32 × Mem) :=
  if x3 = (103 : Int32) then (
    okk (vp_in x5 168) <|
    okk (vp_in (mI M 106 x5.toNatClampNeg) 60) <|
    (d_X12_hasField (mI M 112 (mI M 106 x5.toNatClampNeg).toNatClampNeg) x4 M).bind fun y1 =>
    if y1.1 = 0 then (
      some ((102 : Int32), y1.2))
    else (
      d_X12_why_337 x3 x4 x5 y1.2))
  else (
    d_X12_why_337 x3 x4 x5 M)
noncomputable def d_X12_why_256 (x3 : Int32) (x4 : Int32) (x5 : Int32) (M : Mem) : Option (Int32 × Mem) :=
  if x3 = (119 : Int32) then (
    okk (vp_in x5 168) <|
    if (mI M 105 x5.toNatClampNeg) = (102 : Int32) then (
      okk (vp_in x5 168) <|
      (d_X12_rounded (mD M 107 x5.toNatClampNeg) M).bind fun y1 =>
      if (Op.cmpValue (FP.dcmp y1.1 (13970166044103278592 : UInt64)) .l) < 0 then (
        some ((119 : Int32), y1.2))
      else (
        if (Op.cmpValue (FP.dcmp y1.1 (4746794007244308480 : UInt64)) .g) ≤ 0 then (
          d_X12_why_307 x3 x4 x5 y1.2)
        else (
          some ((119 : Int32), y1.2))))
    else (
      d_X12_why_307 x3 x4 x5 M))
  else (
    d_X12_why_307 x3 x4 x5 M)
noncomputable def d_X12_why_217 (x3 : Int32) (x4 : Int32) (x5 : Int32) (M : Mem) : Option (Int32 × Mem) :=
  okk (vp_in x5 168) <|
  if (mI M 105 x5.toNatClampNeg) = (105 : Int32) then (
    okk (vp_in (x5 - (1 : Int32)) 168) <|
    if (mI M 105 (x5 - (1 : Int32)).toNatClampNeg) = (105 : Int32) then (
      okk (vp_in x5 168) <|
      if (mI M 106 x5.toNatClampNeg) = 0 then (
        some ((48 : Int32), M))
      else (
        d_X12_why_256 x3 x4 x5 M))
    else (
      d_X12_why_256 x3 x4 x5 M))
  else (
    d_X12_why_256 x3 x4 x5 M)
noncomputable def d_X12_why_205 (x3 : Int32) (x4 : Int32) (x5 : Int32) (M : Mem) : Option (Int32 × Mem) :=
  if x3 = (47 : Int32) then (
    d_X12_why_217 x3 x4 x5 M)
  else (
    if x3 = (37 : Int32) then (
      d_X12_why_217 x3 x4 x5 M)
    else (
      d_X12_why_256 x3 x4 x5 M))
noncomputable def d_X12_why_182 (x3 : Int32) (x4 : Int32) (x5 : Int32) (M : Mem) : Option (Int32 × Mem) :=
  if x3 = (112 : Int32) then (
    okk (vp_in (x5 - (1 : Int32)) 168) <|
    if (mI M 105 (x5 - (1 : Int32)).toNatClampNeg) = (111 : Int32) then (
      d_X12_why_205 x3 x4 x5 M)
    else (
      some ((107 : Int32), M)))
  else (
    d_X12_why_205 x3 x4 x5 M)
noncomputable def d_X12_why_170 (x3 : Int32) (x4 : Int32) (x5 : Int32) (M : Mem) : Option (Int32 × Mem) :=
  okk (vp_in x5 168) <|
  if (mI M 105 x5.toNatClampNeg) = (111 : Int32) then (
    d_X12_why_182 x3 x4 x5 M)
  else (
    some ((107 : Int32), M))
noncomputable def d_X12_why_158 (x3 : Int32) (x4 : Int32) (x5 : Int32) (M : Mem) : Option (Int32 × Mem) :=
  if x3 = (103 : Int32) then (
    d_X12_why_170 x3 x4 x5 M)
  else (
    if x3 = (109 : Int32) then (
      d_X12_why_170 x3 x4 x5 M)
    else (
      d_X12_why_182 x3 x4 x5 M))
noncomputable def d_X12_why_139 (x3 : Int32) (x4 : Int32) (x5 : Int32) (M : Mem) : Option (Int32 × Mem) :=
  if x3 = (119 : Int32) then (
    okk (vp_in x5 168) <|
    (d_X12_isNumber (mI M 105 x5.toNatClampNeg) M).bind fun y1 =>
    if y1.1 = 0 then (
      some ((107 : Int32), y1.2))
    else (
      d_X12_why_158 x3 x4 x5 y1.2))
  else (
    d_X12_why_158 x3 x4 x5 M)
noncomputable def d_X12_why (M : Mem) : Option (Int32 × Mem) :=
  okk (vp_in (mI M 69 48) 12) <|
  bnd ((mI M 109 (mI M 69 48).toNatClampNeg)) fun b1 =>
  okk (vp_in (mI M 69 48) 12) <|
  bnd ((mI M 110 (mI M 69 48).toNatClampNeg)) fun b2 =>
  okk (vp_in b1 8) <|
  if b2 < (mI M 71 b1.toNatClampNeg) then (
    okk (vp_in (((40 : Int32) * b1) + b2) 320) <|
    bnd ((mI M 72 (((40 : Int32) * b1) + b2).toNatClampNeg)) fun b3 =>
    okk (vp_in (((40 : Int32) * b1) + b2) 320) <|
    bnd ((mI M 73 (((40 : Int32) * b1) + b2).toNatClampNeg)) fun b4 =>
    okk (vp_in (mI M 69 48) 12) <|
    (d_X12_takes b3 b4 M).bind fun y1 =>
    if (mI M 111 (mI M 69 48).toNatClampNeg) < y1.1 then (
      some ((115 : Int32), y1.2))
    else (
      (d_X12_hasNoRoom b3 y1.2).bind fun y2 =>
      if y2.1 = 0 then (
        (d_X12_top (0 : Int32) y2.2).bind fun y3 =>
        (d_X12_isPair b3 y3.2).bind fun y4 =>
        if y4.1 = 0 then (
          d_X12_why_139 b3 b4 y3.1 y4.2)
        else (
          if b3 = (61 : Int32) then (
            d_X12_why_139 b3 b4 y3.1 y4.2)
          else (
            okk (vp_in y3.1 168) <|
            (d_X12_isNumber (mI y4.2 105 y3.1.toNatClampNeg) y4.2).bind fun y5 =>
            if y5.1 = 0 then (
              some ((107 : Int32), y5.2))
            else (
              okk (vp_in (y3.1 - (1 : Int32)) 168) <|
              (d_X12_isNumber (mI y5.2 105 (y3.1 - (1 : Int32)).toNatClampNeg) y5.2).bind fun y6 =>
              if y6.1 = 0 then (
                some ((107 : Int32), y6.2))
              else (
                d_X12_why_139 b3 b4 y3.1 y6.2)))))
      else (
        some ((115 : Int32), y2.2))))
  else (
    some ((101 : Int32), M))
noncomputable def d_X12_calls_166 (k79 : (Int32) → Mem → Option (Unit × Mem)) (x2 : Int32) (x3 : Int32) (x4 : Int32) (M : Mem) : Option (Unit × Mem) :=
  bnd ((x4 + (1 : Int32))) fun b1 =>
  k79 (b1) M
noncomputable def d_X12_calls_165 (k79 : (Int32) → Mem → Option (Unit × Mem)) (x2 : Int32) (x3 : Int32) (x4 : Int32) (s1 : Int32) (s2 : Int32) (M : Mem) : Option (Unit × Mem) :=
  okk (vp_in s1 168) <|
  bnd (sI M 108 s1.toNatClampNeg s2) fun M1 =>
  d_X12_calls_166 k79 x2 x3 x4 M1
noncomputable def d_X12_calls_79b (k79 : (Int32) → Mem → Option (Unit × Mem)) (x2 : Int32) (x3 : Int32) (x4 : Int32) (M : Mem) : Option (Unit × Mem) :=
  if (6 : Int32) ≤ x4 then (
    some ((), M))
  else (
    bnd ((((14 : Int32) * (mI M 69 48)) + x4)) fun b1 =>
    if x2 ≤ x4 then (
      okk (vp_in b1 168) <|
      bnd (sI M 105 b1.toNatClampNeg (110 : Int32)) fun M1 =>
      okk (vp_in b1 168) <|
      bnd (sI M1 106 b1.toNatClampNeg (0 : Int32)) fun M2 =>
      okk (vp_in b1 168) <|
      bnd (sD M2 107 b1.toNatClampNeg FP.dconst0) fun M3 =>
      if (mI M3 69 71) = 0 then (
        d_X12_calls_165 k79 x2 x3 x4 b1 (0 : Int32) M3)
      else (
        (d_X12_valueOf (110 : Int32) M3).bind fun y1 =>
        d_X12_calls_165 k79 x2 x3 x4 b1 y1.1 y1.2))
    else (
      (d_X12_copies (x3 + x4) b1 M).bind fun y2 =>
      d_X12_calls_166 k79 x2 x3 x4 y2.2))
noncomputable def d_X12_calls_79 (x2 : Int32) (x3 : Int32) : Nat → (Int32) → Mem → Option (Unit × Mem) := lp fun k a M => d_X12_calls_79b k x2 x3 a M
noncomputable def d_X12_calls (x1 : Int32) (x2 : Int32) (M : Mem) : Option (Unit × Mem) :=
  (d_X12_top (0 : Int32) M).bind fun y1 =>
  bnd (((y1.1 - x2) + (1 : Int32))) fun b1 =>
  okk (vp_in (mI y1.2 69 48) 12) <|
  okk (vp_in (mI y1.2 69 48) 12) <|
  bnd (sI y1.2 111 (mI y1.2 69 48).toNatClampNeg ((mI y1.2 111 (mI y1.2 69 48).toNatClampNeg) - x2)) fun M1 =>
  okk (vp_in (mI M1 69 48) 12) <|
  okk (vp_in (mI M1 69 48) 12) <|
  bnd (sI M1 110 (mI M1 69 48).toNatClampNeg ((mI M1 110 (mI M1 69 48).toNatClampNeg) + (1 : Int32))) fun M2 =>
  bnd (sI M2 69 48 ((mI M2 69 48) + (1 : Int32))) fun M3 =>
  okk (vp_in (mI M3 69 48) 12) <|
  bnd (sI M3 109 (mI M3 69 48).toNatClampNeg x1) fun M4 =>
  okk (vp_in (mI M4 69 48) 12) <|
  bnd (sI M4 110 (mI M4 69 48).toNatClampNeg (0 : Int32)) fun M5 =>
  okk (vp_in (mI M5 69 48) 12) <|
  bnd (sI M5 111 (mI M5 69 48).toNatClampNeg (0 : Int32)) fun M6 =>
  d_X12_calls_79 x2 b1 fuel ((0 : Int32)) M6
noncomputable def d_X12_puts_152 (M : Mem) : Option (Unit × Mem) :=
  okk (vp_in (mI M 69 48) 12) <|
  okk (vp_in (mI M 69 48) 12) <|
  bnd (sI M 111 (mI M 69 48).toNatClampNeg ((mI M 111 (mI M 69 48).toNatClampNeg) - (2 : Int32))) fun M1 =>
  okk (vp_in (mI M1 69 48) 12) <|
  okk (vp_in (mI M1 69 48) 12) <|
  bnd (sI M1 110 (mI M1 69 48).toNatClampNeg ((mI M1 110 (mI M1 69 48).toNatClampNeg) + (1 : Int32))) fun M2 =>
  some ((), M2)
noncomputable def d_X12_puts_116b (k116 : (Int32) → Mem → Option (Unit × Mem)) (x2 : Int32) (x6 : Int32) (x7 : Int32) (M : Mem) : Option (Unit × Mem) :=
  if (mI M 69 83) ≤ x7 then (
    okk (vp_in x2 168) <|
    okk (vp_in (mI M 108 x2.toNatClampNeg) 600) <|
    bnd (sI M 125 (mI M 108 x2.toNatClampNeg).toNatClampNeg x6) fun M1 =>
    d_X12_puts_152 M1)
  else (
    okk (vp_in x7 600) <|
    bnd (sI M 125 x7.toNatClampNeg (-1 : Int32)) fun M2 =>
    bnd ((x7 + (1 : Int32))) fun b1 =>
    k116 (b1) M2)
noncomputable def d_X12_puts_116 (x2 : Int32) (x6 : Int32) : Nat → (Int32) → Mem → Option (Unit × Mem) := lp fun k a M => d_X12_puts_116b k x2 x6 a M
noncomputable def d_X12_puts (x1 : Int32) (M : Mem) : Option (Unit × Mem) :=
  (d_X12_top (1 : Int32) M).bind fun y1 =>
  okk (vp_in y1.1 168) <|
  bnd ((mI y1.2 106 y1.1.toNatClampNeg)) fun b1 =>
  (d_X12_top (0 : Int32) y1.2).bind fun y2 =>
  okk (vp_in b1 60) <|
  bnd ((mI y2.2 112 b1.toNatClampNeg)) fun b2 =>
  (d_X12_shapeBehind b2 x1 y2.2).bind fun y3 =>
  okk (vp_in b1 60) <|
  bnd (sI y3.2 112 b1.toNatClampNeg y3.1) fun M1 =>
  okk (vp_in y2.1 168) <|
  okk (vp_in (((6 : Int32) * b1) + x1) 360) <|
  okk (isCh (mI M1 105 y2.1.toNatClampNeg)) <|
  bnd (sI M1 113 (((6 : Int32) * b1) + x1).toNatClampNeg (mI M1 105 y2.1.toNatClampNeg)) fun M2 =>
  okk (vp_in y2.1 168) <|
  okk (vp_in (((6 : Int32) * b1) + x1) 360) <|
  bnd (sI M2 114 (((6 : Int32) * b1) + x1).toNatClampNeg (mI M2 106 y2.1.toNatClampNeg)) fun M3 =>
  okk (vp_in y2.1 168) <|
  okk (vp_in (((6 : Int32) * b1) + x1) 360) <|
  bnd (sD M3 115 (((6 : Int32) * b1) + x1).toNatClampNeg (mD M3 107 y2.1.toNatClampNeg)) fun M4 =>
  if (mI M4 69 71) = 0 then (
    d_X12_puts_152 M4)
  else (
    if y3.1 = b2 then (
      d_X12_puts_152 M4)
    else (
      d_X12_puts_116 y1.1 y3.1 fuel ((0 : Int32)) M4))
noncomputable def d_X12_returns (M : Mem) : Option (Unit × Mem) :=
  (d_X12_top (0 : Int32) M).bind fun y1 =>
  if (mI y1.2 69 48) = 0 then (
    bnd (sI y1.2 69 67 (0 : Int32)) fun M3 =>
    bnd (sI M3 69 62 (118 : Int32)) fun M4 =>
    okk (vp_in y1.1 168) <|
    okk (isCh (mI M4 105 y1.1.toNatClampNeg)) <|
    bnd (sI M4 69 63 (mI M4 105 y1.1.toNatClampNeg)) fun M5 =>
    okk (vp_in y1.1 168) <|
    okk (vp_in y1.1 168) <|
    okk (vp_in y1.1 168) <|
    (d_X12_told (mI M5 105 y1.1.toNatClampNeg) (mI M5 106 y1.1.toNatClampNeg) (mD M5 107 y1.1.toNatClampNeg) M5).bind fun y4 =>
    bnd (sL y4.2 69 64 y4.1) fun M6 =>
    some ((), M6))
  else (
    bnd (sI y1.2 69 48 ((mI y1.2 69 48) - (1 : Int32))) fun M1 =>
    okk (vp_in (mI M1 69 48) 12) <|
    okk (vp_in (mI M1 69 48) 12) <|
    bnd (sI M1 111 (mI M1 69 48).toNatClampNeg ((mI M1 111 (mI M1 69 48).toNatClampNeg) + (1 : Int32))) fun M2 =>
    (d_X12_top (0 : Int32) M2).bind fun y2 =>
    (d_X12_copies y1.1 y2.1 y2.2).bind fun y3 =>
    some ((), y3.2))
noncomputable def d_X12_tells_70 (M : Mem) : Option (Unit × Mem) :=
  okk (vp_in (mI M 69 48) 12) <|
  okk (vp_in (mI M 69 48) 12) <|
  bnd (sI M 111 (mI M 69 48).toNatClampNeg ((mI M 111 (mI M 69 48).toNatClampNeg) - (1 : Int32))) fun M1 =>
  okk (vp_in (mI M1 69 48) 12) <|
  okk (vp_in (mI M1 69 48) 12) <|
  bnd (sI M1 110 (mI M1 69 48).toNatClampNeg ((mI M1 110 (mI M1 69 48).toNatClampNeg) + (1 : Int32))) fun M2 =>
  some ((), M2)
noncomputable def d_X12_tells (M : Mem) : Option (Unit × Mem) :=
  (d_X12_top (0 : Int32) M).bind fun y1 =>
  if (20 : Int32) ≤ (mI y1.2 69 59) then (
    d_X12_tells_70 y1.2)
  else (
    okk (vp_in y1.1 168) <|
    okk (vp_in (mI y1.2 69 59) 20) <|
    okk (isCh (mI y1.2 105 y1.1.toNatClampNeg)) <|
    bnd (sI y1.2 116 (mI y1.2 69 59).toNatClampNeg (mI y1.2 105 y1.1.toNatClampNeg)) fun M1 =>
    okk (vp_in y1.1 168) <|
    okk (vp_in y1.1 168) <|
    okk (vp_in y1.1 168) <|
    (d_X12_told (mI M1 105 y1.1.toNatClampNeg) (mI M1 106 y1.1.toNatClampNeg) (mD M1 107 y1.1.toNatClampNeg) M1).bind fun y2 =>
    okk (vp_in (mI M1 69 59) 20) <|
    bnd (sL y2.2 117 (mI M1 69 59).toNatClampNeg y2.1) fun M2 =>
    bnd (sI M2 69 59 ((mI M2 69 59) + (1 : Int32))) fun M3 =>
    d_X12_tells_70 M3)
noncomputable def d_X12_made_64 (x1 : Int32) (x2 : Int32) (s0 : Int32) (M : Mem) : Option (Int32 × Mem) :=
  if x1 = 0 then (
    okk (vp_in x2 600) <|
    bnd (sI M 126 x2.toNatClampNeg (0 : Int32)) fun M3 =>
    some (x2, M3))
  else (
    if s0 = 0 then (
      okk (vp_in x2 600) <|
      bnd (sI M 126 x2.toNatClampNeg (2 : Int32)) fun M1 =>
      some (x2, M1))
    else (
      okk (vp_in x2 600) <|
      bnd (sI M 126 x2.toNatClampNeg (1 : Int32)) fun M2 =>
      some (x2, M2)))
noncomputable def d_X12_made_63 (x1 : Int32) (x2 : Int32) (M : Mem) : Option (Int32 × Mem) :=
  d_X12_made_64 x1 x2 (0 : Int32) M
noncomputable def d_X12_made_59 (x1 : Int32) (x2 : Int32) (M : Mem) : Option (Int32 × Mem) :=
  d_X12_made_64 x1 x2 (1 : Int32) M
noncomputable def d_X12_made_41 (x1 : Int32) (x2 : Int32) (M : Mem) : Option (Int32 × Mem) :=
  if (mI M 69 88) = (102 : Int32) then (
    if (Op.cmpValue (FP.dcmp (mD M 69 90) FP.dconst0) .l) = 0 then (
      d_X12_made_59 x1 x2 M)
    else (
      d_X12_made_63 x1 x2 M))
  else (
    d_X12_made_63 x1 x2 M)
noncomputable def d_X12_made (x1 : Int32) (M : Mem) : Option (Int32 × Mem) :=
  if (mI M 69 71) = 0 then (
    some ((0 : Int32), M))
  else (
    (d_X12_valueOf (mI M 69 88) M).bind fun y1 =>
    okk (vp_in y1.1 600) <|
    okk (isBo x1) <|
    bnd (sI y1.2 124 y1.1.toNatClampNeg x1) fun M1 =>
    if (mI M1 69 88) = (105 : Int32) then (
      if (mI M1 69 89) = 0 then (
        d_X12_made_59 x1 y1.1 M1)
      else (
        d_X12_made_41 x1 y1.1 M1))
    else (
      d_X12_made_41 x1 y1.1 M1))
noncomputable def d_X12_reckonsOn_194 (x2 : Int32) (M : Mem) : Option (Unit × Mem) :=
  (d_X12_pushes x2 M).bind fun y1 =>
  okk (vp_in (mI y1.2 69 48) 12) <|
  okk (vp_in (mI y1.2 69 48) 12) <|
  bnd (sI y1.2 110 (mI y1.2 69 48).toNatClampNeg ((mI y1.2 110 (mI y1.2 69 48).toNatClampNeg) + (1 : Int32))) fun M1 =>
  some ((), M1)
noncomputable def d_X12_reckonsOn_171 (x3 : Int32) (s1 : Int32) (s2 : Int32) (M : Mem) : Option (Unit × Mem) :=
  (d_X12_gives s1 s2 FP.dconst0 M).bind fun y1 =>
  okk (vp_in (mI y1.2 69 48) 12) <|
  okk (vp_in (mI y1.2 69 48) 12) <|
  bnd (sI y1.2 111 (mI y1.2 69 48).toNatClampNeg ((mI y1.2 111 (mI y1.2 69 48).toNatClampNeg) - (1 : Int32))) fun M1 =>
  (d_X12_made x3 M1).bind fun y2 =>
  d_X12_reckonsOn_194 y2.1 y2.2
noncomputable def d_X12_reckonsOn_125 (s0 : Int32) (M : Mem) : Option (Unit × Mem) :=
  (d_X12_top (0 : Int32) M).bind fun y1 =>
  okk (vp_in y1.1 168) <|
  if (mI y1.2 105 y1.1.toNatClampNeg) = (105 : Int32) then (
    (d_X12_top (0 : Int32) y1.2).bind fun y4 =>
    okk (vp_in y4.1 168) <|
    d_X12_reckonsOn_171 s0 (105 : Int32) (mI y4.2 106 y4.1.toNatClampNeg) y4.2)
  else (
    (d_X12_top (0 : Int32) y1.2).bind fun y2 =>
    okk (vp_in y2.1 168) <|
    (d_X12_rounded (mD y2.2 107 y2.1.toNatClampNeg) y2.2).bind fun y3 =>
    d_X12_reckonsOn_171 s0 (105 : Int32) (FP.d2i y3.1) y3.2)
noncomputable def d_X12_reckonsOn_124 (M : Mem) : Option (Unit × Mem) :=
  d_X12_reckonsOn_125 (0 : Int32) M
noncomputable def d_X12_reckonsOn_57 (x1 : Int32) (s0 : Int32) (M : Mem) : Option (Unit × Mem) :=
  (d_X12_top (1 : Int32) M).bind fun y1 =>
  (d_X12_top (0 : Int32) y1.2).bind fun y2 =>
  (d_X12_reckons x1 y1.1 y2.1 y2.2).bind fun y3 =>
  okk (vp_in (mI y3.2 69 48) 12) <|
  okk (vp_in (mI y3.2 69 48) 12) <|
  bnd (sI y3.2 111 (mI y3.2 69 48).toNatClampNeg ((mI y3.2 111 (mI y3.2 69 48).toNatClampNeg) - (2 : Int32))) fun M1 =>
  (d_X12_made s0 M1).bind fun y4 =>
  d_X12_reckonsOn_194 y4.1 y4.2
noncomputable def d_X12_reckonsOn_56 (x1 : Int32) (M : Mem) : Option (Unit × Mem) :=
  d_X12_reckonsOn_57 x1 (0 : Int32) M
noncomputable def d_X12_reckonsOn (x1 : Int32) (M : Mem) : Option (Unit × Mem) :=
  (d_X12_isPair x1 M).bind fun y1 =>
  if y1.1 = 0 then (
    if (mI y1.2 69 71) = 0 then (
      d_X12_reckonsOn_124 y1.2)
    else (
      (d_X12_top (0 : Int32) y1.2).bind fun y2 =>
      okk (vp_in y2.1 168) <|
      okk (vp_in (mI y2.2 108 y2.1.toNatClampNeg) 600) <|
      if (mI y2.2 124 (mI y2.2 108 y2.1.toNatClampNeg).toNatClampNeg) = 0 then (
        d_X12_reckonsOn_124 y2.2)
      else (
        d_X12_reckonsOn_125 (1 : Int32) y2.2)))
  else (
    if (mI y1.2 69 71) = 0 then (
      d_X12_reckonsOn_56 x1 y1.2)
    else (
      (d_X12_top (1 : Int32) y1.2).bind fun y3 =>
      okk (vp_in y3.1 168) <|
      okk (vp_in (mI y3.2 108 y3.1.toNatClampNeg) 600) <|
      if (mI y3.2 124 (mI y3.2 108 y3.1.toNatClampNeg).toNatClampNeg) = 0 then (
        d_X12_reckonsOn_56 x1 y3.2)
      else (
        (d_X12_top (0 : Int32) y3.2).bind fun y4 =>
        okk (vp_in y4.1 168) <|
        okk (vp_in (mI y4.2 108 y4.1.toNatClampNeg) 600) <|
        if (mI y4.2 124 (mI y4.2 108 y4.1.toNatClampNeg).toNatClampNeg) = 0 then (
          d_X12_reckonsOn_56 x1 y4.2)
        else (
          d_X12_reckonsOn_57 x1 (1 : Int32) y4.2))))
noncomputable def d_X12_makes_61 (x3 : Int32) (M : Mem) : Option (Unit × Mem) :=
  (d_X12_pushes x3 M).bind fun y1 =>
  okk (vp_in (mI y1.2 69 48) 12) <|
  okk (vp_in (mI y1.2 69 48) 12) <|
  bnd (sI y1.2 110 (mI y1.2 69 48).toNatClampNeg ((mI y1.2 110 (mI y1.2 69 48).toNatClampNeg) + (1 : Int32))) fun M1 =>
  some ((), M1)
noncomputable def d_X12_makes (x1 : Int32) (M : Mem) : Option (Unit × Mem) :=
  okk (vp_in x1 5) <|
  bnd ((mI M 78 x1.toNatClampNeg)) fun b1 =>
  okk (vp_in (mI M 69 52) 60) <|
  bnd (sI M 112 (mI M 69 52).toNatClampNeg b1) fun M1 =>
  (d_X12_gives (111 : Int32) (mI M1 69 52) FP.dconst0 M1).bind fun y1 =>
  bnd (sI y1.2 69 52 ((mI y1.2 69 52) + (1 : Int32))) fun M2 =>
  if (mI M2 69 71) = 0 then (
    d_X12_makes_61 (0 : Int32) M2)
  else (
    (d_X12_valueOf (111 : Int32) M2).bind fun y2 =>
    okk (vp_in y2.1 600) <|
    bnd (sI y2.2 125 y2.1.toNatClampNeg b1) fun M3 =>
    d_X12_makes_61 y2.1 M3)
noncomputable def d_X12_fetches_77 (s1 : Int32) (M : Mem) : Option (Unit × Mem) :=
  (d_X12_pushes s1 M).bind fun y1 =>
  okk (vp_in (mI y1.2 69 48) 12) <|
  okk (vp_in (mI y1.2 69 48) 12) <|
  bnd (sI y1.2 110 (mI y1.2 69 48).toNatClampNeg ((mI y1.2 110 (mI y1.2 69 48).toNatClampNeg) + (1 : Int32))) fun M1 =>
  some ((), M1)
noncomputable def d_X12_fetches (x1 : Int32) (M : Mem) : Option (Unit × Mem) :=
  (d_X12_top (0 : Int32) M).bind fun y1 =>
  okk (vp_in y1.1 168) <|
  bnd ((mI y1.2 106 y1.1.toNatClampNeg)) fun b1 =>
  okk (vp_in (((6 : Int32) * b1) + x1) 360) <|
  okk (vp_in (((6 : Int32) * b1) + x1) 360) <|
  okk (vp_in (((6 : Int32) * b1) + x1) 360) <|
  (d_X12_gives (mI y1.2 113 (((6 : Int32) * b1) + x1).toNatClampNeg) (mI y1.2 114 (((6 : Int32) * b1) + x1).toNatClampNeg) (mD y1.2 115 (((6 : Int32) * b1) + x1).toNatClampNeg) y1.2).bind fun y2 =>
  okk (vp_in (mI y2.2 69 48) 12) <|
  okk (vp_in (mI y2.2 69 48) 12) <|
  bnd (sI y2.2 111 (mI y2.2 69 48).toNatClampNeg ((mI y2.2 111 (mI y2.2 69 48).toNatClampNeg) - (1 : Int32))) fun M1 =>
  if (mI M1 69 71) = 0 then (
    d_X12_fetches_77 (0 : Int32) M1)
  else (
    (d_X12_newValue M1).bind fun y3 =>
    d_X12_fetches_77 y3.1 y3.2)
noncomputable def d_X12_executes_78 (s1 : Int32) (s2 : Int32) (M : Mem) : Option (Unit × Mem) :=
  (d_X12_gives s1 s2 FP.dconst0 M).bind fun y1 =>
  (d_X12_made (1 : Int32) y1.2).bind fun y2 =>
  (d_X12_pushes y2.1 y2.2).bind fun y3 =>
  okk (vp_in (mI y3.2 69 48) 12) <|
  okk (vp_in (mI y3.2 69 48) 12) <|
  bnd (sI y3.2 110 (mI y3.2 69 48).toNatClampNeg ((mI y3.2 110 (mI y3.2 69 48).toNatClampNeg) + (1 : Int32))) fun M1 =>
  some ((), M1)
noncomputable def d_X12_executes_59 (x2 : Int32) (x3 : Int32) (M : Mem) : Option (Unit × Mem) :=
  if x2 = (105 : Int32) then (
    d_X12_executes_78 (105 : Int32) x3 M)
  else (
    okk (vp_in x3 8) <|
    d_X12_executes_78 (105 : Int32) (mI M 75 x3.toNatClampNeg) M)
noncomputable def d_X12_executes_310 (x2 : Int32) (M : Mem) : Option (Unit × Mem) :=
  (d_X12_reckonsOn x2 M).bind fun y1 =>
  some ((), y1.2)
noncomputable def d_X12_executes (M : Mem) : Option (Unit × Mem) :=
  okk (vp_in (mI M 69 48) 12) <|
  okk (vp_in (mI M 69 48) 12) <|
  bnd ((((40 : Int32) * (mI M 109 (mI M 69 48).toNatClampNeg)) + (mI M 110 (mI M 69 48).toNatClampNeg))) fun b1 =>
  okk (vp_in b1 320) <|
  bnd ((mI M 72 b1.toNatClampNeg)) fun b2 =>
  okk (vp_in b1 320) <|
  bnd ((mI M 73 b1.toNatClampNeg)) fun b3 =>
  bnd (sI M 69 57 ((mI M 69 57) + (1 : Int32))) fun M1 =>
  if b2 = (105 : Int32) then (
    d_X12_executes_59 b2 b3 M1)
  else (
    if b2 = (107 : Int32) then (
      d_X12_executes_59 b2 b3 M1)
    else (
      if b2 = (108 : Int32) then (
        okk (vp_in (mI M1 69 48) 12) <|
        okk (vp_in (mI M1 69 48) 12) <|
        bnd (sI M1 111 (mI M1 69 48).toNatClampNeg ((mI M1 111 (mI M1 69 48).toNatClampNeg) + (1 : Int32))) fun M12 =>
        (d_X12_top (0 : Int32) M12).bind fun y18 =>
        (d_X12_copies (((14 : Int32) * (mI M12 69 48)) + b3) y18.1 y18.2).bind fun y19 =>
        okk (vp_in (mI y19.2 69 48) 12) <|
        okk (vp_in (mI y19.2 69 48) 12) <|
        bnd (sI y19.2 110 (mI y19.2 69 48).toNatClampNeg ((mI y19.2 110 (mI y19.2 69 48).toNatClampNeg) + (1 : Int32))) fun M13 =>
        some ((), M13))
      else (
        if b2 = (115 : Int32) then (
          (d_X12_top (0 : Int32) M1).bind fun y16 =>
          (d_X12_copies y16.1 (((14 : Int32) * (mI y16.2 69 48)) + b3) y16.2).bind fun y17 =>
          okk (vp_in (mI y17.2 69 48) 12) <|
          okk (vp_in (mI y17.2 69 48) 12) <|
          bnd (sI y17.2 111 (mI y17.2 69 48).toNatClampNeg ((mI y17.2 111 (mI y17.2 69 48).toNatClampNeg) - (1 : Int32))) fun M10 =>
          okk (vp_in (mI M10 69 48) 12) <|
          okk (vp_in (mI M10 69 48) 12) <|
          bnd (sI M10 110 (mI M10 69 48).toNatClampNeg ((mI M10 110 (mI M10 69 48).toNatClampNeg) + (1 : Int32))) fun M11 =>
          some ((), M11))
        else (
          if b2 = (117 : Int32) then (
            okk (vp_in (mI M1 69 48) 12) <|
            okk (vp_in (mI M1 69 48) 12) <|
            bnd (sI M1 111 (mI M1 69 48).toNatClampNeg ((mI M1 111 (mI M1 69 48).toNatClampNeg) + (1 : Int32))) fun M8 =>
            (d_X12_top (1 : Int32) M8).bind fun y13 =>
            (d_X12_top (0 : Int32) y13.2).bind fun y14 =>
            (d_X12_copies y13.1 y14.1 y14.2).bind fun y15 =>
            okk (vp_in (mI y15.2 69 48) 12) <|
            okk (vp_in (mI y15.2 69 48) 12) <|
            bnd (sI y15.2 110 (mI y15.2 69 48).toNatClampNeg ((mI y15.2 110 (mI y15.2 69 48).toNatClampNeg) + (1 : Int32))) fun M9 =>
            some ((), M9))
          else (
            if b2 = (100 : Int32) then (
              okk (vp_in (mI M1 69 48) 12) <|
              okk (vp_in (mI M1 69 48) 12) <|
              bnd (sI M1 111 (mI M1 69 48).toNatClampNeg ((mI M1 111 (mI M1 69 48).toNatClampNeg) - (1 : Int32))) fun M6 =>
              okk (vp_in (mI M6 69 48) 12) <|
              okk (vp_in (mI M6 69 48) 12) <|
              bnd (sI M6 110 (mI M6 69 48).toNatClampNeg ((mI M6 110 (mI M6 69 48).toNatClampNeg) + (1 : Int32))) fun M7 =>
              some ((), M7))
            else (
              (d_X12_isPair b2 M1).bind fun y1 =>
              if y1.1 = 0 then (
                if b2 = (119 : Int32) then (
                  d_X12_executes_310 b2 y1.2)
                else (
                  if b2 = (106 : Int32) then (
                    okk (vp_in (mI y1.2 69 48) 12) <|
                    bnd (sI y1.2 110 (mI y1.2 69 48).toNatClampNeg b3) fun M5 =>
                    some ((), M5))
                  else (
                    if b2 = (122 : Int32) then (
                      (d_X12_top (0 : Int32) y1.2).bind fun y11 =>
                      (d_X12_isNull y11.1 y11.2).bind fun y12 =>
                      okk (vp_in (mI y12.2 69 48) 12) <|
                      okk (vp_in (mI y12.2 69 48) 12) <|
                      bnd (sI y12.2 111 (mI y12.2 69 48).toNatClampNeg ((mI y12.2 111 (mI y12.2 69 48).toNatClampNeg) - (1 : Int32))) fun M2 =>
                      if y12.1 = 0 then (
                        okk (vp_in (mI M2 69 48) 12) <|
                        okk (vp_in (mI M2 69 48) 12) <|
                        bnd (sI M2 110 (mI M2 69 48).toNatClampNeg ((mI M2 110 (mI M2 69 48).toNatClampNeg) + (1 : Int32))) fun M3 =>
                        some ((), M3))
                      else (
                        okk (vp_in (mI M2 69 48) 12) <|
                        bnd (sI M2 110 (mI M2 69 48).toNatClampNeg b3) fun M4 =>
                        some ((), M4)))
                    else (
                      if b2 = (110 : Int32) then (
                        (d_X12_makes b3 y1.2).bind fun y10 =>
                        some ((), y10.2))
                      else (
                        if b2 = (103 : Int32) then (
                          (d_X12_fetches b3 y1.2).bind fun y9 =>
                          some ((), y9.2))
                        else (
                          if b2 = (112 : Int32) then (
                            (d_X12_puts b3 y1.2).bind fun y8 =>
                            some ((), y8.2))
                          else (
                            if b2 = (99 : Int32) then (
                              okk (vp_in b3 8) <|
                              (d_X12_calls b3 (mI y1.2 70 b3.toNatClampNeg) y1.2).bind fun y7 =>
                              some ((), y7.2))
                            else (
                              if b2 = (109 : Int32) then (
                                (d_X12_top (0 : Int32) y1.2).bind fun y4 =>
                                okk (vp_in y4.1 168) <|
                                okk (vp_in (mI y4.2 106 y4.1.toNatClampNeg) 60) <|
                                okk (vp_in (mI y4.2 112 (mI y4.2 106 y4.1.toNatClampNeg).toNatClampNeg) 60) <|
                                (d_X12_methodOf (mI y4.2 79 (mI y4.2 112 (mI y4.2 106 y4.1.toNatClampNeg).toNatClampNeg).toNatClampNeg) b3 y4.2).bind fun y5 =>
                                (d_X12_calls y5.1 (1 : Int32) y5.2).bind fun y6 =>
                                some ((), y6.2))
                              else (
                                if b2 = (114 : Int32) then (
                                  (d_X12_returns y1.2).bind fun y3 =>
                                  some ((), y3.2))
                                else (
                                  (d_X12_tells y1.2).bind fun y2 =>
                                  some ((), y2.2)))))))))))
              else (
                d_X12_executes_310 b2 y1.2)))))))
noncomputable def d_X12_endsBy (x1 : Int32) (M : Mem) : Option (Unit × Mem) :=
  (d_X12_breaksOff M).bind fun y1 =>
  bnd (sI y1.2 69 68 (-1 : Int32)) fun M1 =>
  bnd (sI M1 69 67 (0 : Int32)) fun M2 =>
  bnd (sI M2 69 62 (120 : Int32)) fun M3 =>
  okk (isCh x1) <|
  bnd (sI M3 69 65 x1) fun M4 =>
  okk (vp_in (mI M4 69 48) 12) <|
  okk (vp_in (mI M4 69 48) 12) <|
  bnd (sI M4 69 66 (((100 : Int32) * (mI M4 109 (mI M4 69 48).toNatClampNeg)) + (mI M4 110 (mI M4 69 48).toNatClampNeg))) fun M5 =>
  some ((), M5)
noncomputable def d_X12_failsBy_44 (x1 : Int32) (x2 : Int32) (M : Mem) : Option (Unit × Mem) :=
  if 0 ≤ x2 then (
    bnd (sI M 69 48 x2) fun M1 =>
    okk (vp_in x2 12) <|
    okk (vp_in (mI M1 109 x2.toNatClampNeg) 8) <|
    okk (vp_in x2 12) <|
    bnd (sI M1 110 x2.toNatClampNeg (mI M1 74 (mI M1 109 x2.toNatClampNeg).toNatClampNeg)) fun M2 =>
    okk (vp_in x2 12) <|
    bnd (sI M2 111 x2.toNatClampNeg (0 : Int32)) fun M3 =>
    (d_X12_gives (105 : Int32) x1 FP.dconst0 M3).bind fun y1 =>
    (d_X12_pushes (0 : Int32) y1.2).bind fun y2 =>
    some ((), y2.2))
  else (
    (d_X12_endsBy x1 M).bind fun y3 =>
    some ((), y3.2))
noncomputable def d_X12_failsBy_19b (k19 : (Int32) → Mem → Option (Unit × Mem)) (x1 : Int32) (x2 : Int32) (M : Mem) : Option (Unit × Mem) :=
  if x2 < 0 then (
    d_X12_failsBy_44 x1 x2 M)
  else (
    okk (vp_in x2 12) <|
    okk (vp_in (mI M 109 x2.toNatClampNeg) 8) <|
    if (mI M 74 (mI M 109 x2.toNatClampNeg).toNatClampNeg) = (-1 : Int32) then (
      bnd ((x2 + (-1 : Int32))) fun b1 =>
      k19 (b1) M)
    else (
      d_X12_failsBy_44 x1 x2 M))
noncomputable def d_X12_failsBy_19 (x1 : Int32) : Nat → (Int32) → Mem → Option (Unit × Mem) := lp fun k a M => d_X12_failsBy_19b k x1 a M
noncomputable def d_X12_failsBy (x1 : Int32) (M : Mem) : Option (Unit × Mem) :=
  (d_X12_breaksOff M).bind fun y1 =>
  bnd (sI y1.2 69 57 ((mI y1.2 69 57) + (1 : Int32))) fun M1 =>
  bnd ((mI M1 69 48)) fun b1 =>
  d_X12_failsBy_19 x1 fuel (b1) M1
noncomputable def d_X12_looksUp_63b (k63 : (Int32) → Mem → Option (Unit × Mem)) (x2 : Int32) (x5 : Int32) (x6 : Int32) (M : Mem) : Option (Unit × Mem) :=
  okk (vp_in x2 320) <|
  if (mI M 83 x2.toNatClampNeg) ≤ x6 then (
    okk (vp_in x2 320) <|
    okk (vp_in x2 320) <|
    bnd (sI M 86 x2.toNatClampNeg ((mI M 86 x2.toNatClampNeg) + (1 : Int32))) fun M1 =>
    okk (vp_in x2 320) <|
    if (mI M1 83 x2.toNatClampNeg) = (3 : Int32) then (
      okk (vp_in x2 320) <|
      bnd (sI M1 83 x2.toNatClampNeg (-1 : Int32)) fun M4 =>
      some ((), M4))
    else (
      okk (vp_in x2 320) <|
      okk (vp_in (((3 : Int32) * x2) + (mI M1 83 x2.toNatClampNeg)) 960) <|
      bnd (sI M1 84 (((3 : Int32) * x2) + (mI M1 83 x2.toNatClampNeg)).toNatClampNeg x5) fun M2 =>
      okk (vp_in x2 320) <|
      okk (vp_in x2 320) <|
      bnd (sI M2 83 x2.toNatClampNeg ((mI M2 83 x2.toNatClampNeg) + (1 : Int32))) fun M3 =>
      some ((), M3)))
  else (
    okk (vp_in (((3 : Int32) * x2) + x6) 960) <|
    if (mI M 84 (((3 : Int32) * x2) + x6).toNatClampNeg) = x5 then (
      okk (vp_in x2 320) <|
      okk (vp_in x2 320) <|
      bnd (sI M 85 x2.toNatClampNeg ((mI M 85 x2.toNatClampNeg) + (1 : Int32))) fun M5 =>
      some ((), M5))
    else (
      bnd ((x6 + (1 : Int32))) fun b1 =>
      k63 (b1) M))
noncomputable def d_X12_looksUp_63 (x2 : Int32) (x5 : Int32) : Nat → (Int32) → Mem → Option (Unit × Mem) := lp fun k a M => d_X12_looksUp_63b k x2 x5 a M
noncomputable def d_X12_looksUp_47 (x2 : Int32) (s0 : Int32) (M : Mem) : Option (Unit × Mem) :=
  okk (vp_in x2 320) <|
  if (mI M 83 x2.toNatClampNeg) = (-1 : Int32) then (
    some ((), M))
  else (
    d_X12_looksUp_63 x2 s0 fuel ((0 : Int32)) M)
noncomputable def d_X12_looksUp_11 (x1 : Int32) (x2 : Int32) (s0 : Int32) (M : Mem) : Option (Unit × Mem) :=
  (d_X12_top s0 M).bind fun y1 =>
  okk (vp_in y1.1 168) <|
  okk (vp_in (mI y1.2 106 y1.1.toNatClampNeg) 60) <|
  bnd ((mI y1.2 112 (mI y1.2 106 y1.1.toNatClampNeg).toNatClampNeg)) fun b1 =>
  if x1 = (109 : Int32) then (
    okk (vp_in b1 60) <|
    d_X12_looksUp_47 x2 (mI y1.2 79 b1.toNatClampNeg) y1.2)
  else (
    d_X12_looksUp_47 x2 b1 y1.2)
noncomputable def d_X12_looksUp (x1 : Int32) (x2 : Int32) (M : Mem) : Option (Unit × Mem) :=
  if x1 = (112 : Int32) then (
    d_X12_looksUp_11 x1 x2 (1 : Int32) M)
  else (
    d_X12_looksUp_11 x1 x2 (0 : Int32) M)
noncomputable def d_X12_jumpsBack_31 (x1 : Int32) (M : Mem) : Option (Unit × Mem) :=
  (d_X12_breaksOff M).bind fun y1 =>
  (d_X12_rootAt x1 y1.2).bind fun y2 =>
  if y2.1 = (-1 : Int32) then (
    okk (vp_in x1 320) <|
    okk (vp_in x1 320) <|
    bnd (sI y2.2 87 x1.toNatClampNeg ((mI y2.2 87 x1.toNatClampNeg) + (1 : Int32))) fun M1 =>
    okk (vp_in x1 320) <|
    if (mI M1 87 x1.toNatClampNeg) < (mI M1 69 23) then (
      some ((), M1))
    else (
      okk (vp_in x1 320) <|
      if (2 : Int32) ≤ (mI M1 88 x1.toNatClampNeg) then (
        some ((), M1))
      else (
        (d_X12_records (-1 : Int32) (-1 : Int32) x1 (mI M1 69 48) M1).bind fun y3 =>
        some ((), y3.2))))
  else (
    (d_X12_enters y2.1 y2.2).bind fun y4 =>
    some ((), y4.2))
noncomputable def d_X12_jumpsBack (x1 : Int32) (M : Mem) : Option (Unit × Mem) :=
  if (mI M 69 71) = 0 then (
    d_X12_jumpsBack_31 x1 M)
  else (
    if x1 = (mI M 69 74) then (
      if (mI M 69 48) = (mI M 69 75) then (
        (d_X12_ends M).bind fun y1 =>
        some ((), y1.2))
      else (
        d_X12_jumpsBack_31 x1 M))
    else (
      d_X12_jumpsBack_31 x1 M))
noncomputable def d_X12_plainly_215 (x2 : Int32) (x3 : Int32) (x5 : Int32) (M : Mem) : Option (Unit × Mem) :=
  (d_X12_executes M).bind fun y1 =>
  if x5 = 0 then (
    some ((), y1.2))
  else (
    okk (vp_in x3 320) <|
    (d_X12_jumpsBack (((40 : Int32) * x2) + (mI y1.2 73 x3.toNatClampNeg)) y1.2).bind fun y2 =>
    some ((), y2.2))
noncomputable def d_X12_plainly_208 (x2 : Int32) (x3 : Int32) (x4 : Int32) (x5 : Int32) (M : Mem) : Option (Unit × Mem) :=
  (d_X12_looksUp x4 x3 M).bind fun y1 =>
  d_X12_plainly_215 x2 x3 x5 y1.2
noncomputable def d_X12_plainly_187 (x2 : Int32) (x3 : Int32) (x4 : Int32) (x5 : Int32) (M : Mem) : Option (Unit × Mem) :=
  if x4 = (103 : Int32) then (
    d_X12_plainly_208 x2 x3 x4 x5 M)
  else (
    if x4 = (112 : Int32) then (
      d_X12_plainly_208 x2 x3 x4 x5 M)
    else (
      if x4 = (109 : Int32) then (
        d_X12_plainly_208 x2 x3 x4 x5 M)
      else (
        d_X12_plainly_215 x2 x3 x5 M)))
noncomputable def d_X12_plainly_141 (x2 : Int32) (x3 : Int32) (x4 : Int32) (x5 : Int32) (M : Mem) : Option (Unit × Mem) :=
  if (mI M 69 71) = 0 then (
    d_X12_plainly_187 x2 x3 x4 x5 M)
  else (
    (d_X12_guards x4 M).bind fun y1 =>
    okk (vp_in (mI y1.2 69 48) 12) <|
    okk (vp_in (mI y1.2 69 76) 30) <|
    bnd (sI y1.2 118 (mI y1.2 69 76).toNatClampNeg (((100 : Int32) * x2) + (mI y1.2 110 (mI y1.2 69 48).toNatClampNeg))) fun M1 =>
    bnd (sI M1 69 76 ((mI M1 69 76) + (1 : Int32))) fun M2 =>
    d_X12_plainly_187 x2 x3 x4 x5 M2)
noncomputable def d_X12_plainly_117 (x2 : Int32) (x3 : Int32) (x4 : Int32) (s0 : Int32) (M : Mem) : Option (Unit × Mem) :=
  if x4 = (114 : Int32) then (
    if (mI M 69 48) = (mI M 69 75) then (
      (d_X12_breaksOff M).bind fun y1 =>
      d_X12_plainly_141 x2 x3 x4 s0 y1.2)
    else (
      d_X12_plainly_141 x2 x3 x4 s0 M))
  else (
    d_X12_plainly_141 x2 x3 x4 s0 M)
noncomputable def d_X12_plainly_116 (x2 : Int32) (x3 : Int32) (x4 : Int32) (M : Mem) : Option (Unit × Mem) :=
  d_X12_plainly_117 x2 x3 x4 (0 : Int32) M
noncomputable def d_X12_plainly_94 (x2 : Int32) (x3 : Int32) (x4 : Int32) (M : Mem) : Option (Unit × Mem) :=
  okk (vp_in x3 320) <|
  okk (vp_in (mI M 69 48) 12) <|
  if (mI M 110 (mI M 69 48).toNatClampNeg) < (mI M 73 x3.toNatClampNeg) then (
    d_X12_plainly_116 x2 x3 x4 M)
  else (
    d_X12_plainly_117 x2 x3 x4 (1 : Int32) M)
noncomputable def d_X12_plainly_20 (M : Mem) : Option (Unit × Mem) :=
  (d_X12_why M).bind fun y1 =>
  if y1.1 = 0 then (
    okk (vp_in (mI y1.2 69 48) 12) <|
    bnd ((mI y1.2 109 (mI y1.2 69 48).toNatClampNeg)) fun b1 =>
    okk (vp_in (mI y1.2 69 48) 12) <|
    bnd ((((40 : Int32) * b1) + (mI y1.2 110 (mI y1.2 69 48).toNatClampNeg))) fun b2 =>
    okk (vp_in b2 320) <|
    bnd ((mI y1.2 72 b2.toNatClampNeg)) fun b3 =>
    if b3 = (106 : Int32) then (
      d_X12_plainly_94 b1 b2 b3 y1.2)
    else (
      if b3 = (122 : Int32) then (
        (d_X12_top (0 : Int32) y1.2).bind fun y2 =>
        (d_X12_isNull y2.1 y2.2).bind fun y3 =>
        if y3.1 = 0 then (
          d_X12_plainly_116 b1 b2 b3 y3.2)
        else (
          d_X12_plainly_94 b1 b2 b3 y3.2))
      else (
        d_X12_plainly_116 b1 b2 b3 y1.2)))
  else (
    (d_X12_failsBy y1.1 y1.2).bind fun y4 =>
    some ((), y4.2))
noncomputable def d_X12_plainly (M : Mem) : Option (Unit × Mem) :=
  if (mI M 69 71) = 0 then (
    d_X12_plainly_20 M)
  else (
    if (mI M 69 76) = (30 : Int32) then (
      (d_X12_breaksOff M).bind fun y1 =>
      d_X12_plainly_20 y1.2)
    else (
      d_X12_plainly_20 M))
noncomputable def d_X12_leavesBy (x1 : Int32) (M : Mem) : Option (Unit × Mem) :=
  okk (vp_in x1 2400) <|
  okk (vp_in x1 2400) <|
  bnd (sI M 101 x1.toNatClampNeg ((mI M 101 x1.toNatClampNeg) + (1 : Int32))) fun M1 =>
  okk (vp_in x1 2400) <|
  bnd ((mI M1 104 x1.toNatClampNeg)) fun b1 =>
  if b1 = (-1 : Int32) then (
    okk (vp_in (mI M1 69 68) 20) <|
    bnd ((mI M1 93 (mI M1 69 68).toNatClampNeg)) fun b2 =>
    bnd (sI M1 69 68 (-1 : Int32)) fun M2 =>
    okk (vp_in x1 2400) <|
    okk (vp_in x1 2400) <|
    bnd (sI M2 102 x1.toNatClampNeg ((mI M2 102 x1.toNatClampNeg) + (1 : Int32))) fun M3 =>
    okk (vp_in x1 2400) <|
    if (mI M3 102 x1.toNatClampNeg) < (mI M3 69 24) then (
      some ((), M3))
    else (
      okk (vp_in x1 2400) <|
      if (2 : Int32) ≤ (mI M3 103 x1.toNatClampNeg) then (
        some ((), M3))
      else (
        okk (vp_in b2 20) <|
        (d_X12_records b2 x1 (mI M3 94 b2.toNatClampNeg) (mI M3 69 70) M3).bind fun y1 =>
        some ((), y1.2))))
  else (
    bnd (sI M1 69 68 b1) fun M4 =>
    bnd (sI M4 69 69 (0 : Int32)) fun M5 =>
    okk (vp_in b1 20) <|
    okk (vp_in b1 20) <|
    bnd (sI M5 95 b1.toNatClampNeg ((mI M5 95 b1.toNatClampNeg) + (1 : Int32))) fun M6 =>
    some ((), M6))
noncomputable def d_X12_inTrace_65 (k15 : (Int32) → Mem → Option (Unit × Mem)) (x1 : Int32) (M : Mem) : Option (Unit × Mem) :=
  bnd ((x1 + (1 : Int32))) fun b1 =>
  k15 (b1) M
noncomputable def d_X12_inTrace_15b (k15 : (Int32) → Mem → Option (Unit × Mem)) (x1 : Int32) (M : Mem) : Option (Unit × Mem) :=
  okk (vp_in (mI M 69 68) 20) <|
  if (mI M 92 (mI M 69 68).toNatClampNeg) ≤ x1 then (
    (d_X12_executes M).bind fun y1 =>
    bnd (sI y1.2 69 58 ((mI y1.2 69 58) + (1 : Int32))) fun M1 =>
    bnd (sI M1 69 69 ((mI M1 69 69) + (1 : Int32))) fun M2 =>
    okk (vp_in (mI M2 69 68) 20) <|
    if (mI M2 69 69) = (mI M2 90 (mI M2 69 68).toNatClampNeg) then (
      okk (vp_in (mI M2 69 68) 20) <|
      (d_X12_enters (mI M2 93 (mI M2 69 68).toNatClampNeg) M2).bind fun y2 =>
      some ((), y2.2))
    else (
      some ((), M2)))
  else (
    bnd ((((120 : Int32) * (mI M 69 68)) + x1)) fun b1 =>
    okk (vp_in b1 2400) <|
    if (mI M 98 b1.toNatClampNeg) = (mI M 69 69) then (
      (d_X12_holds b1 M).bind fun y3 =>
      if y3.1 = 0 then (
        (d_X12_leavesBy b1 y3.2).bind fun y4 =>
        some ((), y4.2))
      else (
        d_X12_inTrace_65 k15 x1 y3.2))
    else (
      d_X12_inTrace_65 k15 x1 M))
noncomputable def d_X12_inTrace_15 : Nat → (Int32) → Mem → Option (Unit × Mem) := lp fun k a M => d_X12_inTrace_15b k a M
noncomputable def d_X12_inTrace (M : Mem) : Option (Unit × Mem) :=
  (d_X12_why M).bind fun y1 =>
  if y1.1 = 0 then (
    d_X12_inTrace_15 fuel ((0 : Int32)) y1.2)
  else (
    bnd (sI y1.2 69 68 (-1 : Int32)) fun M1 =>
    some ((), M1))
noncomputable def d_X12_run_148b (k148 : Unit → Mem → Option (Int32 × Mem)) (M : Mem) : Option (Int32 × Mem) :=
  if (mI M 69 67) = 0 then (
    (d_X12_breaksOff M).bind fun y1 =>
    bnd (sI y1.2 69 68 (-1 : Int32)) fun M1 =>
    some ((mI M1 69 57), M1))
  else (
    if (mI M 69 57) = (1000 : Int32) then (
      (d_X12_endsBy (108 : Int32) M).bind fun y4 =>
      k148 () y4.2)
    else (
      if (mI M 69 68) = (-1 : Int32) then (
        (d_X12_plainly M).bind fun y2 =>
        k148 () y2.2)
      else (
        (d_X12_inTrace M).bind fun y3 =>
        k148 () y3.2)))
noncomputable def d_X12_run_148 : Nat → Unit → Mem → Option (Int32 × Mem) := lp fun k a M => d_X12_run_148b k M
noncomputable def d_X12_run_119 (k82 : (Int32) → Mem → Option (Int32 × Mem)) (x2 : Int32) (x3 : Int32) (s1 : Int32) (s2 : Int32) (M : Mem) : Option (Int32 × Mem) :=
  okk (vp_in s1 168) <|
  bnd (sI M 106 s1.toNatClampNeg s2) fun M1 =>
  okk (vp_in x3 168) <|
  bnd (sD M1 107 x3.toNatClampNeg FP.dconst0) fun M2 =>
  bnd ((x3 + (1 : Int32))) fun b1 =>
  k82 (b1) M2
noncomputable def d_X12_run_104 (k82 : (Int32) → Mem → Option (Int32 × Mem)) (x2 : Int32) (x3 : Int32) (s1 : Int32) (s2 : Int32) (M : Mem) : Option (Int32 × Mem) :=
  okk (vp_in s1 168) <|
  okk (isCh s2) <|
  bnd (sI M 105 s1.toNatClampNeg s2) fun M1 =>
  if x3 = 0 then (
    d_X12_run_119 k82 x2 x3 x3 x2 M1)
  else (
    d_X12_run_119 k82 x2 x3 x3 (0 : Int32) M1)
noncomputable def d_X12_run_82b (k82 : (Int32) → Mem → Option (Int32 × Mem)) (x2 : Int32) (x3 : Int32) (M : Mem) : Option (Int32 × Mem) :=
  if (6 : Int32) ≤ x3 then (
    bnd (sI M 69 67 (1 : Int32)) fun M1 =>
    bnd (sI M1 69 71 (0 : Int32)) fun M2 =>
    bnd (sI M2 69 68 (-1 : Int32)) fun M3 =>
    d_X12_run_148 fuel () M3)
  else (
    if x3 = 0 then (
      d_X12_run_104 k82 x2 x3 x3 (105 : Int32) M)
    else (
      d_X12_run_104 k82 x2 x3 x3 (110 : Int32) M))
noncomputable def d_X12_run_82 (x2 : Int32) : Nat → (Int32) → Mem → Option (Int32 × Mem) := lp fun k a M => d_X12_run_82b k x2 a M
noncomputable def d_X12_run (x1 : Int32) (x2 : Int32) (M : Mem) : Option (Int32 × Mem) :=
  bnd (sI M 69 0 (0 : Int32)) fun M1 =>
  (d_X12_isFunction x1 M1).bind fun y1 =>
  if y1.1 = 0 then (
    (d_X12_fails (1 : Int32) y1.2).bind fun y3 =>
    some (y3.1, y3.2))
  else (
    okk (vp_in x1 8) <|
    if (mI y1.2 70 x1.toNatClampNeg) = 0 then (
      (d_X12_fails (2 : Int32) y1.2).bind fun y2 =>
      some (y2.1, y2.2))
    else (
      bnd (sI y1.2 69 52 (0 : Int32)) fun M2 =>
      bnd (sI M2 69 57 (0 : Int32)) fun M3 =>
      bnd (sI M3 69 58 (0 : Int32)) fun M4 =>
      bnd (sI M4 69 59 (0 : Int32)) fun M5 =>
      bnd (sI M5 69 48 (0 : Int32)) fun M6 =>
      bnd (sI M6 109 0 x1) fun M7 =>
      bnd (sI M7 110 0 (0 : Int32)) fun M8 =>
      bnd (sI M8 111 0 (0 : Int32)) fun M9 =>
      d_X12_run_82 x2 fuel ((0 : Int32)) M9))
noncomputable def d_X12_outcome (M : Mem) : Option (Int32 × Mem) :=
  bnd (sI M 69 0 (0 : Int32)) fun M1 =>
  okk (isCh (mI M1 69 62)) <|
  some ((mI M1 69 62), M1)
noncomputable def d_X12_resultKind_15 (s1 : Int32) (M : Mem) : Option (Int32 × Mem) :=
  bnd (sI M 69 0 s1) fun M1 =>
  if (mI M1 69 0) ≤ 0 then (
    okk (isCh (mI M1 69 63)) <|
    some ((mI M1 69 63), M1))
  else (
    some ((0 : Int32), M1))
noncomputable def d_X12_resultKind (M : Mem) : Option (Int32 × Mem) :=
  if (mI M 69 62) = (118 : Int32) then (
    d_X12_resultKind_15 (0 : Int32) M)
  else (
    d_X12_resultKind_15 (1 : Int32) M)
noncomputable def d_X12_result_15 (s1 : Int32) (M : Mem) : Option (Int64 × Mem) :=
  bnd (sI M 69 0 s1) fun M1 =>
  if (mI M1 69 0) ≤ 0 then (
    some ((mL M1 69 64), M1))
  else (
    some ((0 : Int64), M1))
noncomputable def d_X12_result (M : Mem) : Option (Int64 × Mem) :=
  if (mI M 69 62) = (118 : Int32) then (
    d_X12_result_15 (0 : Int32) M)
  else (
    d_X12_result_15 (1 : Int32) M)
noncomputable def d_X12_failure_15 (s1 : Int32) (M : Mem) : Option (Int32 × Mem) :=
  bnd (sI M 69 0 s1) fun M1 =>
  if (mI M1 69 0) ≤ 0 then (
    okk (isCh (mI M1 69 65)) <|
    some ((mI M1 69 65), M1))
  else (
    some ((0 : Int32), M1))
noncomputable def d_X12_failure (M : Mem) : Option (Int32 × Mem) :=
  if (mI M 69 62) = (120 : Int32) then (
    d_X12_failure_15 (0 : Int32) M)
  else (
    d_X12_failure_15 (1 : Int32) M)
noncomputable def d_X12_line (M : Mem) : Option (Int32 × Mem) :=
  bnd (sI M 69 0 (0 : Int32)) fun M1 =>
  if (mI M1 69 62) = (120 : Int32) then (
    some ((mI M1 69 66), M1))
  else (
    (d_X12_fails (1 : Int32) M1).bind fun y1 =>
    some (y1.1, y1.2))
noncomputable def d_X12_told_ (M : Mem) : Option (Int32 × Mem) :=
  bnd (sI M 69 0 (0 : Int32)) fun M1 =>
  some ((mI M1 69 59), M1)
noncomputable def d_X12_toldKind_20 (x1 : Int32) (s1 : Int32) (M : Mem) : Option (Int32 × Mem) :=
  bnd (sI M 69 0 s1) fun M1 =>
  if (mI M1 69 0) ≤ 0 then (
    okk (vp_in x1 20) <|
    okk (isCh (mI M1 116 x1.toNatClampNeg)) <|
    some ((mI M1 116 x1.toNatClampNeg), M1))
  else (
    some ((0 : Int32), M1))
noncomputable def d_X12_toldKind (x1 : Int32) (M : Mem) : Option (Int32 × Mem) :=
  (d_X12_in x1 (0 : Int32) ((mI M 69 59) - (1 : Int32)) M).bind fun y1 =>
  if y1.1 = 0 then (
    d_X12_toldKind_20 x1 (1 : Int32) y1.2)
  else (
    d_X12_toldKind_20 x1 (0 : Int32) y1.2)
noncomputable def d_X12_toldAt_20 (x1 : Int32) (s1 : Int32) (M : Mem) : Option (Int64 × Mem) :=
  bnd (sI M 69 0 s1) fun M1 =>
  if (mI M1 69 0) ≤ 0 then (
    okk (vp_in x1 20) <|
    some ((mL M1 117 x1.toNatClampNeg), M1))
  else (
    some ((0 : Int64), M1))
noncomputable def d_X12_toldAt (x1 : Int32) (M : Mem) : Option (Int64 × Mem) :=
  (d_X12_in x1 (0 : Int32) ((mI M 69 59) - (1 : Int32)) M).bind fun y1 =>
  if y1.1 = 0 then (
    d_X12_toldAt_20 x1 (1 : Int32) y1.2)
  else (
    d_X12_toldAt_20 x1 (0 : Int32) y1.2)
noncomputable def d_X12_objects (M : Mem) : Option (Int32 × Mem) :=
  bnd (sI M 69 0 (0 : Int32)) fun M1 =>
  some ((mI M1 69 52), M1)
noncomputable def d_X12_shapeOf (x1 : Int32) (M : Mem) : Option (Int32 × Mem) :=
  bnd (sI M 69 0 (0 : Int32)) fun M1 =>
  (d_X12_in x1 (0 : Int32) ((mI M1 69 52) - (1 : Int32)) M1).bind fun y1 =>
  if y1.1 = 0 then (
    (d_X12_fails (1 : Int32) y1.2).bind fun y2 =>
    some (y2.1, y2.2))
  else (
    okk (vp_in x1 60) <|
    some ((mI y1.2 112 x1.toNatClampNeg), y1.2))
noncomputable def d_X12_field_47 (x1 : Int32) (x2 : Int32) (s1 : Int32) (M : Mem) : Option (Int64 × Mem) :=
  bnd (sI M 69 0 s1) fun M1 =>
  if (mI M1 69 0) ≤ 0 then (
    okk (vp_in (((6 : Int32) * x1) + x2) 360) <|
    okk (vp_in (((6 : Int32) * x1) + x2) 360) <|
    okk (vp_in (((6 : Int32) * x1) + x2) 360) <|
    (d_X12_told (mI M1 113 (((6 : Int32) * x1) + x2).toNatClampNeg) (mI M1 114 (((6 : Int32) * x1) + x2).toNatClampNeg) (mD M1 115 (((6 : Int32) * x1) + x2).toNatClampNeg) M1).bind fun y1 =>
    some (y1.1, y1.2))
  else (
    some ((0 : Int64), M1))
noncomputable def d_X12_field_42 (x1 : Int32) (x2 : Int32) (M : Mem) : Option (Int64 × Mem) :=
  d_X12_field_47 x1 x2 (2 : Int32) M
noncomputable def d_X12_field (x1 : Int32) (x2 : Int32) (M : Mem) : Option (Int64 × Mem) :=
  (d_X12_in x1 (0 : Int32) ((mI M 69 52) - (1 : Int32)) M).bind fun y1 =>
  if y1.1 = 0 then (
    d_X12_field_47 x1 x2 (1 : Int32) y1.2)
  else (
    (d_X12_in x2 (0 : Int32) (5 : Int32) y1.2).bind fun y2 =>
    if y2.1 = 0 then (
      d_X12_field_42 x1 x2 y2.2)
    else (
      okk (vp_in x1 60) <|
      (d_X12_hasField (mI y2.2 112 x1.toNatClampNeg) x2 y2.2).bind fun y3 =>
      if y3.1 = 0 then (
        d_X12_field_42 x1 x2 y3.2)
      else (
        d_X12_field_47 x1 x2 (0 : Int32) y3.2)))
noncomputable def d_X12_shapes (M : Mem) : Option (Int32 × Mem) :=
  bnd (sI M 69 0 (0 : Int32)) fun M1 =>
  some ((mI M1 69 12), M1)
noncomputable def d_X12_fields (x1 : Int32) (M : Mem) : Option (Int32 × Mem) :=
  bnd (sI M 69 0 (0 : Int32)) fun M1 =>
  (d_X12_in x1 (0 : Int32) ((mI M1 69 12) - (1 : Int32)) M1).bind fun y1 =>
  if y1.1 = 0 then (
    (d_X12_fails (1 : Int32) y1.2).bind fun y2 =>
    some (y2.1, y2.2))
  else (
    okk (vp_in x1 60) <|
    some ((mI y1.2 80 x1.toNatClampNeg), y1.2))
noncomputable def d_X12_fieldAt (x1 : Int32) (x2 : Int32) (M : Mem) : Option (Int32 × Mem) :=
  bnd (sI M 69 0 (0 : Int32)) fun M1 =>
  (d_X12_in x1 (0 : Int32) ((mI M1 69 12) - (1 : Int32)) M1).bind fun y1 =>
  if y1.1 = 0 then (
    (d_X12_fails (1 : Int32) y1.2).bind fun y4 =>
    some (y4.1, y4.2))
  else (
    okk (vp_in x1 60) <|
    (d_X12_in x2 (0 : Int32) ((mI y1.2 80 x1.toNatClampNeg) - (1 : Int32)) y1.2).bind fun y2 =>
    if y2.1 = 0 then (
      (d_X12_fails (2 : Int32) y2.2).bind fun y3 =>
      some (y3.1, y3.2))
    else (
      okk (vp_in (((6 : Int32) * x1) + x2) 360) <|
      some ((mI y2.2 81 (((6 : Int32) * x1) + x2).toNatClampNeg), y2.2)))
end VCD
