/-! ===== unfolding under a bind (printed by a program) ===== -/
section MBQ
theorem bind_okk {α β : Type} (p : Prop) (x : Option α) (f : α → Option β) : (okk p x).bind f = okk p (x.bind f) := by
  unfold okk; split <;> rfl
theorem bind_bnd {α β γ : Type} (v : α) (g : α → Option β) (f : β → Option γ) : (bnd v g).bind f = bnd v (fun y => (g y).bind f) := id rfl
theorem bind_ite {α β : Type} (c : Prop) {i : Decidable c} (x y : Option α) (f : α → Option β) : (if c then x else y).bind f = if c then x.bind f else y.bind f := by split <;> rfl
theorem bind_bind {α β γ : Type} (x : Option α) (g : α → Option β) (f : β → Option γ) : (x.bind g).bind f = x.bind (fun y => (g y).bind f) := by cases x <;> rfl
theorem tq_X12_thrown (M : Mem) : d_X12_thrown M = (
      some ((mI M 69 0), M)) := id rfl
theorem bq_X12_thrown {β : Type} (M : Mem) (f : Int32 × Mem → Option β) : (d_X12_thrown M).bind f = Option.bind (
      some ((mI M 69 0), M)) f := id rfl
theorem tq_X12_in (x0 : Int32) (x1 : Int32) (x2 : Int32) (M : Mem) : d_X12_in x0 x1 x2 M = (
      if x0 < x1 then (
        some ((0 : Int32), M))
      else (
        if x2 < x0 then (
          some ((0 : Int32), M))
        else (
          some ((1 : Int32), M)))) := id rfl
theorem bq_X12_in {β : Type} (x0 : Int32) (x1 : Int32) (x2 : Int32) (M : Mem) (f : Int32 × Mem → Option β) : (d_X12_in x0 x1 x2 M).bind f = Option.bind (
      if x0 < x1 then (
        some ((0 : Int32), M))
      else (
        if x2 < x0 then (
          some ((0 : Int32), M))
        else (
          some ((1 : Int32), M)))) f := id rfl
theorem tq_X12_fails (x1 : Int32) (M : Mem) : d_X12_fails x1 M = (
      bnd (sI M 69 0 x1) fun M1 =>
      some ((0 : Int32), M1)) := id rfl
theorem bq_X12_fails {β : Type} (x1 : Int32) (M : Mem) (f : Int32 × Mem → Option β) : (d_X12_fails x1 M).bind f = Option.bind (
      bnd (sI M 69 0 x1) fun M1 =>
      some ((0 : Int32), M1)) f := id rfl
theorem tq_X12_isFunction (x1 : Int32) (M : Mem) : d_X12_isFunction x1 M = (
      (d_X12_in x1 (0 : Int32) ((mI M 69 1) - (1 : Int32)) M).bind fun y1 =>
      okk (isBo y1.1) <|
      some (y1.1, y1.2)) := id rfl
theorem bq_X12_isFunction {β : Type} (x1 : Int32) (M : Mem) (f : Int32 × Mem → Option β) : (d_X12_isFunction x1 M).bind f = Option.bind (
      (d_X12_in x1 (0 : Int32) ((mI M 69 1) - (1 : Int32)) M).bind fun y1 =>
      okk (isBo y1.1) <|
      some (y1.1, y1.2)) f := id rfl
theorem tq_X12_addFunction (x1 : Int32) (M : Mem) : d_X12_addFunction x1 M = (
      bnd (sI M 69 0 (0 : Int32)) fun M1 =>
      (d_X12_in x1 (0 : Int32) (3 : Int32) M1).bind fun y1 =>
      if y1.1 = 0 then (
        (d_X12_fails (1 : Int32) y1.2).bind fun y3 =>
        some (y3.1, y3.2))
      else (
        if (mI y1.2 69 1) = (8 : Int32) then (
          (d_X12_fails (2 : Int32) y1.2).bind fun y2 =>
          some (y2.1, y2.2))
        else (
          okk (vp_in (mI y1.2 69 1) 8) <|
          bnd (sI y1.2 70 (mI y1.2 69 1).toNatClampNeg x1) fun M2 =>
          bnd (sI M2 69 1 ((mI M2 69 1) + (1 : Int32))) fun M3 =>
          some (((mI M3 69 1) - (1 : Int32)), M3)))) := id rfl
theorem bq_X12_addFunction {β : Type} (x1 : Int32) (M : Mem) (f : Int32 × Mem → Option β) : (d_X12_addFunction x1 M).bind f = Option.bind (
      bnd (sI M 69 0 (0 : Int32)) fun M1 =>
      (d_X12_in x1 (0 : Int32) (3 : Int32) M1).bind fun y1 =>
      if y1.1 = 0 then (
        (d_X12_fails (1 : Int32) y1.2).bind fun y3 =>
        some (y3.1, y3.2))
      else (
        if (mI y1.2 69 1) = (8 : Int32) then (
          (d_X12_fails (2 : Int32) y1.2).bind fun y2 =>
          some (y2.1, y2.2))
        else (
          okk (vp_in (mI y1.2 69 1) 8) <|
          bnd (sI y1.2 70 (mI y1.2 69 1).toNatClampNeg x1) fun M2 =>
          bnd (sI M2 69 1 ((mI M2 69 1) + (1 : Int32))) fun M3 =>
          some (((mI M3 69 1) - (1 : Int32)), M3)))) f := id rfl
theorem tq_X12_isPair (x0 : Int32) (M : Mem) : d_X12_isPair x0 M = (
      if x0 = (43 : Int32) then (
        some ((1 : Int32), M))
      else (
        if x0 = (45 : Int32) then (
          some ((1 : Int32), M))
        else (
          if x0 = (42 : Int32) then (
            some ((1 : Int32), M))
          else (
            if x0 = (47 : Int32) then (
              some ((1 : Int32), M))
            else (
              if x0 = (37 : Int32) then (
                some ((1 : Int32), M))
              else (
                if x0 = (60 : Int32) then (
                  some ((1 : Int32), M))
                else (
                  if x0 = (61 : Int32) then (
                    some ((1 : Int32), M))
                  else (
                    some ((0 : Int32), M))))))))) := id rfl
theorem bq_X12_isPair {β : Type} (x0 : Int32) (M : Mem) (f : Int32 × Mem → Option β) : (d_X12_isPair x0 M).bind f = Option.bind (
      if x0 = (43 : Int32) then (
        some ((1 : Int32), M))
      else (
        if x0 = (45 : Int32) then (
          some ((1 : Int32), M))
        else (
          if x0 = (42 : Int32) then (
            some ((1 : Int32), M))
          else (
            if x0 = (47 : Int32) then (
              some ((1 : Int32), M))
            else (
              if x0 = (37 : Int32) then (
                some ((1 : Int32), M))
              else (
                if x0 = (60 : Int32) then (
                  some ((1 : Int32), M))
                else (
                  if x0 = (61 : Int32) then (
                    some ((1 : Int32), M))
                  else (
                    some ((0 : Int32), M))))))))) f := id rfl
theorem tq_X12_isCode_52 (x2 : Int32) (M : Mem) : d_X12_isCode_52 x2 M = (
      (d_X12_in x2 (0 : Int32) (5 : Int32) M).bind fun y1 =>
      okk (isBo y1.1) <|
      some (y1.1, y1.2)) := id rfl
theorem bq_X12_isCode_52 {β : Type} (x2 : Int32) (M : Mem) (f : Int32 × Mem → Option β) : (d_X12_isCode_52 x2 M).bind f = Option.bind (
      (d_X12_in x2 (0 : Int32) (5 : Int32) M).bind fun y1 =>
      okk (isBo y1.1) <|
      some (y1.1, y1.2)) f := id rfl
theorem tq_X12_isCode_71 (x2 : Int32) (M : Mem) : d_X12_isCode_71 x2 M = (
      (d_X12_in x2 (0 : Int32) (39 : Int32) M).bind fun y1 =>
      okk (isBo y1.1) <|
      some (y1.1, y1.2)) := id rfl
theorem bq_X12_isCode_71 {β : Type} (x2 : Int32) (M : Mem) (f : Int32 × Mem → Option β) : (d_X12_isCode_71 x2 M).bind f = Option.bind (
      (d_X12_in x2 (0 : Int32) (39 : Int32) M).bind fun y1 =>
      okk (isBo y1.1) <|
      some (y1.1, y1.2)) f := id rfl
theorem tq_X12_isCode_157 (x2 : Int32) (s0 : Int32) (M : Mem) : d_X12_isCode_157 x2 s0 M = (
      if s0 = 0 then (
        some ((0 : Int32), M))
      else (
        if x2 = 0 then (
          some ((1 : Int32), M))
        else (
          some ((0 : Int32), M)))) := id rfl
theorem bq_X12_isCode_157 {β : Type} (x2 : Int32) (s0 : Int32) (M : Mem) (f : Int32 × Mem → Option β) : (d_X12_isCode_157 x2 s0 M).bind f = Option.bind (
      if s0 = 0 then (
        some ((0 : Int32), M))
      else (
        if x2 = 0 then (
          some ((1 : Int32), M))
        else (
          some ((0 : Int32), M)))) f := id rfl
theorem tq_X12_isCode_152 (x2 : Int32) (M : Mem) : d_X12_isCode_152 x2 M = (
      d_X12_isCode_157 x2 (1 : Int32) M) := id rfl
theorem bq_X12_isCode_152 {β : Type} (x2 : Int32) (M : Mem) (f : Int32 × Mem → Option β) : (d_X12_isCode_152 x2 M).bind f = Option.bind (
      d_X12_isCode_157 x2 (1 : Int32) M) f := id rfl
theorem tq_X12_isCode (x1 : Int32) (x2 : Int32) (M : Mem) : d_X12_isCode x1 x2 M = (
      if x1 = (105 : Int32) then (
        some ((1 : Int32), M))
      else (
        if x1 = (107 : Int32) then (
          (d_X12_in x2 (0 : Int32) (7 : Int32) M).bind fun y4 =>
          okk (isBo y4.1) <|
          some (y4.1, y4.2))
        else (
          if x1 = (108 : Int32) then (
            d_X12_isCode_52 x2 M)
          else (
            if x1 = (115 : Int32) then (
              d_X12_isCode_52 x2 M)
            else (
              if x1 = (103 : Int32) then (
                d_X12_isCode_52 x2 M)
              else (
                if x1 = (112 : Int32) then (
                  d_X12_isCode_52 x2 M)
                else (
                  if x1 = (109 : Int32) then (
                    d_X12_isCode_52 x2 M)
                  else (
                    if x1 = (106 : Int32) then (
                      d_X12_isCode_71 x2 M)
                    else (
                      if x1 = (122 : Int32) then (
                        d_X12_isCode_71 x2 M)
                      else (
                        if x1 = (110 : Int32) then (
                          (d_X12_in x2 (0 : Int32) ((mI M 69 8) - (1 : Int32)) M).bind fun y3 =>
                          okk (isBo y3.1) <|
                          some (y3.1, y3.2))
                        else (
                          if x1 = (99 : Int32) then (
                            (d_X12_in x2 (0 : Int32) ((mI M 69 1) - (1 : Int32)) M).bind fun y2 =>
                            okk (isBo y2.1) <|
                            some (y2.1, y2.2))
                          else (
                            if x1 = (117 : Int32) then (
                              d_X12_isCode_152 x2 M)
                            else (
                              if x1 = (100 : Int32) then (
                                d_X12_isCode_152 x2 M)
                              else (
                                if x1 = (119 : Int32) then (
                                  d_X12_isCode_152 x2 M)
                                else (
                                  if x1 = (114 : Int32) then (
                                    d_X12_isCode_152 x2 M)
                                  else (
                                    if x1 = (116 : Int32) then (
                                      d_X12_isCode_152 x2 M)
                                    else (
                                      (d_X12_isPair x1 M).bind fun y1 =>
                                      if y1.1 = 0 then (
                                        d_X12_isCode_157 x2 (0 : Int32) y1.2)
                                      else (
                                        d_X12_isCode_152 x2 y1.2)))))))))))))))))) := id rfl
theorem bq_X12_isCode {β : Type} (x1 : Int32) (x2 : Int32) (M : Mem) (f : Int32 × Mem → Option β) : (d_X12_isCode x1 x2 M).bind f = Option.bind (
      if x1 = (105 : Int32) then (
        some ((1 : Int32), M))
      else (
        if x1 = (107 : Int32) then (
          (d_X12_in x2 (0 : Int32) (7 : Int32) M).bind fun y4 =>
          okk (isBo y4.1) <|
          some (y4.1, y4.2))
        else (
          if x1 = (108 : Int32) then (
            d_X12_isCode_52 x2 M)
          else (
            if x1 = (115 : Int32) then (
              d_X12_isCode_52 x2 M)
            else (
              if x1 = (103 : Int32) then (
                d_X12_isCode_52 x2 M)
              else (
                if x1 = (112 : Int32) then (
                  d_X12_isCode_52 x2 M)
                else (
                  if x1 = (109 : Int32) then (
                    d_X12_isCode_52 x2 M)
                  else (
                    if x1 = (106 : Int32) then (
                      d_X12_isCode_71 x2 M)
                    else (
                      if x1 = (122 : Int32) then (
                        d_X12_isCode_71 x2 M)
                      else (
                        if x1 = (110 : Int32) then (
                          (d_X12_in x2 (0 : Int32) ((mI M 69 8) - (1 : Int32)) M).bind fun y3 =>
                          okk (isBo y3.1) <|
                          some (y3.1, y3.2))
                        else (
                          if x1 = (99 : Int32) then (
                            (d_X12_in x2 (0 : Int32) ((mI M 69 1) - (1 : Int32)) M).bind fun y2 =>
                            okk (isBo y2.1) <|
                            some (y2.1, y2.2))
                          else (
                            if x1 = (117 : Int32) then (
                              d_X12_isCode_152 x2 M)
                            else (
                              if x1 = (100 : Int32) then (
                                d_X12_isCode_152 x2 M)
                              else (
                                if x1 = (119 : Int32) then (
                                  d_X12_isCode_152 x2 M)
                                else (
                                  if x1 = (114 : Int32) then (
                                    d_X12_isCode_152 x2 M)
                                  else (
                                    if x1 = (116 : Int32) then (
                                      d_X12_isCode_152 x2 M)
                                    else (
                                      (d_X12_isPair x1 M).bind fun y1 =>
                                      if y1.1 = 0 then (
                                        d_X12_isCode_157 x2 (0 : Int32) y1.2)
                                      else (
                                        d_X12_isCode_152 x2 y1.2)))))))))))))))))) f := id rfl
theorem tq_X12_code (x1 : Int32) (x2 : Int32) (x3 : Int32) (M : Mem) : d_X12_code x1 x2 x3 M = (
      bnd (sI M 69 0 (0 : Int32)) fun M1 =>
      (d_X12_isFunction x1 M1).bind fun y1 =>
      if y1.1 = 0 then (
        (d_X12_fails (1 : Int32) y1.2).bind fun y5 =>
        some (y5.1, y5.2))
      else (
        (d_X12_isCode x2 x3 y1.2).bind fun y2 =>
        if y2.1 = 0 then (
          (d_X12_fails (2 : Int32) y2.2).bind fun y4 =>
          some (y4.1, y4.2))
        else (
          okk (vp_in x1 8) <|
          if (mI y2.2 71 x1.toNatClampNeg) = (40 : Int32) then (
            (d_X12_fails (3 : Int32) y2.2).bind fun y3 =>
            some (y3.1, y3.2))
          else (
            okk (vp_in x1 8) <|
            okk (vp_in (((40 : Int32) * x1) + (mI y2.2 71 x1.toNatClampNeg)) 320) <|
            okk (isCh x2) <|
            bnd (sI y2.2 72 (((40 : Int32) * x1) + (mI y2.2 71 x1.toNatClampNeg)).toNatClampNeg x2) fun M2 =>
            okk (vp_in x1 8) <|
            okk (vp_in (((40 : Int32) * x1) + (mI M2 71 x1.toNatClampNeg)) 320) <|
            bnd (sI M2 73 (((40 : Int32) * x1) + (mI M2 71 x1.toNatClampNeg)).toNatClampNeg x3) fun M3 =>
            okk (vp_in x1 8) <|
            okk (vp_in x1 8) <|
            bnd (sI M3 71 x1.toNatClampNeg ((mI M3 71 x1.toNatClampNeg) + (1 : Int32))) fun M4 =>
            okk (vp_in x1 8) <|
            some ((mI M4 71 x1.toNatClampNeg), M4))))) := id rfl
theorem bq_X12_code {β : Type} (x1 : Int32) (x2 : Int32) (x3 : Int32) (M : Mem) (f : Int32 × Mem → Option β) : (d_X12_code x1 x2 x3 M).bind f = Option.bind (
      bnd (sI M 69 0 (0 : Int32)) fun M1 =>
      (d_X12_isFunction x1 M1).bind fun y1 =>
      if y1.1 = 0 then (
        (d_X12_fails (1 : Int32) y1.2).bind fun y5 =>
        some (y5.1, y5.2))
      else (
        (d_X12_isCode x2 x3 y1.2).bind fun y2 =>
        if y2.1 = 0 then (
          (d_X12_fails (2 : Int32) y2.2).bind fun y4 =>
          some (y4.1, y4.2))
        else (
          okk (vp_in x1 8) <|
          if (mI y2.2 71 x1.toNatClampNeg) = (40 : Int32) then (
            (d_X12_fails (3 : Int32) y2.2).bind fun y3 =>
            some (y3.1, y3.2))
          else (
            okk (vp_in x1 8) <|
            okk (vp_in (((40 : Int32) * x1) + (mI y2.2 71 x1.toNatClampNeg)) 320) <|
            okk (isCh x2) <|
            bnd (sI y2.2 72 (((40 : Int32) * x1) + (mI y2.2 71 x1.toNatClampNeg)).toNatClampNeg x2) fun M2 =>
            okk (vp_in x1 8) <|
            okk (vp_in (((40 : Int32) * x1) + (mI M2 71 x1.toNatClampNeg)) 320) <|
            bnd (sI M2 73 (((40 : Int32) * x1) + (mI M2 71 x1.toNatClampNeg)).toNatClampNeg x3) fun M3 =>
            okk (vp_in x1 8) <|
            okk (vp_in x1 8) <|
            bnd (sI M3 71 x1.toNatClampNeg ((mI M3 71 x1.toNatClampNeg) + (1 : Int32))) fun M4 =>
            okk (vp_in x1 8) <|
            some ((mI M4 71 x1.toNatClampNeg), M4))))) f := id rfl
theorem tq_X12_setHandler (x1 : Int32) (x2 : Int32) (M : Mem) : d_X12_setHandler x1 x2 M = (
      bnd (sI M 69 0 (0 : Int32)) fun M1 =>
      (d_X12_isFunction x1 M1).bind fun y1 =>
      if y1.1 = 0 then (
        (d_X12_fails (1 : Int32) y1.2).bind fun y4 =>
        some (y4.1, y4.2))
      else (
        (d_X12_in x2 (0 : Int32) (39 : Int32) y1.2).bind fun y2 =>
        if y2.1 = 0 then (
          (d_X12_fails (2 : Int32) y2.2).bind fun y3 =>
          some (y3.1, y3.2))
        else (
          okk (vp_in x1 8) <|
          bnd ((mI y2.2 74 x1.toNatClampNeg)) fun b1 =>
          okk (vp_in x1 8) <|
          bnd (sI y2.2 74 x1.toNatClampNeg x2) fun M2 =>
          some (b1, M2)))) := id rfl
theorem bq_X12_setHandler {β : Type} (x1 : Int32) (x2 : Int32) (M : Mem) (f : Int32 × Mem → Option β) : (d_X12_setHandler x1 x2 M).bind f = Option.bind (
      bnd (sI M 69 0 (0 : Int32)) fun M1 =>
      (d_X12_isFunction x1 M1).bind fun y1 =>
      if y1.1 = 0 then (
        (d_X12_fails (1 : Int32) y1.2).bind fun y4 =>
        some (y4.1, y4.2))
      else (
        (d_X12_in x2 (0 : Int32) (39 : Int32) y1.2).bind fun y2 =>
        if y2.1 = 0 then (
          (d_X12_fails (2 : Int32) y2.2).bind fun y3 =>
          some (y3.1, y3.2))
        else (
          okk (vp_in x1 8) <|
          bnd ((mI y2.2 74 x1.toNatClampNeg)) fun b1 =>
          okk (vp_in x1 8) <|
          bnd (sI y2.2 74 x1.toNatClampNeg x2) fun M2 =>
          some (b1, M2)))) f := id rfl
theorem tq_X12_newShape (x1 : Int32) (M : Mem) : d_X12_newShape x1 M = (
      okk (vp_in (mI M 69 12) 60) <|
      bnd (sI M 79 (mI M 69 12).toNatClampNeg x1) fun M1 =>
      okk (vp_in (mI M1 69 12) 60) <|
      bnd (sI M1 80 (mI M1 69 12).toNatClampNeg (0 : Int32)) fun M2 =>
      bnd (sI M2 69 12 ((mI M2 69 12) + (1 : Int32))) fun M3 =>
      some (((mI M3 69 12) - (1 : Int32)), M3)) := id rfl
theorem bq_X12_newShape {β : Type} (x1 : Int32) (M : Mem) (f : Int32 × Mem → Option β) : (d_X12_newShape x1 M).bind f = Option.bind (
      okk (vp_in (mI M 69 12) 60) <|
      bnd (sI M 79 (mI M 69 12).toNatClampNeg x1) fun M1 =>
      okk (vp_in (mI M1 69 12) 60) <|
      bnd (sI M1 80 (mI M1 69 12).toNatClampNeg (0 : Int32)) fun M2 =>
      bnd (sI M2 69 12 ((mI M2 69 12) + (1 : Int32))) fun M3 =>
      some (((mI M3 69 12) - (1 : Int32)), M3)) f := id rfl
theorem tq_X12_addClass (x1 : Int32) (M : Mem) : d_X12_addClass x1 M = (
      bnd (sI M 69 0 (0 : Int32)) fun M1 =>
      (d_X12_in x1 (-1 : Int32) ((mI M1 69 8) - (1 : Int32)) M1).bind fun y1 =>
      if y1.1 = 0 then (
        (d_X12_fails (1 : Int32) y1.2).bind fun y5 =>
        some (y5.1, y5.2))
      else (
        if (mI y1.2 69 8) = (5 : Int32) then (
          (d_X12_fails (2 : Int32) y1.2).bind fun y4 =>
          some (y4.1, y4.2))
        else (
          if (mI y1.2 69 12) = (60 : Int32) then (
            (d_X12_fails (3 : Int32) y1.2).bind fun y3 =>
            some (y3.1, y3.2))
          else (
            okk (vp_in (mI y1.2 69 8) 5) <|
            bnd (sI y1.2 76 (mI y1.2 69 8).toNatClampNeg x1) fun M2 =>
            (d_X12_newShape (mI M2 69 8) M2).bind fun y2 =>
            okk (vp_in (mI M2 69 8) 5) <|
            bnd (sI y2.2 78 (mI M2 69 8).toNatClampNeg y2.1) fun M3 =>
            bnd (sI M3 69 8 ((mI M3 69 8) + (1 : Int32))) fun M4 =>
            some (((mI M4 69 8) - (1 : Int32)), M4))))) := id rfl
theorem bq_X12_addClass {β : Type} (x1 : Int32) (M : Mem) (f : Int32 × Mem → Option β) : (d_X12_addClass x1 M).bind f = Option.bind (
      bnd (sI M 69 0 (0 : Int32)) fun M1 =>
      (d_X12_in x1 (-1 : Int32) ((mI M1 69 8) - (1 : Int32)) M1).bind fun y1 =>
      if y1.1 = 0 then (
        (d_X12_fails (1 : Int32) y1.2).bind fun y5 =>
        some (y5.1, y5.2))
      else (
        if (mI y1.2 69 8) = (5 : Int32) then (
          (d_X12_fails (2 : Int32) y1.2).bind fun y4 =>
          some (y4.1, y4.2))
        else (
          if (mI y1.2 69 12) = (60 : Int32) then (
            (d_X12_fails (3 : Int32) y1.2).bind fun y3 =>
            some (y3.1, y3.2))
          else (
            okk (vp_in (mI y1.2 69 8) 5) <|
            bnd (sI y1.2 76 (mI y1.2 69 8).toNatClampNeg x1) fun M2 =>
            (d_X12_newShape (mI M2 69 8) M2).bind fun y2 =>
            okk (vp_in (mI M2 69 8) 5) <|
            bnd (sI y2.2 78 (mI M2 69 8).toNatClampNeg y2.1) fun M3 =>
            bnd (sI M3 69 8 ((mI M3 69 8) + (1 : Int32))) fun M4 =>
            some (((mI M4 69 8) - (1 : Int32)), M4))))) f := id rfl
theorem tq_X12_throwAway_39 (k2 : (Int32) → Mem → Option (Unit × Mem)) (x1 : Int32) (x2 : Int32) (s1 : Int32) (s2 : Int32) (M : Mem) : d_X12_throwAway_39 k2 x1 x2 s1 s2 M = (
      okk (vp_in s1 20) <|
      okk (isBo s2) <|
      bnd (sI M 89 s1.toNatClampNeg s2) fun M1 =>
      bnd ((x2 + (1 : Int32))) fun b1 =>
      k2 (b1) M1) := id rfl
theorem bq_X12_throwAway_39 {β : Type} (k2 : (Int32) → Mem → Option (Unit × Mem)) (x1 : Int32) (x2 : Int32) (s1 : Int32) (s2 : Int32) (M : Mem) (f : Unit × Mem → Option β) : (d_X12_throwAway_39 k2 x1 x2 s1 s2 M).bind f = Option.bind (
      okk (vp_in s1 20) <|
      okk (isBo s2) <|
      bnd (sI M 89 s1.toNatClampNeg s2) fun M1 =>
      bnd ((x2 + (1 : Int32))) fun b1 =>
      k2 (b1) M1) f := id rfl
theorem tq_X12_throwAway_38 (k2 : (Int32) → Mem → Option (Unit × Mem)) (x1 : Int32) (x2 : Int32) (s1 : Int32) (M : Mem) : d_X12_throwAway_38 k2 x1 x2 s1 M = (
      d_X12_throwAway_39 k2 x1 x2 s1 (0 : Int32) M) := id rfl
theorem bq_X12_throwAway_38 {β : Type} (k2 : (Int32) → Mem → Option (Unit × Mem)) (x1 : Int32) (x2 : Int32) (s1 : Int32) (M : Mem) (f : Unit × Mem → Option β) : (d_X12_throwAway_38 k2 x1 x2 s1 M).bind f = Option.bind (
      d_X12_throwAway_39 k2 x1 x2 s1 (0 : Int32) M) f := id rfl
theorem tq_X12_throwAway_2b (k2 : (Int32) → Mem → Option (Unit × Mem)) (x1 : Int32) (x2 : Int32) (M : Mem) : d_X12_throwAway_2b k2 x1 x2 M = (
      if (mI M 69 26) ≤ x2 then (
        okk (vp_in x1 20) <|
        okk (vp_in (mI M 94 x1.toNatClampNeg) 320) <|
        bnd (sI M 87 (mI M 94 x1.toNatClampNeg).toNatClampNeg (0 : Int32)) fun M1 =>
        some ((), M1))
      else (
        okk (vp_in x2 20) <|
        if (mI M 89 x2.toNatClampNeg) = 0 then (
          d_X12_throwAway_38 k2 x1 x2 x2 M)
        else (
          okk (vp_in x2 20) <|
          if (mI M 93 x2.toNatClampNeg) = x1 then (
            d_X12_throwAway_38 k2 x1 x2 x2 M)
          else (
            d_X12_throwAway_39 k2 x1 x2 x2 (1 : Int32) M)))) := id rfl
theorem bq_X12_throwAway_2b {β : Type} (k2 : (Int32) → Mem → Option (Unit × Mem)) (x1 : Int32) (x2 : Int32) (M : Mem) (f : Unit × Mem → Option β) : (d_X12_throwAway_2b k2 x1 x2 M).bind f = Option.bind (
      if (mI M 69 26) ≤ x2 then (
        okk (vp_in x1 20) <|
        okk (vp_in (mI M 94 x1.toNatClampNeg) 320) <|
        bnd (sI M 87 (mI M 94 x1.toNatClampNeg).toNatClampNeg (0 : Int32)) fun M1 =>
        some ((), M1))
      else (
        okk (vp_in x2 20) <|
        if (mI M 89 x2.toNatClampNeg) = 0 then (
          d_X12_throwAway_38 k2 x1 x2 x2 M)
        else (
          okk (vp_in x2 20) <|
          if (mI M 93 x2.toNatClampNeg) = x1 then (
            d_X12_throwAway_38 k2 x1 x2 x2 M)
          else (
            d_X12_throwAway_39 k2 x1 x2 x2 (1 : Int32) M)))) f := id rfl
theorem tq_X12_throwAway (x1 : Int32) (M : Mem) : d_X12_throwAway x1 M = (
      d_X12_throwAway_2 x1 fuel ((0 : Int32)) M) := id rfl
theorem bq_X12_throwAway {β : Type} (x1 : Int32) (M : Mem) (f : Unit × Mem → Option β) : (d_X12_throwAway x1 M).bind f = Option.bind (
      d_X12_throwAway_2 x1 fuel ((0 : Int32)) M) f := id rfl
theorem tq_X12_throwsWith_144 (k5 : (Int32 × Int32) → Mem → Option (Int32 × Mem)) (x1 : Int32) (x2 : Int32) (x3 : Int32) (x4 : Int32) (M : Mem) : d_X12_throwsWith_144 k5 x1 x2 x3 x4 M = (
      bnd ((x4 + (1 : Int32))) fun b1 =>
      k5 (x3, b1) M) := id rfl
theorem bq_X12_throwsWith_144 {β : Type} (k5 : (Int32 × Int32) → Mem → Option (Int32 × Mem)) (x1 : Int32) (x2 : Int32) (x3 : Int32) (x4 : Int32) (M : Mem) (f : Int32 × Mem → Option β) : (d_X12_throwsWith_144 k5 x1 x2 x3 x4 M).bind f = Option.bind (
      bnd ((x4 + (1 : Int32))) fun b1 =>
      k5 (x3, b1) M) f := id rfl
theorem tq_X12_throwsWith_125 (k5 : (Int32 × Int32) → Mem → Option (Int32 × Mem)) (x1 : Int32) (x2 : Int32) (x3 : Int32) (x4 : Int32) (x5 : Int32) (M : Mem) : d_X12_throwsWith_125 k5 x1 x2 x3 x4 x5 M = (
      if x5 = 0 then (
        d_X12_throwsWith_144 k5 x1 x2 x3 x4 M)
      else (
        okk (vp_in x4 20) <|
        (d_X12_throwAway (mI M 93 x4.toNatClampNeg) M).bind fun y1 =>
        bnd ((x3 + (1 : Int32))) fun b1 =>
        d_X12_throwsWith_144 k5 x1 x2 b1 x4 y1.2)) := id rfl
theorem bq_X12_throwsWith_125 {β : Type} (k5 : (Int32 × Int32) → Mem → Option (Int32 × Mem)) (x1 : Int32) (x2 : Int32) (x3 : Int32) (x4 : Int32) (x5 : Int32) (M : Mem) (f : Int32 × Mem → Option β) : (d_X12_throwsWith_125 k5 x1 x2 x3 x4 x5 M).bind f = Option.bind (
      if x5 = 0 then (
        d_X12_throwsWith_144 k5 x1 x2 x3 x4 M)
      else (
        okk (vp_in x4 20) <|
        (d_X12_throwAway (mI M 93 x4.toNatClampNeg) M).bind fun y1 =>
        bnd ((x3 + (1 : Int32))) fun b1 =>
        d_X12_throwsWith_144 k5 x1 x2 b1 x4 y1.2)) f := id rfl
theorem tq_X12_throwsWith_117 (k20 : (Int32 × Int32) → Mem → Option (Int32 × Mem)) (x1 : Int32) (x2 : Int32) (x3 : Int32) (x4 : Int32) (x6 : Int32) (s0 : Int32) (M : Mem) : d_X12_throwsWith_117 k20 x1 x2 x3 x4 x6 s0 M = (
      bnd ((x6 + (1 : Int32))) fun b1 =>
      k20 (s0, b1) M) := id rfl
theorem bq_X12_throwsWith_117 {β : Type} (k20 : (Int32 × Int32) → Mem → Option (Int32 × Mem)) (x1 : Int32) (x2 : Int32) (x3 : Int32) (x4 : Int32) (x6 : Int32) (s0 : Int32) (M : Mem) (f : Int32 × Mem → Option β) : (d_X12_throwsWith_117 k20 x1 x2 x3 x4 x6 s0 M).bind f = Option.bind (
      bnd ((x6 + (1 : Int32))) fun b1 =>
      k20 (s0, b1) M) f := id rfl
theorem tq_X12_throwsWith_112 (k20 : (Int32 × Int32) → Mem → Option (Int32 × Mem)) (x1 : Int32) (x2 : Int32) (x3 : Int32) (x4 : Int32) (x6 : Int32) (M : Mem) : d_X12_throwsWith_112 k20 x1 x2 x3 x4 x6 M = (
      d_X12_throwsWith_117 k20 x1 x2 x3 x4 x6 (1 : Int32) M) := id rfl
theorem bq_X12_throwsWith_112 {β : Type} (k20 : (Int32 × Int32) → Mem → Option (Int32 × Mem)) (x1 : Int32) (x2 : Int32) (x3 : Int32) (x4 : Int32) (x6 : Int32) (M : Mem) (f : Int32 × Mem → Option β) : (d_X12_throwsWith_112 k20 x1 x2 x3 x4 x6 M).bind f = Option.bind (
      d_X12_throwsWith_117 k20 x1 x2 x3 x4 x6 (1 : Int32) M) f := id rfl
theorem tq_X12_throwsWith_116 (k20 : (Int32 × Int32) → Mem → Option (Int32 × Mem)) (x1 : Int32) (x2 : Int32) (x3 : Int32) (x4 : Int32) (x6 : Int32) (M : Mem) : d_X12_throwsWith_116 k20 x1 x2 x3 x4 x6 M = (
      d_X12_throwsWith_117 k20 x1 x2 x3 x4 x6 (0 : Int32) M) := id rfl
theorem bq_X12_throwsWith_116 {β : Type} (k20 : (Int32 × Int32) → Mem → Option (Int32 × Mem)) (x1 : Int32) (x2 : Int32) (x3 : Int32) (x4 : Int32) (x6 : Int32) (M : Mem) (f : Int32 × Mem → Option β) : (d_X12_throwsWith_116 k20 x1 x2 x3 x4 x6 M).bind f = Option.bind (
      d_X12_throwsWith_117 k20 x1 x2 x3 x4 x6 (0 : Int32) M) f := id rfl
theorem tq_X12_throwsWith_20b (k5 : (Int32 × Int32) → Mem → Option (Int32 × Mem)) (k20 : (Int32 × Int32) → Mem → Option (Int32 × Mem)) (x1 : Int32) (x2 : Int32) (x3 : Int32) (x4 : Int32) (x5 : Int32) (x6 : Int32) (M : Mem) : d_X12_throwsWith_20b k5 k20 x1 x2 x3 x4 x5 x6 M = (
      okk (vp_in x4 20) <|
      if (mI M 90 x4.toNatClampNeg) ≤ x6 then (
        d_X12_throwsWith_125 k5 x1 x2 x3 x4 x5 M)
      else (
        okk (vp_in x4 20) <|
        if (mI M 89 x4.toNatClampNeg) = 0 then (
          d_X12_throwsWith_125 k5 x1 x2 x3 x4 x5 M)
        else (
          okk (vp_in (((30 : Int32) * x4) + x6) 600) <|
          okk (vp_in (((30 : Int32) * x4) + x6) 600) <|
          bnd ((((40 : Int32) * ((mI M 91 (((30 : Int32) * x4) + x6).toNatClampNeg) / (100 : Int32))) + ((mI M 91 (((30 : Int32) * x4) + x6).toNatClampNeg) - (mI M 91 (((30 : Int32) * x4) + x6).toNatClampNeg) / (100 : Int32) * (100 : Int32)))) fun b1 =>
          if x5 = 0 then (
            okk (vp_in b1 320) <|
            if (mI M 72 b1.toNatClampNeg) = x1 then (
              if x2 = (-1 : Int32) then (
                d_X12_throwsWith_112 k20 x1 x2 x3 x4 x6 M)
              else (
                okk (vp_in b1 320) <|
                if (mI M 73 b1.toNatClampNeg) = x2 then (
                  d_X12_throwsWith_112 k20 x1 x2 x3 x4 x6 M)
                else (
                  d_X12_throwsWith_116 k20 x1 x2 x3 x4 x6 M)))
            else (
              d_X12_throwsWith_116 k20 x1 x2 x3 x4 x6 M))
          else (
            d_X12_throwsWith_112 k20 x1 x2 x3 x4 x6 M)))) := id rfl
theorem bq_X12_throwsWith_20b {β : Type} (k5 : (Int32 × Int32) → Mem → Option (Int32 × Mem)) (k20 : (Int32 × Int32) → Mem → Option (Int32 × Mem)) (x1 : Int32) (x2 : Int32) (x3 : Int32) (x4 : Int32) (x5 : Int32) (x6 : Int32) (M : Mem) (f : Int32 × Mem → Option β) : (d_X12_throwsWith_20b k5 k20 x1 x2 x3 x4 x5 x6 M).bind f = Option.bind (
      okk (vp_in x4 20) <|
      if (mI M 90 x4.toNatClampNeg) ≤ x6 then (
        d_X12_throwsWith_125 k5 x1 x2 x3 x4 x5 M)
      else (
        okk (vp_in x4 20) <|
        if (mI M 89 x4.toNatClampNeg) = 0 then (
          d_X12_throwsWith_125 k5 x1 x2 x3 x4 x5 M)
        else (
          okk (vp_in (((30 : Int32) * x4) + x6) 600) <|
          okk (vp_in (((30 : Int32) * x4) + x6) 600) <|
          bnd ((((40 : Int32) * ((mI M 91 (((30 : Int32) * x4) + x6).toNatClampNeg) / (100 : Int32))) + ((mI M 91 (((30 : Int32) * x4) + x6).toNatClampNeg) - (mI M 91 (((30 : Int32) * x4) + x6).toNatClampNeg) / (100 : Int32) * (100 : Int32)))) fun b1 =>
          if x5 = 0 then (
            okk (vp_in b1 320) <|
            if (mI M 72 b1.toNatClampNeg) = x1 then (
              if x2 = (-1 : Int32) then (
                d_X12_throwsWith_112 k20 x1 x2 x3 x4 x6 M)
              else (
                okk (vp_in b1 320) <|
                if (mI M 73 b1.toNatClampNeg) = x2 then (
                  d_X12_throwsWith_112 k20 x1 x2 x3 x4 x6 M)
                else (
                  d_X12_throwsWith_116 k20 x1 x2 x3 x4 x6 M)))
            else (
              d_X12_throwsWith_116 k20 x1 x2 x3 x4 x6 M))
          else (
            d_X12_throwsWith_112 k20 x1 x2 x3 x4 x6 M)))) f := id rfl
theorem tq_X12_throwsWith_5b (k5 : (Int32 × Int32) → Mem → Option (Int32 × Mem)) (x1 : Int32) (x2 : Int32) (x3 : Int32) (x4 : Int32) (M : Mem) : d_X12_throwsWith_5b k5 x1 x2 x3 x4 M = (
      if (mI M 69 26) ≤ x4 then (
        some (x3, M))
      else (
        d_X12_throwsWith_20 k5 x1 x2 x3 x4 fuel ((0 : Int32), (0 : Int32)) M)) := id rfl
theorem bq_X12_throwsWith_5b {β : Type} (k5 : (Int32 × Int32) → Mem → Option (Int32 × Mem)) (x1 : Int32) (x2 : Int32) (x3 : Int32) (x4 : Int32) (M : Mem) (f : Int32 × Mem → Option β) : (d_X12_throwsWith_5b k5 x1 x2 x3 x4 M).bind f = Option.bind (
      if (mI M 69 26) ≤ x4 then (
        some (x3, M))
      else (
        d_X12_throwsWith_20 k5 x1 x2 x3 x4 fuel ((0 : Int32), (0 : Int32)) M)) f := id rfl
theorem tq_X12_throwsWith (x1 : Int32) (x2 : Int32) (M : Mem) : d_X12_throwsWith x1 x2 M = (
      d_X12_throwsWith_5 x1 x2 fuel ((0 : Int32), (0 : Int32)) M) := id rfl
theorem bq_X12_throwsWith {β : Type} (x1 : Int32) (x2 : Int32) (M : Mem) (f : Int32 × Mem → Option β) : (d_X12_throwsWith x1 x2 M).bind f = Option.bind (
      d_X12_throwsWith_5 x1 x2 fuel ((0 : Int32), (0 : Int32)) M) f := id rfl
theorem tq_X12_setMethod_133 (k85 : (Int32) → Mem → Option (Int32 × Mem)) (x4 : Int32) (s1 : Int32) (s2 : Int32) (M : Mem) : d_X12_setMethod_133 k85 x4 s1 s2 M = (
      okk (vp_in s1 320) <|
      bnd (sI M 83 s1.toNatClampNeg s2) fun M1 =>
      bnd ((x4 + (1 : Int32))) fun b1 =>
      k85 (b1) M1) := id rfl
theorem bq_X12_setMethod_133 {β : Type} (k85 : (Int32) → Mem → Option (Int32 × Mem)) (x4 : Int32) (s1 : Int32) (s2 : Int32) (M : Mem) (f : Int32 × Mem → Option β) : (d_X12_setMethod_133 k85 x4 s1 s2 M).bind f = Option.bind (
      okk (vp_in s1 320) <|
      bnd (sI M 83 s1.toNatClampNeg s2) fun M1 =>
      bnd ((x4 + (1 : Int32))) fun b1 =>
      k85 (b1) M1) f := id rfl
theorem tq_X12_setMethod_126 (k85 : (Int32) → Mem → Option (Int32 × Mem)) (x4 : Int32) (s1 : Int32) (M : Mem) : d_X12_setMethod_126 k85 x4 s1 M = (
      okk (vp_in x4 320) <|
      d_X12_setMethod_133 k85 x4 s1 (mI M 83 x4.toNatClampNeg) M) := id rfl
theorem bq_X12_setMethod_126 {β : Type} (k85 : (Int32) → Mem → Option (Int32 × Mem)) (x4 : Int32) (s1 : Int32) (M : Mem) (f : Int32 × Mem → Option β) : (d_X12_setMethod_126 k85 x4 s1 M).bind f = Option.bind (
      okk (vp_in x4 320) <|
      d_X12_setMethod_133 k85 x4 s1 (mI M 83 x4.toNatClampNeg) M) f := id rfl
theorem tq_X12_setMethod_85b (k85 : (Int32) → Mem → Option (Int32 × Mem)) (x4 : Int32) (M : Mem) : d_X12_setMethod_85b k85 x4 M = (
      if (320 : Int32) ≤ x4 then (
        (d_X12_throwsWith (109 : Int32) (-1 : Int32) M).bind fun y1 =>
        some (y1.1, y1.2))
      else (
        okk (vp_in x4 320) <|
        if (mI M 72 x4.toNatClampNeg) = (109 : Int32) then (
          okk (vp_in x4 320) <|
          if (mI M 83 x4.toNatClampNeg) = (-1 : Int32) then (
            d_X12_setMethod_126 k85 x4 x4 M)
          else (
            d_X12_setMethod_133 k85 x4 x4 (0 : Int32) M))
        else (
          d_X12_setMethod_126 k85 x4 x4 M))) := id rfl
theorem bq_X12_setMethod_85b {β : Type} (k85 : (Int32) → Mem → Option (Int32 × Mem)) (x4 : Int32) (M : Mem) (f : Int32 × Mem → Option β) : (d_X12_setMethod_85b k85 x4 M).bind f = Option.bind (
      if (320 : Int32) ≤ x4 then (
        (d_X12_throwsWith (109 : Int32) (-1 : Int32) M).bind fun y1 =>
        some (y1.1, y1.2))
      else (
        okk (vp_in x4 320) <|
        if (mI M 72 x4.toNatClampNeg) = (109 : Int32) then (
          okk (vp_in x4 320) <|
          if (mI M 83 x4.toNatClampNeg) = (-1 : Int32) then (
            d_X12_setMethod_126 k85 x4 x4 M)
          else (
            d_X12_setMethod_133 k85 x4 x4 (0 : Int32) M))
        else (
          d_X12_setMethod_126 k85 x4 x4 M))) f := id rfl
theorem tq_X12_setMethod (x1 : Int32) (x2 : Int32) (x3 : Int32) (M : Mem) : d_X12_setMethod x1 x2 x3 M = (
      bnd (sI M 69 0 (0 : Int32)) fun M1 =>
      (d_X12_in x1 (0 : Int32) ((mI M1 69 8) - (1 : Int32)) M1).bind fun y1 =>
      if y1.1 = 0 then (
        (d_X12_fails (1 : Int32) y1.2).bind fun y7 =>
        some (y7.1, y7.2))
      else (
        (d_X12_in x2 (0 : Int32) (5 : Int32) y1.2).bind fun y2 =>
        if y2.1 = 0 then (
          (d_X12_fails (2 : Int32) y2.2).bind fun y6 =>
          some (y6.1, y6.2))
        else (
          (d_X12_isFunction x3 y2.2).bind fun y3 =>
          if y3.1 = 0 then (
            (d_X12_fails (3 : Int32) y3.2).bind fun y5 =>
            some (y5.1, y5.2))
          else (
            okk (vp_in x3 8) <|
            if (mI y3.2 70 x3.toNatClampNeg) = (1 : Int32) then (
              okk (vp_in (((6 : Int32) * x1) + x2) 30) <|
              bnd (sI y3.2 77 (((6 : Int32) * x1) + x2).toNatClampNeg x3) fun M2 =>
              d_X12_setMethod_85 fuel ((0 : Int32)) M2)
            else (
              (d_X12_fails (4 : Int32) y3.2).bind fun y4 =>
              some (y4.1, y4.2)))))) := id rfl
theorem bq_X12_setMethod {β : Type} (x1 : Int32) (x2 : Int32) (x3 : Int32) (M : Mem) (f : Int32 × Mem → Option β) : (d_X12_setMethod x1 x2 x3 M).bind f = Option.bind (
      bnd (sI M 69 0 (0 : Int32)) fun M1 =>
      (d_X12_in x1 (0 : Int32) ((mI M1 69 8) - (1 : Int32)) M1).bind fun y1 =>
      if y1.1 = 0 then (
        (d_X12_fails (1 : Int32) y1.2).bind fun y7 =>
        some (y7.1, y7.2))
      else (
        (d_X12_in x2 (0 : Int32) (5 : Int32) y1.2).bind fun y2 =>
        if y2.1 = 0 then (
          (d_X12_fails (2 : Int32) y2.2).bind fun y6 =>
          some (y6.1, y6.2))
        else (
          (d_X12_isFunction x3 y2.2).bind fun y3 =>
          if y3.1 = 0 then (
            (d_X12_fails (3 : Int32) y3.2).bind fun y5 =>
            some (y5.1, y5.2))
          else (
            okk (vp_in x3 8) <|
            if (mI y3.2 70 x3.toNatClampNeg) = (1 : Int32) then (
              okk (vp_in (((6 : Int32) * x1) + x2) 30) <|
              bnd (sI y3.2 77 (((6 : Int32) * x1) + x2).toNatClampNeg x3) fun M2 =>
              d_X12_setMethod_85 fuel ((0 : Int32)) M2)
            else (
              (d_X12_fails (4 : Int32) y3.2).bind fun y4 =>
              some (y4.1, y4.2)))))) f := id rfl
theorem tq_X12_setCell_36 (x1 : Int32) (x2 : Int32) (s0 : Int32) (M : Mem) : d_X12_setCell_36 x1 x2 s0 M = (
      okk (vp_in x1 8) <|
      bnd (sI M 75 x1.toNatClampNeg x2) fun M1 =>
      if s0 = 0 then (
        some ((0 : Int32), M1))
      else (
        (d_X12_throwsWith (107 : Int32) x1 M1).bind fun y1 =>
        some (y1.1, y1.2))) := id rfl
theorem bq_X12_setCell_36 {β : Type} (x1 : Int32) (x2 : Int32) (s0 : Int32) (M : Mem) (f : Int32 × Mem → Option β) : (d_X12_setCell_36 x1 x2 s0 M).bind f = Option.bind (
      okk (vp_in x1 8) <|
      bnd (sI M 75 x1.toNatClampNeg x2) fun M1 =>
      if s0 = 0 then (
        some ((0 : Int32), M1))
      else (
        (d_X12_throwsWith (107 : Int32) x1 M1).bind fun y1 =>
        some (y1.1, y1.2))) f := id rfl
theorem tq_X12_setCell (x1 : Int32) (x2 : Int32) (M : Mem) : d_X12_setCell x1 x2 M = (
      bnd (sI M 69 0 (0 : Int32)) fun M1 =>
      (d_X12_in x1 (0 : Int32) (7 : Int32) M1).bind fun y1 =>
      if y1.1 = 0 then (
        (d_X12_fails (1 : Int32) y1.2).bind fun y2 =>
        some (y2.1, y2.2))
      else (
        okk (vp_in x1 8) <|
        if (mI y1.2 75 x1.toNatClampNeg) = x2 then (
          d_X12_setCell_36 x1 x2 (0 : Int32) y1.2)
        else (
          d_X12_setCell_36 x1 x2 (1 : Int32) y1.2))) := id rfl
theorem bq_X12_setCell {β : Type} (x1 : Int32) (x2 : Int32) (M : Mem) (f : Int32 × Mem → Option β) : (d_X12_setCell x1 x2 M).bind f = Option.bind (
      bnd (sI M 69 0 (0 : Int32)) fun M1 =>
      (d_X12_in x1 (0 : Int32) (7 : Int32) M1).bind fun y1 =>
      if y1.1 = 0 then (
        (d_X12_fails (1 : Int32) y1.2).bind fun y2 =>
        some (y2.1, y2.2))
      else (
        okk (vp_in x1 8) <|
        if (mI y1.2 75 x1.toNatClampNeg) = x2 then (
          d_X12_setCell_36 x1 x2 (0 : Int32) y1.2)
        else (
          d_X12_setCell_36 x1 x2 (1 : Int32) y1.2))) f := id rfl
theorem tq_X12_size_32 (k4 : (Int32 × Int32) → Mem → Option (Int32 × Mem)) (x2 : Int32) (s0 : Int32) (s1 : Int32) (M : Mem) : d_X12_size_32 k4 x2 s0 s1 M = (
      bnd ((s0 + s1)) fun b1 =>
      bnd ((x2 + (1 : Int32))) fun b2 =>
      k4 (b1, b2) M) := id rfl
theorem bq_X12_size_32 {β : Type} (k4 : (Int32 × Int32) → Mem → Option (Int32 × Mem)) (x2 : Int32) (s0 : Int32) (s1 : Int32) (M : Mem) (f : Int32 × Mem → Option β) : (d_X12_size_32 k4 x2 s0 s1 M).bind f = Option.bind (
      bnd ((s0 + s1)) fun b1 =>
      bnd ((x2 + (1 : Int32))) fun b2 =>
      k4 (b1, b2) M) f := id rfl
theorem tq_X12_size_4b (k4 : (Int32 × Int32) → Mem → Option (Int32 × Mem)) (x1 : Int32) (x2 : Int32) (M : Mem) : d_X12_size_4b k4 x1 x2 M = (
      if (mI M 69 26) ≤ x2 then (
        some (x1, M))
      else (
        okk (vp_in x2 20) <|
        if (mI M 89 x2.toNatClampNeg) = 0 then (
          d_X12_size_32 k4 x2 x1 (0 : Int32) M)
        else (
          okk (vp_in x2 20) <|
          d_X12_size_32 k4 x2 x1 (mI M 90 x2.toNatClampNeg) M))) := id rfl
theorem bq_X12_size_4b {β : Type} (k4 : (Int32 × Int32) → Mem → Option (Int32 × Mem)) (x1 : Int32) (x2 : Int32) (M : Mem) (f : Int32 × Mem → Option β) : (d_X12_size_4b k4 x1 x2 M).bind f = Option.bind (
      if (mI M 69 26) ≤ x2 then (
        some (x1, M))
      else (
        okk (vp_in x2 20) <|
        if (mI M 89 x2.toNatClampNeg) = 0 then (
          d_X12_size_32 k4 x2 x1 (0 : Int32) M)
        else (
          okk (vp_in x2 20) <|
          d_X12_size_32 k4 x2 x1 (mI M 90 x2.toNatClampNeg) M))) f := id rfl
theorem tq_X12_size (M : Mem) : d_X12_size M = (
      d_X12_size_4 fuel ((0 : Int32), (0 : Int32)) M) := id rfl
theorem bq_X12_size {β : Type} (M : Mem) (f : Int32 × Mem → Option β) : (d_X12_size M).bind f = Option.bind (
      d_X12_size_4 fuel ((0 : Int32), (0 : Int32)) M) f := id rfl
theorem tq_X12_oldest_73 (k4 : (Int32 × Int32) → Mem → Option (Int32 × Mem)) (x1 : Int32) (x3 : Int32) (s0 : Int32) (M : Mem) : d_X12_oldest_73 k4 x1 x3 s0 M = (
      bnd ((x3 + (1 : Int32))) fun b1 =>
      k4 (s0, b1) M) := id rfl
theorem bq_X12_oldest_73 {β : Type} (k4 : (Int32 × Int32) → Mem → Option (Int32 × Mem)) (x1 : Int32) (x3 : Int32) (s0 : Int32) (M : Mem) (f : Int32 × Mem → Option β) : (d_X12_oldest_73 k4 x1 x3 s0 M).bind f = Option.bind (
      bnd ((x3 + (1 : Int32))) fun b1 =>
      k4 (s0, b1) M) f := id rfl
theorem tq_X12_oldest_72 (k4 : (Int32 × Int32) → Mem → Option (Int32 × Mem)) (x1 : Int32) (x2 : Int32) (x3 : Int32) (M : Mem) : d_X12_oldest_72 k4 x1 x2 x3 M = (
      d_X12_oldest_73 k4 x1 x3 x2 M) := id rfl
theorem bq_X12_oldest_72 {β : Type} (k4 : (Int32 × Int32) → Mem → Option (Int32 × Mem)) (x1 : Int32) (x2 : Int32) (x3 : Int32) (M : Mem) (f : Int32 × Mem → Option β) : (d_X12_oldest_72 k4 x1 x2 x3 M).bind f = Option.bind (
      d_X12_oldest_73 k4 x1 x3 x2 M) f := id rfl
theorem tq_X12_oldest_68 (k4 : (Int32 × Int32) → Mem → Option (Int32 × Mem)) (x1 : Int32) (x3 : Int32) (M : Mem) : d_X12_oldest_68 k4 x1 x3 M = (
      d_X12_oldest_73 k4 x1 x3 x3 M) := id rfl
theorem bq_X12_oldest_68 {β : Type} (k4 : (Int32 × Int32) → Mem → Option (Int32 × Mem)) (x1 : Int32) (x3 : Int32) (M : Mem) (f : Int32 × Mem → Option β) : (d_X12_oldest_68 k4 x1 x3 M).bind f = Option.bind (
      d_X12_oldest_73 k4 x1 x3 x3 M) f := id rfl
theorem tq_X12_oldest_41 (k4 : (Int32 × Int32) → Mem → Option (Int32 × Mem)) (x1 : Int32) (x2 : Int32) (x3 : Int32) (s0 : Int32) (M : Mem) : d_X12_oldest_41 k4 x1 x2 x3 s0 M = (
      if s0 = 0 then (
        d_X12_oldest_72 k4 x1 x2 x3 M)
      else (
        if x2 = (-1 : Int32) then (
          d_X12_oldest_68 k4 x1 x3 M)
        else (
          okk (vp_in x3 20) <|
          okk (vp_in x2 20) <|
          if (mI M 96 x2.toNatClampNeg) ≤ (mI M 96 x3.toNatClampNeg) then (
            d_X12_oldest_72 k4 x1 x2 x3 M)
          else (
            d_X12_oldest_68 k4 x1 x3 M)))) := id rfl
theorem bq_X12_oldest_41 {β : Type} (k4 : (Int32 × Int32) → Mem → Option (Int32 × Mem)) (x1 : Int32) (x2 : Int32) (x3 : Int32) (s0 : Int32) (M : Mem) (f : Int32 × Mem → Option β) : (d_X12_oldest_41 k4 x1 x2 x3 s0 M).bind f = Option.bind (
      if s0 = 0 then (
        d_X12_oldest_72 k4 x1 x2 x3 M)
      else (
        if x2 = (-1 : Int32) then (
          d_X12_oldest_68 k4 x1 x3 M)
        else (
          okk (vp_in x3 20) <|
          okk (vp_in x2 20) <|
          if (mI M 96 x2.toNatClampNeg) ≤ (mI M 96 x3.toNatClampNeg) then (
            d_X12_oldest_72 k4 x1 x2 x3 M)
          else (
            d_X12_oldest_68 k4 x1 x3 M)))) f := id rfl
theorem tq_X12_oldest_40 (k4 : (Int32 × Int32) → Mem → Option (Int32 × Mem)) (x1 : Int32) (x2 : Int32) (x3 : Int32) (M : Mem) : d_X12_oldest_40 k4 x1 x2 x3 M = (
      d_X12_oldest_41 k4 x1 x2 x3 (0 : Int32) M) := id rfl
theorem bq_X12_oldest_40 {β : Type} (k4 : (Int32 × Int32) → Mem → Option (Int32 × Mem)) (x1 : Int32) (x2 : Int32) (x3 : Int32) (M : Mem) (f : Int32 × Mem → Option β) : (d_X12_oldest_40 k4 x1 x2 x3 M).bind f = Option.bind (
      d_X12_oldest_41 k4 x1 x2 x3 (0 : Int32) M) f := id rfl
theorem tq_X12_oldest_4b (k4 : (Int32 × Int32) → Mem → Option (Int32 × Mem)) (x1 : Int32) (x2 : Int32) (x3 : Int32) (M : Mem) : d_X12_oldest_4b k4 x1 x2 x3 M = (
      if (mI M 69 26) ≤ x3 then (
        some (x2, M))
      else (
        okk (vp_in x3 20) <|
        if (mI M 89 x3.toNatClampNeg) = 0 then (
          d_X12_oldest_40 k4 x1 x2 x3 M)
        else (
          okk (vp_in x3 20) <|
          if (mI M 93 x3.toNatClampNeg) = x3 then (
            if x3 = x1 then (
              d_X12_oldest_40 k4 x1 x2 x3 M)
            else (
              d_X12_oldest_41 k4 x1 x2 x3 (1 : Int32) M))
          else (
            d_X12_oldest_40 k4 x1 x2 x3 M)))) := id rfl
theorem bq_X12_oldest_4b {β : Type} (k4 : (Int32 × Int32) → Mem → Option (Int32 × Mem)) (x1 : Int32) (x2 : Int32) (x3 : Int32) (M : Mem) (f : Int32 × Mem → Option β) : (d_X12_oldest_4b k4 x1 x2 x3 M).bind f = Option.bind (
      if (mI M 69 26) ≤ x3 then (
        some (x2, M))
      else (
        okk (vp_in x3 20) <|
        if (mI M 89 x3.toNatClampNeg) = 0 then (
          d_X12_oldest_40 k4 x1 x2 x3 M)
        else (
          okk (vp_in x3 20) <|
          if (mI M 93 x3.toNatClampNeg) = x3 then (
            if x3 = x1 then (
              d_X12_oldest_40 k4 x1 x2 x3 M)
            else (
              d_X12_oldest_41 k4 x1 x2 x3 (1 : Int32) M))
          else (
            d_X12_oldest_40 k4 x1 x2 x3 M)))) f := id rfl
theorem tq_X12_oldest (x1 : Int32) (M : Mem) : d_X12_oldest x1 M = (
      d_X12_oldest_4 x1 fuel ((-1 : Int32), (0 : Int32)) M) := id rfl
theorem bq_X12_oldest {β : Type} (x1 : Int32) (M : Mem) (f : Int32 × Mem → Option β) : (d_X12_oldest x1 M).bind f = Option.bind (
      d_X12_oldest_4 x1 fuel ((-1 : Int32), (0 : Int32)) M) f := id rfl
theorem tq_X12_setLimits_61b (k61 : (Int32) → Mem → Option (Int32 × Mem)) (x4 : Int32) (M : Mem) : d_X12_setLimits_61b k61 x4 M = (
      (d_X12_size M).bind fun y1 =>
      if y1.1 ≤ (mI y1.2 69 25) then (
        some (x4, y1.2))
      else (
        (d_X12_oldest (-1 : Int32) y1.2).bind fun y2 =>
        (d_X12_throwAway y2.1 y2.2).bind fun y3 =>
        bnd ((x4 + (1 : Int32))) fun b1 =>
        k61 (b1) y3.2)) := id rfl
theorem bq_X12_setLimits_61b {β : Type} (k61 : (Int32) → Mem → Option (Int32 × Mem)) (x4 : Int32) (M : Mem) (f : Int32 × Mem → Option β) : (d_X12_setLimits_61b k61 x4 M).bind f = Option.bind (
      (d_X12_size M).bind fun y1 =>
      if y1.1 ≤ (mI y1.2 69 25) then (
        some (x4, y1.2))
      else (
        (d_X12_oldest (-1 : Int32) y1.2).bind fun y2 =>
        (d_X12_throwAway y2.1 y2.2).bind fun y3 =>
        bnd ((x4 + (1 : Int32))) fun b1 =>
        k61 (b1) y3.2)) f := id rfl
theorem tq_X12_setLimits (x1 : Int32) (x2 : Int32) (x3 : Int32) (M : Mem) : d_X12_setLimits x1 x2 x3 M = (
      bnd (sI M 69 0 (0 : Int32)) fun M1 =>
      (d_X12_in x1 (2 : Int32) (50 : Int32) M1).bind fun y1 =>
      if y1.1 = 0 then (
        (d_X12_fails (1 : Int32) y1.2).bind fun y2 =>
        some (y2.1, y2.2))
      else (
        (d_X12_in x2 (1 : Int32) (20 : Int32) y1.2).bind fun y3 =>
        if y3.1 = 0 then (
          (d_X12_fails (1 : Int32) y3.2).bind fun y4 =>
          some (y4.1, y4.2))
        else (
          (d_X12_in x3 (10 : Int32) (200 : Int32) y3.2).bind fun y5 =>
          if y5.1 = 0 then (
            (d_X12_fails (1 : Int32) y5.2).bind fun y6 =>
            some (y6.1, y6.2))
          else (
            bnd (sI y5.2 69 23 x1) fun M2 =>
            bnd (sI M2 69 24 x2) fun M3 =>
            bnd (sI M3 69 25 x3) fun M4 =>
            d_X12_setLimits_61 fuel ((0 : Int32)) M4)))) := id rfl
theorem bq_X12_setLimits {β : Type} (x1 : Int32) (x2 : Int32) (x3 : Int32) (M : Mem) (f : Int32 × Mem → Option β) : (d_X12_setLimits x1 x2 x3 M).bind f = Option.bind (
      bnd (sI M 69 0 (0 : Int32)) fun M1 =>
      (d_X12_in x1 (2 : Int32) (50 : Int32) M1).bind fun y1 =>
      if y1.1 = 0 then (
        (d_X12_fails (1 : Int32) y1.2).bind fun y2 =>
        some (y2.1, y2.2))
      else (
        (d_X12_in x2 (1 : Int32) (20 : Int32) y1.2).bind fun y3 =>
        if y3.1 = 0 then (
          (d_X12_fails (1 : Int32) y3.2).bind fun y4 =>
          some (y4.1, y4.2))
        else (
          (d_X12_in x3 (10 : Int32) (200 : Int32) y3.2).bind fun y5 =>
          if y5.1 = 0 then (
            (d_X12_fails (1 : Int32) y5.2).bind fun y6 =>
            some (y6.1, y6.2))
          else (
            bnd (sI y5.2 69 23 x1) fun M2 =>
            bnd (sI M2 69 24 x2) fun M3 =>
            bnd (sI M3 69 25 x3) fun M4 =>
            d_X12_setLimits_61 fuel ((0 : Int32)) M4)))) f := id rfl
theorem tq_X12_methodOf_2b (k2 : (Int32) → Mem → Option (Int32 × Mem)) (x2 : Int32) (x3 : Int32) (M : Mem) : d_X12_methodOf_2b k2 x2 x3 M = (
      if x3 = (-1 : Int32) then (
        some ((-1 : Int32), M))
      else (
        okk (vp_in (((6 : Int32) * x3) + x2) 30) <|
        if (mI M 77 (((6 : Int32) * x3) + x2).toNatClampNeg) = (-1 : Int32) then (
          okk (vp_in x3 5) <|
          bnd ((mI M 76 x3.toNatClampNeg)) fun b1 =>
          k2 (b1) M)
        else (
          okk (vp_in (((6 : Int32) * x3) + x2) 30) <|
          some ((mI M 77 (((6 : Int32) * x3) + x2).toNatClampNeg), M)))) := id rfl
theorem bq_X12_methodOf_2b {β : Type} (k2 : (Int32) → Mem → Option (Int32 × Mem)) (x2 : Int32) (x3 : Int32) (M : Mem) (f : Int32 × Mem → Option β) : (d_X12_methodOf_2b k2 x2 x3 M).bind f = Option.bind (
      if x3 = (-1 : Int32) then (
        some ((-1 : Int32), M))
      else (
        okk (vp_in (((6 : Int32) * x3) + x2) 30) <|
        if (mI M 77 (((6 : Int32) * x3) + x2).toNatClampNeg) = (-1 : Int32) then (
          okk (vp_in x3 5) <|
          bnd ((mI M 76 x3.toNatClampNeg)) fun b1 =>
          k2 (b1) M)
        else (
          okk (vp_in (((6 : Int32) * x3) + x2) 30) <|
          some ((mI M 77 (((6 : Int32) * x3) + x2).toNatClampNeg), M)))) f := id rfl
theorem tq_X12_methodOf (x1 : Int32) (x2 : Int32) (M : Mem) : d_X12_methodOf x1 x2 M = (
      d_X12_methodOf_2 x2 fuel (x1) M) := id rfl
theorem bq_X12_methodOf {β : Type} (x1 : Int32) (x2 : Int32) (M : Mem) (f : Int32 × Mem → Option β) : (d_X12_methodOf x1 x2 M).bind f = Option.bind (
      d_X12_methodOf_2 x2 fuel (x1) M) f := id rfl
theorem tq_X12_hasField_2b (k2 : (Int32) → Mem → Option (Int32 × Mem)) (x1 : Int32) (x2 : Int32) (x3 : Int32) (M : Mem) : d_X12_hasField_2b k2 x1 x2 x3 M = (
      okk (vp_in x1 60) <|
      if (mI M 80 x1.toNatClampNeg) ≤ x3 then (
        some ((0 : Int32), M))
      else (
        okk (vp_in (((6 : Int32) * x1) + x3) 360) <|
        if (mI M 81 (((6 : Int32) * x1) + x3).toNatClampNeg) = x2 then (
          some ((1 : Int32), M))
        else (
          bnd ((x3 + (1 : Int32))) fun b1 =>
          k2 (b1) M))) := id rfl
theorem bq_X12_hasField_2b {β : Type} (k2 : (Int32) → Mem → Option (Int32 × Mem)) (x1 : Int32) (x2 : Int32) (x3 : Int32) (M : Mem) (f : Int32 × Mem → Option β) : (d_X12_hasField_2b k2 x1 x2 x3 M).bind f = Option.bind (
      okk (vp_in x1 60) <|
      if (mI M 80 x1.toNatClampNeg) ≤ x3 then (
        some ((0 : Int32), M))
      else (
        okk (vp_in (((6 : Int32) * x1) + x3) 360) <|
        if (mI M 81 (((6 : Int32) * x1) + x3).toNatClampNeg) = x2 then (
          some ((1 : Int32), M))
        else (
          bnd ((x3 + (1 : Int32))) fun b1 =>
          k2 (b1) M))) f := id rfl
theorem tq_X12_hasField (x1 : Int32) (x2 : Int32) (M : Mem) : d_X12_hasField x1 x2 M = (
      d_X12_hasField_2 x1 x2 fuel ((0 : Int32)) M) := id rfl
theorem bq_X12_hasField {β : Type} (x1 : Int32) (x2 : Int32) (M : Mem) (f : Int32 × Mem → Option β) : (d_X12_hasField x1 x2 M).bind f = Option.bind (
      d_X12_hasField_2 x1 x2 fuel ((0 : Int32)) M) f := id rfl
theorem tq_X12_shapeBehind_124 (x1 : Int32) (x2 : Int32) (M : Mem) : d_X12_shapeBehind_124 x1 x2 M = (
      okk (vp_in (((6 : Int32) * x1) + x2) 360) <|
      some ((mI M 82 (((6 : Int32) * x1) + x2).toNatClampNeg), M)) := id rfl
theorem bq_X12_shapeBehind_124 {β : Type} (x1 : Int32) (x2 : Int32) (M : Mem) (f : Int32 × Mem → Option β) : (d_X12_shapeBehind_124 x1 x2 M).bind f = Option.bind (
      okk (vp_in (((6 : Int32) * x1) + x2) 360) <|
      some ((mI M 82 (((6 : Int32) * x1) + x2).toNatClampNeg), M)) f := id rfl
theorem tq_X12_shapeBehind_40b (k40 : (Int32) → Mem → Option (Int32 × Mem)) (x1 : Int32) (x2 : Int32) (x3 : Int32) (x4 : Int32) (M : Mem) : d_X12_shapeBehind_40b k40 x1 x2 x3 x4 M = (
      okk (vp_in x1 60) <|
      if (mI M 80 x1.toNatClampNeg) ≤ x4 then (
        okk (vp_in x1 60) <|
        okk (vp_in x3 60) <|
        bnd (sI M 80 x3.toNatClampNeg ((mI M 80 x1.toNatClampNeg) + (1 : Int32))) fun M1 =>
        okk (vp_in x1 60) <|
        okk (vp_in (((6 : Int32) * x3) + (mI M1 80 x1.toNatClampNeg)) 360) <|
        bnd (sI M1 81 (((6 : Int32) * x3) + (mI M1 80 x1.toNatClampNeg)).toNatClampNeg x2) fun M2 =>
        okk (vp_in (((6 : Int32) * x1) + x2) 360) <|
        bnd (sI M2 82 (((6 : Int32) * x1) + x2).toNatClampNeg x3) fun M3 =>
        d_X12_shapeBehind_124 x1 x2 M3)
      else (
        okk (vp_in (((6 : Int32) * x1) + x4) 360) <|
        okk (vp_in (((6 : Int32) * x3) + x4) 360) <|
        bnd (sI M 81 (((6 : Int32) * x3) + x4).toNatClampNeg (mI M 81 (((6 : Int32) * x1) + x4).toNatClampNeg)) fun M4 =>
        bnd ((x4 + (1 : Int32))) fun b1 =>
        k40 (b1) M4)) := id rfl
theorem bq_X12_shapeBehind_40b {β : Type} (k40 : (Int32) → Mem → Option (Int32 × Mem)) (x1 : Int32) (x2 : Int32) (x3 : Int32) (x4 : Int32) (M : Mem) (f : Int32 × Mem → Option β) : (d_X12_shapeBehind_40b k40 x1 x2 x3 x4 M).bind f = Option.bind (
      okk (vp_in x1 60) <|
      if (mI M 80 x1.toNatClampNeg) ≤ x4 then (
        okk (vp_in x1 60) <|
        okk (vp_in x3 60) <|
        bnd (sI M 80 x3.toNatClampNeg ((mI M 80 x1.toNatClampNeg) + (1 : Int32))) fun M1 =>
        okk (vp_in x1 60) <|
        okk (vp_in (((6 : Int32) * x3) + (mI M1 80 x1.toNatClampNeg)) 360) <|
        bnd (sI M1 81 (((6 : Int32) * x3) + (mI M1 80 x1.toNatClampNeg)).toNatClampNeg x2) fun M2 =>
        okk (vp_in (((6 : Int32) * x1) + x2) 360) <|
        bnd (sI M2 82 (((6 : Int32) * x1) + x2).toNatClampNeg x3) fun M3 =>
        d_X12_shapeBehind_124 x1 x2 M3)
      else (
        okk (vp_in (((6 : Int32) * x1) + x4) 360) <|
        okk (vp_in (((6 : Int32) * x3) + x4) 360) <|
        bnd (sI M 81 (((6 : Int32) * x3) + x4).toNatClampNeg (mI M 81 (((6 : Int32) * x1) + x4).toNatClampNeg)) fun M4 =>
        bnd ((x4 + (1 : Int32))) fun b1 =>
        k40 (b1) M4)) f := id rfl
theorem tq_X12_shapeBehind (x1 : Int32) (x2 : Int32) (M : Mem) : d_X12_shapeBehind x1 x2 M = (
      (d_X12_hasField x1 x2 M).bind fun y1 =>
      if y1.1 = 0 then (
        okk (vp_in (((6 : Int32) * x1) + x2) 360) <|
        if (mI y1.2 82 (((6 : Int32) * x1) + x2).toNatClampNeg) = (-1 : Int32) then (
          okk (vp_in x1 60) <|
          (d_X12_newShape (mI y1.2 79 x1.toNatClampNeg) y1.2).bind fun y2 =>
          d_X12_shapeBehind_40 x1 x2 y2.1 fuel ((0 : Int32)) y2.2)
        else (
          d_X12_shapeBehind_124 x1 x2 y1.2))
      else (
        some (x1, y1.2))) := id rfl
theorem bq_X12_shapeBehind {β : Type} (x1 : Int32) (x2 : Int32) (M : Mem) (f : Int32 × Mem → Option β) : (d_X12_shapeBehind x1 x2 M).bind f = Option.bind (
      (d_X12_hasField x1 x2 M).bind fun y1 =>
      if y1.1 = 0 then (
        okk (vp_in (((6 : Int32) * x1) + x2) 360) <|
        if (mI y1.2 82 (((6 : Int32) * x1) + x2).toNatClampNeg) = (-1 : Int32) then (
          okk (vp_in x1 60) <|
          (d_X12_newShape (mI y1.2 79 x1.toNatClampNeg) y1.2).bind fun y2 =>
          d_X12_shapeBehind_40 x1 x2 y2.1 fuel ((0 : Int32)) y2.2)
        else (
          d_X12_shapeBehind_124 x1 x2 y1.2))
      else (
        some (x1, y1.2))) f := id rfl
theorem tq_X12_rootAt_41 (k2 : (Int32) → Mem → Option (Int32 × Mem)) (x1 : Int32) (x2 : Int32) (M : Mem) : d_X12_rootAt_41 k2 x1 x2 M = (
      bnd ((x2 + (1 : Int32))) fun b1 =>
      k2 (b1) M) := id rfl
theorem bq_X12_rootAt_41 {β : Type} (k2 : (Int32) → Mem → Option (Int32 × Mem)) (x1 : Int32) (x2 : Int32) (M : Mem) (f : Int32 × Mem → Option β) : (d_X12_rootAt_41 k2 x1 x2 M).bind f = Option.bind (
      bnd ((x2 + (1 : Int32))) fun b1 =>
      k2 (b1) M) f := id rfl
theorem tq_X12_rootAt_2b (k2 : (Int32) → Mem → Option (Int32 × Mem)) (x1 : Int32) (x2 : Int32) (M : Mem) : d_X12_rootAt_2b k2 x1 x2 M = (
      if (mI M 69 26) ≤ x2 then (
        some ((-1 : Int32), M))
      else (
        okk (vp_in x2 20) <|
        if (mI M 89 x2.toNatClampNeg) = 0 then (
          d_X12_rootAt_41 k2 x1 x2 M)
        else (
          okk (vp_in x2 20) <|
          if (mI M 93 x2.toNatClampNeg) = x2 then (
            okk (vp_in x2 20) <|
            if (mI M 94 x2.toNatClampNeg) = x1 then (
              some (x2, M))
            else (
              d_X12_rootAt_41 k2 x1 x2 M))
          else (
            d_X12_rootAt_41 k2 x1 x2 M)))) := id rfl
theorem bq_X12_rootAt_2b {β : Type} (k2 : (Int32) → Mem → Option (Int32 × Mem)) (x1 : Int32) (x2 : Int32) (M : Mem) (f : Int32 × Mem → Option β) : (d_X12_rootAt_2b k2 x1 x2 M).bind f = Option.bind (
      if (mI M 69 26) ≤ x2 then (
        some ((-1 : Int32), M))
      else (
        okk (vp_in x2 20) <|
        if (mI M 89 x2.toNatClampNeg) = 0 then (
          d_X12_rootAt_41 k2 x1 x2 M)
        else (
          okk (vp_in x2 20) <|
          if (mI M 93 x2.toNatClampNeg) = x2 then (
            okk (vp_in x2 20) <|
            if (mI M 94 x2.toNatClampNeg) = x1 then (
              some (x2, M))
            else (
              d_X12_rootAt_41 k2 x1 x2 M))
          else (
            d_X12_rootAt_41 k2 x1 x2 M)))) f := id rfl
theorem tq_X12_rootAt (x1 : Int32) (M : Mem) : d_X12_rootAt x1 M = (
      d_X12_rootAt_2 x1 fuel ((0 : Int32)) M) := id rfl
theorem bq_X12_rootAt {β : Type} (x1 : Int32) (M : Mem) (f : Int32 × Mem → Option β) : (d_X12_rootAt x1 M).bind f = Option.bind (
      d_X12_rootAt_2 x1 fuel ((0 : Int32)) M) f := id rfl
theorem tq_X12_enters (x1 : Int32) (M : Mem) : d_X12_enters x1 M = (
      bnd (sI M 69 68 x1) fun M1 =>
      bnd (sI M1 69 69 (0 : Int32)) fun M2 =>
      bnd (sI M2 69 70 (mI M2 69 48)) fun M3 =>
      okk (vp_in x1 20) <|
      okk (vp_in x1 20) <|
      bnd (sI M3 95 x1.toNatClampNeg ((mI M3 95 x1.toNatClampNeg) + (1 : Int32))) fun M4 =>
      bnd (sI M4 69 35 ((mI M4 69 35) + (1 : Int32))) fun M5 =>
      okk (vp_in x1 20) <|
      bnd (sI M5 96 x1.toNatClampNeg (mI M5 69 35)) fun M6 =>
      some ((), M6)) := id rfl
theorem bq_X12_enters {β : Type} (x1 : Int32) (M : Mem) (f : Unit × Mem → Option β) : (d_X12_enters x1 M).bind f = Option.bind (
      bnd (sI M 69 68 x1) fun M1 =>
      bnd (sI M1 69 69 (0 : Int32)) fun M2 =>
      bnd (sI M2 69 70 (mI M2 69 48)) fun M3 =>
      okk (vp_in x1 20) <|
      okk (vp_in x1 20) <|
      bnd (sI M3 95 x1.toNatClampNeg ((mI M3 95 x1.toNatClampNeg) + (1 : Int32))) fun M4 =>
      bnd (sI M4 69 35 ((mI M4 69 35) + (1 : Int32))) fun M5 =>
      okk (vp_in x1 20) <|
      bnd (sI M5 96 x1.toNatClampNeg (mI M5 69 35)) fun M6 =>
      some ((), M6)) f := id rfl
theorem tq_X12_top (x1 : Int32) (M : Mem) : d_X12_top x1 M = (
      okk (vp_in (mI M 69 48) 12) <|
      some (((((((14 : Int32) * (mI M 69 48)) + (6 : Int32)) + (mI M 111 (mI M 69 48).toNatClampNeg)) - (1 : Int32)) - x1), M)) := id rfl
theorem bq_X12_top {β : Type} (x1 : Int32) (M : Mem) (f : Int32 × Mem → Option β) : (d_X12_top x1 M).bind f = Option.bind (
      okk (vp_in (mI M 69 48) 12) <|
      some (((((((14 : Int32) * (mI M 69 48)) + (6 : Int32)) + (mI M 111 (mI M 69 48).toNatClampNeg)) - (1 : Int32)) - x1), M)) f := id rfl
theorem tq_X12_isNumber (x0 : Int32) (M : Mem) : d_X12_isNumber x0 M = (
      if x0 = (105 : Int32) then (
        some ((1 : Int32), M))
      else (
        if x0 = (102 : Int32) then (
          some ((1 : Int32), M))
        else (
          some ((0 : Int32), M)))) := id rfl
theorem bq_X12_isNumber {β : Type} (x0 : Int32) (M : Mem) (f : Int32 × Mem → Option β) : (d_X12_isNumber x0 M).bind f = Option.bind (
      if x0 = (105 : Int32) then (
        some ((1 : Int32), M))
      else (
        if x0 = (102 : Int32) then (
          some ((1 : Int32), M))
        else (
          some ((0 : Int32), M)))) f := id rfl
theorem tq_X12_asFloat (x1 : Int32) (M : Mem) : d_X12_asFloat x1 M = (
      okk (vp_in x1 168) <|
      if (mI M 105 x1.toNatClampNeg) = (105 : Int32) then (
        okk (vp_in x1 168) <|
        some ((FP.i2d (mI M 106 x1.toNatClampNeg)), M))
      else (
        okk (vp_in x1 168) <|
        some ((mD M 107 x1.toNatClampNeg), M))) := id rfl
theorem bq_X12_asFloat {β : Type} (x1 : Int32) (M : Mem) (f : UInt64 × Mem → Option β) : (d_X12_asFloat x1 M).bind f = Option.bind (
      okk (vp_in x1 168) <|
      if (mI M 105 x1.toNatClampNeg) = (105 : Int32) then (
        okk (vp_in x1 168) <|
        some ((FP.i2d (mI M 106 x1.toNatClampNeg)), M))
      else (
        okk (vp_in x1 168) <|
        some ((mD M 107 x1.toNatClampNeg), M))) f := id rfl
theorem tq_X12_isNull_31 (x1 : Int32) (M : Mem) : d_X12_isNull_31 x1 M = (
      okk (vp_in x1 168) <|
      if (mI M 105 x1.toNatClampNeg) = (102 : Int32) then (
        okk (vp_in x1 168) <|
        if (Op.cmpValue (FP.dcmp (mD M 107 x1.toNatClampNeg) FP.dconst0) .l) = 0 then (
          some ((1 : Int32), M))
        else (
          some ((0 : Int32), M)))
      else (
        some ((0 : Int32), M))) := id rfl
theorem bq_X12_isNull_31 {β : Type} (x1 : Int32) (M : Mem) (f : Int32 × Mem → Option β) : (d_X12_isNull_31 x1 M).bind f = Option.bind (
      okk (vp_in x1 168) <|
      if (mI M 105 x1.toNatClampNeg) = (102 : Int32) then (
        okk (vp_in x1 168) <|
        if (Op.cmpValue (FP.dcmp (mD M 107 x1.toNatClampNeg) FP.dconst0) .l) = 0 then (
          some ((1 : Int32), M))
        else (
          some ((0 : Int32), M)))
      else (
        some ((0 : Int32), M))) f := id rfl
theorem tq_X12_isNull (x1 : Int32) (M : Mem) : d_X12_isNull x1 M = (
      okk (vp_in x1 168) <|
      if (mI M 105 x1.toNatClampNeg) = (110 : Int32) then (
        some ((1 : Int32), M))
      else (
        okk (vp_in x1 168) <|
        if (mI M 105 x1.toNatClampNeg) = (105 : Int32) then (
          okk (vp_in x1 168) <|
          if (mI M 106 x1.toNatClampNeg) = 0 then (
            some ((1 : Int32), M))
          else (
            d_X12_isNull_31 x1 M))
        else (
          d_X12_isNull_31 x1 M))) := id rfl
theorem bq_X12_isNull {β : Type} (x1 : Int32) (M : Mem) (f : Int32 × Mem → Option β) : (d_X12_isNull x1 M).bind f = Option.bind (
      okk (vp_in x1 168) <|
      if (mI M 105 x1.toNatClampNeg) = (110 : Int32) then (
        some ((1 : Int32), M))
      else (
        okk (vp_in x1 168) <|
        if (mI M 105 x1.toNatClampNeg) = (105 : Int32) then (
          okk (vp_in x1 168) <|
          if (mI M 106 x1.toNatClampNeg) = 0 then (
            some ((1 : Int32), M))
          else (
            d_X12_isNull_31 x1 M))
        else (
          d_X12_isNull_31 x1 M))) f := id rfl
theorem tq_X12_bits_139 (x3 : Int64) (x5 : UInt64) (x7 : Int32) (M : Mem) : d_X12_bits_139 x3 x5 x7 M = (
      if 0 ≤ (Op.cmpValue (FP.dcmp x5 FP.dconst1) .g) then (
        some (((x3 ||| (((x7 + (1023 : Int32)).toInt64) <<< ((52 : Int32).toInt64 &&& 63))) ||| (FP.d2l (FP.dmul (FP.dsub x5 FP.dconst1) (4841369599423283200 : UInt64)))), M))
      else (
        some ((x3 ||| (FP.d2l (FP.dmul x5 (4841369599423283200 : UInt64)))), M))) := id rfl
theorem bq_X12_bits_139 {β : Type} (x3 : Int64) (x5 : UInt64) (x7 : Int32) (M : Mem) (f : Int64 × Mem → Option β) : (d_X12_bits_139 x3 x5 x7 M).bind f = Option.bind (
      if 0 ≤ (Op.cmpValue (FP.dcmp x5 FP.dconst1) .g) then (
        some (((x3 ||| (((x7 + (1023 : Int32)).toInt64) <<< ((52 : Int32).toInt64 &&& 63))) ||| (FP.d2l (FP.dmul (FP.dsub x5 FP.dconst1) (4841369599423283200 : UInt64)))), M))
      else (
        some ((x3 ||| (FP.d2l (FP.dmul x5 (4841369599423283200 : UInt64)))), M))) f := id rfl
theorem tq_X12_bits_110b (k110 : (UInt64 × Int32) → Mem → Option (Int64 × Mem)) (x3 : Int64) (x5 : UInt64) (x7 : Int32) (M : Mem) : d_X12_bits_110b k110 x3 x5 x7 M = (
      if 0 ≤ (Op.cmpValue (FP.dcmp x5 FP.dconst1) .g) then (
        d_X12_bits_139 x3 x5 x7 M)
      else (
        if x7 ≤ (-1022 : Int32) then (
          d_X12_bits_139 x3 x5 x7 M)
        else (
          bnd ((FP.dmul x5 (4611686018427387904 : UInt64))) fun b1 =>
          bnd ((x7 + (-1 : Int32))) fun b2 =>
          k110 (b1, b2) M))) := id rfl
theorem bq_X12_bits_110b {β : Type} (k110 : (UInt64 × Int32) → Mem → Option (Int64 × Mem)) (x3 : Int64) (x5 : UInt64) (x7 : Int32) (M : Mem) (f : Int64 × Mem → Option β) : (d_X12_bits_110b k110 x3 x5 x7 M).bind f = Option.bind (
      if 0 ≤ (Op.cmpValue (FP.dcmp x5 FP.dconst1) .g) then (
        d_X12_bits_139 x3 x5 x7 M)
      else (
        if x7 ≤ (-1022 : Int32) then (
          d_X12_bits_139 x3 x5 x7 M)
        else (
          bnd ((FP.dmul x5 (4611686018427387904 : UInt64))) fun b1 =>
          bnd ((x7 + (-1 : Int32))) fun b2 =>
          k110 (b1, b2) M))) f := id rfl
theorem tq_X12_bits_87b (k87 : (UInt64 × Int32) → Mem → Option (Int64 × Mem)) (x3 : Int64) (x5 : UInt64) (x7 : Int32) (M : Mem) : d_X12_bits_87b k87 x3 x5 x7 M = (
      if (Op.cmpValue (FP.dcmp x5 (4611686018427387904 : UInt64)) .l) < 0 then (
        d_X12_bits_110 x3 fuel (x5, x7) M)
      else (
        bnd ((FP.ddiv x5 (4611686018427387904 : UInt64))) fun b1 =>
        bnd ((x7 + (1 : Int32))) fun b2 =>
        k87 (b1, b2) M)) := id rfl
theorem bq_X12_bits_87b {β : Type} (k87 : (UInt64 × Int32) → Mem → Option (Int64 × Mem)) (x3 : Int64) (x5 : UInt64) (x7 : Int32) (M : Mem) (f : Int64 × Mem → Option β) : (d_X12_bits_87b k87 x3 x5 x7 M).bind f = Option.bind (
      if (Op.cmpValue (FP.dcmp x5 (4611686018427387904 : UInt64)) .l) < 0 then (
        d_X12_bits_110 x3 fuel (x5, x7) M)
      else (
        bnd ((FP.ddiv x5 (4611686018427387904 : UInt64))) fun b1 =>
        bnd ((x7 + (1 : Int32))) fun b2 =>
        k87 (b1, b2) M)) f := id rfl
theorem tq_X12_bits_58 (x3 : Int64) (s0 : UInt64) (M : Mem) : d_X12_bits_58 x3 s0 M = (
      if (Op.cmpValue (FP.dcmp s0 FP.dconst0) .l) = 0 then (
        some (x3, M))
      else (
        if (Op.cmpValue (FP.dcmp s0 (9218868437227405311 : UInt64)) .l) ≤ 0 then (
          d_X12_bits_87 x3 fuel (s0, (0 : Int32)) M)
        else (
          some ((x3 ||| (9218868437227405312 : Int64)), M)))) := id rfl
theorem bq_X12_bits_58 {β : Type} (x3 : Int64) (s0 : UInt64) (M : Mem) (f : Int64 × Mem → Option β) : (d_X12_bits_58 x3 s0 M).bind f = Option.bind (
      if (Op.cmpValue (FP.dcmp s0 FP.dconst0) .l) = 0 then (
        some (x3, M))
      else (
        if (Op.cmpValue (FP.dcmp s0 (9218868437227405311 : UInt64)) .l) ≤ 0 then (
          d_X12_bits_87 x3 fuel (s0, (0 : Int32)) M)
        else (
          some ((x3 ||| (9218868437227405312 : Int64)), M)))) f := id rfl
theorem tq_X12_bits_47 (x0 : UInt64) (x2 : Int32) (s0 : Int64) (M : Mem) : d_X12_bits_47 x0 x2 s0 M = (
      if x2 = 0 then (
        d_X12_bits_58 s0 x0 M)
      else (
        d_X12_bits_58 s0 (FP.dneg x0) M)) := id rfl
theorem bq_X12_bits_47 {β : Type} (x0 : UInt64) (x2 : Int32) (s0 : Int64) (M : Mem) (f : Int64 × Mem → Option β) : (d_X12_bits_47 x0 x2 s0 M).bind f = Option.bind (
      if x2 = 0 then (
        d_X12_bits_58 s0 x0 M)
      else (
        d_X12_bits_58 s0 (FP.dneg x0) M)) f := id rfl
theorem tq_X12_bits_35 (x0 : UInt64) (s0 : Int32) (M : Mem) : d_X12_bits_35 x0 s0 M = (
      if s0 = 0 then (
        d_X12_bits_47 x0 s0 (0 : Int64) M)
      else (
        d_X12_bits_47 x0 s0 (-9223372036854775808 : Int64) M)) := id rfl
theorem bq_X12_bits_35 {β : Type} (x0 : UInt64) (s0 : Int32) (M : Mem) (f : Int64 × Mem → Option β) : (d_X12_bits_35 x0 s0 M).bind f = Option.bind (
      if s0 = 0 then (
        d_X12_bits_47 x0 s0 (0 : Int64) M)
      else (
        d_X12_bits_47 x0 s0 (-9223372036854775808 : Int64) M)) f := id rfl
theorem tq_X12_bits_30 (x0 : UInt64) (M : Mem) : d_X12_bits_30 x0 M = (
      d_X12_bits_35 x0 (1 : Int32) M) := id rfl
theorem bq_X12_bits_30 {β : Type} (x0 : UInt64) (M : Mem) (f : Int64 × Mem → Option β) : (d_X12_bits_30 x0 M).bind f = Option.bind (
      d_X12_bits_35 x0 (1 : Int32) M) f := id rfl
theorem tq_X12_bits_34 (x0 : UInt64) (M : Mem) : d_X12_bits_34 x0 M = (
      d_X12_bits_35 x0 (0 : Int32) M) := id rfl
theorem bq_X12_bits_34 {β : Type} (x0 : UInt64) (M : Mem) (f : Int64 × Mem → Option β) : (d_X12_bits_34 x0 M).bind f = Option.bind (
      d_X12_bits_35 x0 (0 : Int32) M) f := id rfl
theorem tq_X12_bits (x0 : UInt64) (M : Mem) : d_X12_bits x0 M = (
      if (Op.cmpValue (FP.dcmp x0 x0) .l) = 0 then (
        if (Op.cmpValue (FP.dcmp x0 FP.dconst0) .g) < 0 then (
          d_X12_bits_30 x0 M)
        else (
          if (Op.cmpValue (FP.dcmp x0 FP.dconst0) .l) = 0 then (
            if 0 ≤ (Op.cmpValue (FP.dcmp (FP.ddiv FP.dconst1 x0) FP.dconst0) .g) then (
              d_X12_bits_34 x0 M)
            else (
              d_X12_bits_30 x0 M))
          else (
            d_X12_bits_34 x0 M)))
      else (
        some ((9221120237041090560 : Int64), M))) := id rfl
theorem bq_X12_bits {β : Type} (x0 : UInt64) (M : Mem) (f : Int64 × Mem → Option β) : (d_X12_bits x0 M).bind f = Option.bind (
      if (Op.cmpValue (FP.dcmp x0 x0) .l) = 0 then (
        if (Op.cmpValue (FP.dcmp x0 FP.dconst0) .g) < 0 then (
          d_X12_bits_30 x0 M)
        else (
          if (Op.cmpValue (FP.dcmp x0 FP.dconst0) .l) = 0 then (
            if 0 ≤ (Op.cmpValue (FP.dcmp (FP.ddiv FP.dconst1 x0) FP.dconst0) .g) then (
              d_X12_bits_34 x0 M)
            else (
              d_X12_bits_30 x0 M))
          else (
            d_X12_bits_34 x0 M)))
      else (
        some ((9221120237041090560 : Int64), M))) f := id rfl
theorem tq_X12_told (x0 : Int32) (x1 : Int32) (x2 : UInt64) (M : Mem) : d_X12_told x0 x1 x2 M = (
      if x0 = (105 : Int32) then (
        some ((x1.toInt64), M))
      else (
        if x0 = (111 : Int32) then (
          some ((x1.toInt64), M))
        else (
          if x0 = (102 : Int32) then (
            (d_X12_bits x2 M).bind fun y1 =>
            some (y1.1, y1.2))
          else (
            some ((0 : Int64), M))))) := id rfl
theorem bq_X12_told {β : Type} (x0 : Int32) (x1 : Int32) (x2 : UInt64) (M : Mem) (f : Int64 × Mem → Option β) : (d_X12_told x0 x1 x2 M).bind f = Option.bind (
      if x0 = (105 : Int32) then (
        some ((x1.toInt64), M))
      else (
        if x0 = (111 : Int32) then (
          some ((x1.toInt64), M))
        else (
          if x0 = (102 : Int32) then (
            (d_X12_bits x2 M).bind fun y1 =>
            some (y1.1, y1.2))
          else (
            some ((0 : Int64), M))))) f := id rfl
theorem tq_X12_copies (x1 : Int32) (x2 : Int32) (M : Mem) : d_X12_copies x1 x2 M = (
      okk (vp_in x1 168) <|
      okk (vp_in x2 168) <|
      okk (isCh (mI M 105 x1.toNatClampNeg)) <|
      bnd (sI M 105 x2.toNatClampNeg (mI M 105 x1.toNatClampNeg)) fun M1 =>
      okk (vp_in x1 168) <|
      okk (vp_in x2 168) <|
      bnd (sI M1 106 x2.toNatClampNeg (mI M1 106 x1.toNatClampNeg)) fun M2 =>
      okk (vp_in x1 168) <|
      okk (vp_in x2 168) <|
      bnd (sD M2 107 x2.toNatClampNeg (mD M2 107 x1.toNatClampNeg)) fun M3 =>
      okk (vp_in x1 168) <|
      okk (vp_in x2 168) <|
      bnd (sI M3 108 x2.toNatClampNeg (mI M3 108 x1.toNatClampNeg)) fun M4 =>
      some ((), M4)) := id rfl
theorem bq_X12_copies {β : Type} (x1 : Int32) (x2 : Int32) (M : Mem) (f : Unit × Mem → Option β) : (d_X12_copies x1 x2 M).bind f = Option.bind (
      okk (vp_in x1 168) <|
      okk (vp_in x2 168) <|
      okk (isCh (mI M 105 x1.toNatClampNeg)) <|
      bnd (sI M 105 x2.toNatClampNeg (mI M 105 x1.toNatClampNeg)) fun M1 =>
      okk (vp_in x1 168) <|
      okk (vp_in x2 168) <|
      bnd (sI M1 106 x2.toNatClampNeg (mI M1 106 x1.toNatClampNeg)) fun M2 =>
      okk (vp_in x1 168) <|
      okk (vp_in x2 168) <|
      bnd (sD M2 107 x2.toNatClampNeg (mD M2 107 x1.toNatClampNeg)) fun M3 =>
      okk (vp_in x1 168) <|
      okk (vp_in x2 168) <|
      bnd (sI M3 108 x2.toNatClampNeg (mI M3 108 x1.toNatClampNeg)) fun M4 =>
      some ((), M4)) f := id rfl
theorem tq_X12_gives (x1 : Int32) (x2 : Int32) (x3 : UInt64) (M : Mem) : d_X12_gives x1 x2 x3 M = (
      okk (isCh x1) <|
      bnd (sI M 69 88 x1) fun M1 =>
      bnd (sI M1 69 89 x2) fun M2 =>
      bnd (sD M2 69 90 x3) fun M3 =>
      some ((), M3)) := id rfl
theorem bq_X12_gives {β : Type} (x1 : Int32) (x2 : Int32) (x3 : UInt64) (M : Mem) (f : Unit × Mem → Option β) : (d_X12_gives x1 x2 x3 M).bind f = Option.bind (
      okk (isCh x1) <|
      bnd (sI M 69 88 x1) fun M1 =>
      bnd (sI M1 69 89 x2) fun M2 =>
      bnd (sD M2 69 90 x3) fun M3 =>
      some ((), M3)) f := id rfl
theorem tq_X12_pushes (x1 : Int32) (M : Mem) : d_X12_pushes x1 M = (
      okk (vp_in (mI M 69 48) 12) <|
      okk (vp_in (mI M 69 48) 12) <|
      bnd (sI M 111 (mI M 69 48).toNatClampNeg ((mI M 111 (mI M 69 48).toNatClampNeg) + (1 : Int32))) fun M1 =>
      (d_X12_top (0 : Int32) M1).bind fun y1 =>
      okk (vp_in y1.1 168) <|
      okk (isCh (mI y1.2 69 88)) <|
      bnd (sI y1.2 105 y1.1.toNatClampNeg (mI y1.2 69 88)) fun M2 =>
      okk (vp_in y1.1 168) <|
      bnd (sI M2 106 y1.1.toNatClampNeg (mI M2 69 89)) fun M3 =>
      okk (vp_in y1.1 168) <|
      bnd (sD M3 107 y1.1.toNatClampNeg (mD M3 69 90)) fun M4 =>
      okk (vp_in y1.1 168) <|
      bnd (sI M4 108 y1.1.toNatClampNeg x1) fun M5 =>
      some ((), M5)) := id rfl
theorem bq_X12_pushes {β : Type} (x1 : Int32) (M : Mem) (f : Unit × Mem → Option β) : (d_X12_pushes x1 M).bind f = Option.bind (
      okk (vp_in (mI M 69 48) 12) <|
      okk (vp_in (mI M 69 48) 12) <|
      bnd (sI M 111 (mI M 69 48).toNatClampNeg ((mI M 111 (mI M 69 48).toNatClampNeg) + (1 : Int32))) fun M1 =>
      (d_X12_top (0 : Int32) M1).bind fun y1 =>
      okk (vp_in y1.1 168) <|
      okk (isCh (mI y1.2 69 88)) <|
      bnd (sI y1.2 105 y1.1.toNatClampNeg (mI y1.2 69 88)) fun M2 =>
      okk (vp_in y1.1 168) <|
      bnd (sI M2 106 y1.1.toNatClampNeg (mI M2 69 89)) fun M3 =>
      okk (vp_in y1.1 168) <|
      bnd (sD M3 107 y1.1.toNatClampNeg (mD M3 69 90)) fun M4 =>
      okk (vp_in y1.1 168) <|
      bnd (sI M4 108 y1.1.toNatClampNeg x1) fun M5 =>
      some ((), M5)) f := id rfl
theorem tq_X12_givesInteger_28 (x3 : UInt64) (M : Mem) : d_X12_givesInteger_28 x3 M = (
      (d_X12_gives (102 : Int32) (0 : Int32) x3 M).bind fun y1 =>
      some ((), y1.2)) := id rfl
theorem bq_X12_givesInteger_28 {β : Type} (x3 : UInt64) (M : Mem) (f : Unit × Mem → Option β) : (d_X12_givesInteger_28 x3 M).bind f = Option.bind (
      (d_X12_gives (102 : Int32) (0 : Int32) x3 M).bind fun y1 =>
      some ((), y1.2)) f := id rfl
theorem tq_X12_givesInteger (x1 : Int64) (x2 : UInt64) (M : Mem) : d_X12_givesInteger x1 x2 M = (
      if (lg_cmp x1 (-2147483648 : Int64)) < 0 then (
        d_X12_givesInteger_28 x2 M)
      else (
        if 0 < (lg_cmp x1 (2147483647 : Int64)) then (
          d_X12_givesInteger_28 x2 M)
        else (
          (d_X12_gives (105 : Int32) (x1.toInt32) FP.dconst0 M).bind fun y1 =>
          some ((), y1.2)))) := id rfl
theorem bq_X12_givesInteger {β : Type} (x1 : Int64) (x2 : UInt64) (M : Mem) (f : Unit × Mem → Option β) : (d_X12_givesInteger x1 x2 M).bind f = Option.bind (
      if (lg_cmp x1 (-2147483648 : Int64)) < 0 then (
        d_X12_givesInteger_28 x2 M)
      else (
        if 0 < (lg_cmp x1 (2147483647 : Int64)) then (
          d_X12_givesInteger_28 x2 M)
        else (
          (d_X12_gives (105 : Int32) (x1.toInt32) FP.dconst0 M).bind fun y1 =>
          some ((), y1.2)))) f := id rfl
theorem tq_X12_reckons_361 (x1 : Int32) (x4 : UInt64) (x6 : UInt64) (s0 : Int64) (M : Mem) : d_X12_reckons_361 x1 x4 x6 s0 M = (
      if x1 = (43 : Int32) then (
        (d_X12_givesInteger s0 (FP.dadd x4 x6) M).bind fun y4 =>
        some ((), y4.2))
      else (
        if x1 = (45 : Int32) then (
          (d_X12_givesInteger s0 (FP.dsub x4 x6) M).bind fun y3 =>
          some ((), y3.2))
        else (
          if x1 = (42 : Int32) then (
            (d_X12_givesInteger s0 (FP.dmul x4 x6) M).bind fun y2 =>
            some ((), y2.2))
          else (
            (d_X12_givesInteger s0 (FP.ddiv x4 x6) M).bind fun y1 =>
            some ((), y1.2))))) := id rfl
theorem bq_X12_reckons_361 {β : Type} (x1 : Int32) (x4 : UInt64) (x6 : UInt64) (s0 : Int64) (M : Mem) (f : Unit × Mem → Option β) : (d_X12_reckons_361 x1 x4 x6 s0 M).bind f = Option.bind (
      if x1 = (43 : Int32) then (
        (d_X12_givesInteger s0 (FP.dadd x4 x6) M).bind fun y4 =>
        some ((), y4.2))
      else (
        if x1 = (45 : Int32) then (
          (d_X12_givesInteger s0 (FP.dsub x4 x6) M).bind fun y3 =>
          some ((), y3.2))
        else (
          if x1 = (42 : Int32) then (
            (d_X12_givesInteger s0 (FP.dmul x4 x6) M).bind fun y2 =>
            some ((), y2.2))
          else (
            (d_X12_givesInteger s0 (FP.ddiv x4 x6) M).bind fun y1 =>
            some ((), y1.2))))) f := id rfl
theorem tq_X12_reckons_165 (s0 : Int32) (M : Mem) : d_X12_reckons_165 s0 M = (
      if s0 = 0 then (
        (d_X12_gives (105 : Int32) (0 : Int32) FP.dconst0 M).bind fun y1 =>
        some ((), y1.2))
      else (
        (d_X12_gives (105 : Int32) (1 : Int32) FP.dconst0 M).bind fun y2 =>
        some ((), y2.2))) := id rfl
theorem bq_X12_reckons_165 {β : Type} (s0 : Int32) (M : Mem) (f : Unit × Mem → Option β) : (d_X12_reckons_165 s0 M).bind f = Option.bind (
      if s0 = 0 then (
        (d_X12_gives (105 : Int32) (0 : Int32) FP.dconst0 M).bind fun y1 =>
        some ((), y1.2))
      else (
        (d_X12_gives (105 : Int32) (1 : Int32) FP.dconst0 M).bind fun y2 =>
        some ((), y2.2))) f := id rfl
theorem tq_X12_reckons_164 (M : Mem) : d_X12_reckons_164 M = (
      d_X12_reckons_165 (0 : Int32) M) := id rfl
theorem bq_X12_reckons_164 {β : Type} (M : Mem) (f : Unit × Mem → Option β) : (d_X12_reckons_164 M).bind f = Option.bind (
      d_X12_reckons_165 (0 : Int32) M) f := id rfl
theorem tq_X12_reckons_160 (M : Mem) : d_X12_reckons_160 M = (
      d_X12_reckons_165 (1 : Int32) M) := id rfl
theorem bq_X12_reckons_160 {β : Type} (M : Mem) (f : Unit × Mem → Option β) : (d_X12_reckons_160 M).bind f = Option.bind (
      d_X12_reckons_165 (1 : Int32) M) f := id rfl
theorem tq_X12_reckons_96 (x2 : Int32) (x3 : Int32) (x4 : UInt64) (x6 : UInt64) (s0 : Int32) (M : Mem) : d_X12_reckons_96 x2 x3 x4 x6 s0 M = (
      if s0 = 0 then (
        okk (vp_in x2 168) <|
        okk (vp_in x3 168) <|
        if (mI M 105 x2.toNatClampNeg) = (mI M 105 x3.toNatClampNeg) then (
          okk (vp_in x2 168) <|
          if (mI M 105 x2.toNatClampNeg) = (110 : Int32) then (
            d_X12_reckons_160 M)
          else (
            okk (vp_in x2 168) <|
            okk (vp_in x3 168) <|
            if (mI M 106 x2.toNatClampNeg) = (mI M 106 x3.toNatClampNeg) then (
              d_X12_reckons_160 M)
            else (
              d_X12_reckons_164 M)))
        else (
          d_X12_reckons_164 M))
      else (
        if (Op.cmpValue (FP.dcmp x4 x6) .l) = 0 then (
          d_X12_reckons_165 (1 : Int32) M)
        else (
          d_X12_reckons_165 (0 : Int32) M))) := id rfl
theorem bq_X12_reckons_96 {β : Type} (x2 : Int32) (x3 : Int32) (x4 : UInt64) (x6 : UInt64) (s0 : Int32) (M : Mem) (f : Unit × Mem → Option β) : (d_X12_reckons_96 x2 x3 x4 x6 s0 M).bind f = Option.bind (
      if s0 = 0 then (
        okk (vp_in x2 168) <|
        okk (vp_in x3 168) <|
        if (mI M 105 x2.toNatClampNeg) = (mI M 105 x3.toNatClampNeg) then (
          okk (vp_in x2 168) <|
          if (mI M 105 x2.toNatClampNeg) = (110 : Int32) then (
            d_X12_reckons_160 M)
          else (
            okk (vp_in x2 168) <|
            okk (vp_in x3 168) <|
            if (mI M 106 x2.toNatClampNeg) = (mI M 106 x3.toNatClampNeg) then (
              d_X12_reckons_160 M)
            else (
              d_X12_reckons_164 M)))
        else (
          d_X12_reckons_164 M))
      else (
        if (Op.cmpValue (FP.dcmp x4 x6) .l) = 0 then (
          d_X12_reckons_165 (1 : Int32) M)
        else (
          d_X12_reckons_165 (0 : Int32) M))) f := id rfl
theorem tq_X12_reckons_95 (x2 : Int32) (x3 : Int32) (x4 : UInt64) (x6 : UInt64) (M : Mem) : d_X12_reckons_95 x2 x3 x4 x6 M = (
      d_X12_reckons_96 x2 x3 x4 x6 (0 : Int32) M) := id rfl
theorem bq_X12_reckons_95 {β : Type} (x2 : Int32) (x3 : Int32) (x4 : UInt64) (x6 : UInt64) (M : Mem) (f : Unit × Mem → Option β) : (d_X12_reckons_95 x2 x3 x4 x6 M).bind f = Option.bind (
      d_X12_reckons_96 x2 x3 x4 x6 (0 : Int32) M) f := id rfl
theorem tq_X12_reckons_41 (x1 : Int32) (x2 : Int32) (x3 : Int32) (x4 : UInt64) (x6 : UInt64) (s0 : Int32) (M : Mem) : d_X12_reckons_41 x1 x2 x3 x4 x6 s0 M = (
      okk (vp_in x2 168) <|
      bnd (((mI M 106 x2.toNatClampNeg).toInt64)) fun b1 =>
      okk (vp_in x3 168) <|
      bnd (((mI M 106 x3.toNatClampNeg).toInt64)) fun b2 =>
      if x1 = (61 : Int32) then (
        okk (vp_in x2 168) <|
        (d_X12_isNumber (mI M 105 x2.toNatClampNeg) M).bind fun y9 =>
        if y9.1 = 0 then (
          d_X12_reckons_95 x2 x3 x4 x6 y9.2)
        else (
          okk (vp_in x3 168) <|
          (d_X12_isNumber (mI y9.2 105 x3.toNatClampNeg) y9.2).bind fun y10 =>
          if y10.1 = 0 then (
            d_X12_reckons_95 x2 x3 x4 x6 y10.2)
          else (
            d_X12_reckons_96 x2 x3 x4 x6 (1 : Int32) y10.2)))
      else (
        if x1 = (60 : Int32) then (
          if 0 ≤ (Op.cmpValue (FP.dcmp x4 x6) .g) then (
            (d_X12_gives (105 : Int32) (0 : Int32) FP.dconst0 M).bind fun y7 =>
            some ((), y7.2))
          else (
            (d_X12_gives (105 : Int32) (1 : Int32) FP.dconst0 M).bind fun y8 =>
            some ((), y8.2)))
        else (
          if s0 = 0 then (
            if x1 = (43 : Int32) then (
              (d_X12_gives (102 : Int32) (0 : Int32) (FP.dadd x4 x6) M).bind fun y6 =>
              some ((), y6.2))
            else (
              if x1 = (45 : Int32) then (
                (d_X12_gives (102 : Int32) (0 : Int32) (FP.dsub x4 x6) M).bind fun y5 =>
                some ((), y5.2))
              else (
                if x1 = (42 : Int32) then (
                  (d_X12_gives (102 : Int32) (0 : Int32) (FP.dmul x4 x6) M).bind fun y4 =>
                  some ((), y4.2))
                else (
                  if x1 = (47 : Int32) then (
                    (d_X12_gives (102 : Int32) (0 : Int32) (FP.ddiv x4 x6) M).bind fun y3 =>
                    some ((), y3.2))
                  else (
                    (d_X12_gives (102 : Int32) (0 : Int32) (FP.drem x4 x6) M).bind fun y2 =>
                    some ((), y2.2))))))
          else (
            if x1 = (37 : Int32) then (
              okk (¬ b2 = 0) <|
              (d_X12_gives (105 : Int32) ((b1 - b1 / b2 * b2).toInt32) FP.dconst0 M).bind fun y1 =>
              some ((), y1.2))
            else (
              if x1 = (43 : Int32) then (
                d_X12_reckons_361 x1 x4 x6 (b1 + b2) M)
              else (
                if x1 = (45 : Int32) then (
                  d_X12_reckons_361 x1 x4 x6 (b1 - b2) M)
                else (
                  if x1 = (42 : Int32) then (
                    d_X12_reckons_361 x1 x4 x6 (b1 * b2) M)
                  else (
                    okk (¬ b2 = 0) <|
                    d_X12_reckons_361 x1 x4 x6 (b1 / b2) M)))))))) := id rfl
theorem bq_X12_reckons_41 {β : Type} (x1 : Int32) (x2 : Int32) (x3 : Int32) (x4 : UInt64) (x6 : UInt64) (s0 : Int32) (M : Mem) (f : Unit × Mem → Option β) : (d_X12_reckons_41 x1 x2 x3 x4 x6 s0 M).bind f = Option.bind (
      okk (vp_in x2 168) <|
      bnd (((mI M 106 x2.toNatClampNeg).toInt64)) fun b1 =>
      okk (vp_in x3 168) <|
      bnd (((mI M 106 x3.toNatClampNeg).toInt64)) fun b2 =>
      if x1 = (61 : Int32) then (
        okk (vp_in x2 168) <|
        (d_X12_isNumber (mI M 105 x2.toNatClampNeg) M).bind fun y9 =>
        if y9.1 = 0 then (
          d_X12_reckons_95 x2 x3 x4 x6 y9.2)
        else (
          okk (vp_in x3 168) <|
          (d_X12_isNumber (mI y9.2 105 x3.toNatClampNeg) y9.2).bind fun y10 =>
          if y10.1 = 0 then (
            d_X12_reckons_95 x2 x3 x4 x6 y10.2)
          else (
            d_X12_reckons_96 x2 x3 x4 x6 (1 : Int32) y10.2)))
      else (
        if x1 = (60 : Int32) then (
          if 0 ≤ (Op.cmpValue (FP.dcmp x4 x6) .g) then (
            (d_X12_gives (105 : Int32) (0 : Int32) FP.dconst0 M).bind fun y7 =>
            some ((), y7.2))
          else (
            (d_X12_gives (105 : Int32) (1 : Int32) FP.dconst0 M).bind fun y8 =>
            some ((), y8.2)))
        else (
          if s0 = 0 then (
            if x1 = (43 : Int32) then (
              (d_X12_gives (102 : Int32) (0 : Int32) (FP.dadd x4 x6) M).bind fun y6 =>
              some ((), y6.2))
            else (
              if x1 = (45 : Int32) then (
                (d_X12_gives (102 : Int32) (0 : Int32) (FP.dsub x4 x6) M).bind fun y5 =>
                some ((), y5.2))
              else (
                if x1 = (42 : Int32) then (
                  (d_X12_gives (102 : Int32) (0 : Int32) (FP.dmul x4 x6) M).bind fun y4 =>
                  some ((), y4.2))
                else (
                  if x1 = (47 : Int32) then (
                    (d_X12_gives (102 : Int32) (0 : Int32) (FP.ddiv x4 x6) M).bind fun y3 =>
                    some ((), y3.2))
                  else (
                    (d_X12_gives (102 : Int32) (0 : Int32) (FP.drem x4 x6) M).bind fun y2 =>
                    some ((), y2.2))))))
          else (
            if x1 = (37 : Int32) then (
              okk (¬ b2 = 0) <|
              (d_X12_gives (105 : Int32) ((b1 - b1 / b2 * b2).toInt32) FP.dconst0 M).bind fun y1 =>
              some ((), y1.2))
            else (
              if x1 = (43 : Int32) then (
                d_X12_reckons_361 x1 x4 x6 (b1 + b2) M)
              else (
                if x1 = (45 : Int32) then (
                  d_X12_reckons_361 x1 x4 x6 (b1 - b2) M)
                else (
                  if x1 = (42 : Int32) then (
                    d_X12_reckons_361 x1 x4 x6 (b1 * b2) M)
                  else (
                    okk (¬ b2 = 0) <|
                    d_X12_reckons_361 x1 x4 x6 (b1 / b2) M)))))))) f := id rfl
theorem tq_X12_reckons_40 (x1 : Int32) (x2 : Int32) (x3 : Int32) (x4 : UInt64) (x6 : UInt64) (M : Mem) : d_X12_reckons_40 x1 x2 x3 x4 x6 M = (
      d_X12_reckons_41 x1 x2 x3 x4 x6 (0 : Int32) M) := id rfl
theorem bq_X12_reckons_40 {β : Type} (x1 : Int32) (x2 : Int32) (x3 : Int32) (x4 : UInt64) (x6 : UInt64) (M : Mem) (f : Unit × Mem → Option β) : (d_X12_reckons_40 x1 x2 x3 x4 x6 M).bind f = Option.bind (
      d_X12_reckons_41 x1 x2 x3 x4 x6 (0 : Int32) M) f := id rfl
theorem tq_X12_reckons (x1 : Int32) (x2 : Int32) (x3 : Int32) (M : Mem) : d_X12_reckons x1 x2 x3 M = (
      (d_X12_asFloat x2 M).bind fun y1 =>
      (d_X12_asFloat x3 y1.2).bind fun y2 =>
      okk (vp_in x2 168) <|
      if (mI y2.2 105 x2.toNatClampNeg) = (105 : Int32) then (
        okk (vp_in x3 168) <|
        if (mI y2.2 105 x3.toNatClampNeg) = (105 : Int32) then (
          d_X12_reckons_41 x1 x2 x3 y1.1 y2.1 (1 : Int32) y2.2)
        else (
          d_X12_reckons_40 x1 x2 x3 y1.1 y2.1 y2.2))
      else (
        d_X12_reckons_40 x1 x2 x3 y1.1 y2.1 y2.2)) := id rfl
theorem bq_X12_reckons {β : Type} (x1 : Int32) (x2 : Int32) (x3 : Int32) (M : Mem) (f : Unit × Mem → Option β) : (d_X12_reckons x1 x2 x3 M).bind f = Option.bind (
      (d_X12_asFloat x2 M).bind fun y1 =>
      (d_X12_asFloat x3 y1.2).bind fun y2 =>
      okk (vp_in x2 168) <|
      if (mI y2.2 105 x2.toNatClampNeg) = (105 : Int32) then (
        okk (vp_in x3 168) <|
        if (mI y2.2 105 x3.toNatClampNeg) = (105 : Int32) then (
          d_X12_reckons_41 x1 x2 x3 y1.1 y2.1 (1 : Int32) y2.2)
        else (
          d_X12_reckons_40 x1 x2 x3 y1.1 y2.1 y2.2))
      else (
        d_X12_reckons_40 x1 x2 x3 y1.1 y2.1 y2.2)) f := id rfl
theorem tq_X12_newValue (M : Mem) : d_X12_newValue M = (
      okk (vp_in (mI M 69 83) 600) <|
      bnd (sI M 123 (mI M 69 83).toNatClampNeg (0 : Int32)) fun M1 =>
      okk (vp_in (mI M1 69 83) 600) <|
      bnd (sI M1 124 (mI M1 69 83).toNatClampNeg (0 : Int32)) fun M2 =>
      okk (vp_in (mI M2 69 83) 600) <|
      bnd (sI M2 125 (mI M2 69 83).toNatClampNeg (-1 : Int32)) fun M3 =>
      okk (vp_in (mI M3 69 83) 600) <|
      bnd (sI M3 126 (mI M3 69 83).toNatClampNeg (0 : Int32)) fun M4 =>
      bnd (sI M4 69 83 ((mI M4 69 83) + (1 : Int32))) fun M5 =>
      some (((mI M5 69 83) - (1 : Int32)), M5)) := id rfl
theorem bq_X12_newValue {β : Type} (M : Mem) (f : Int32 × Mem → Option β) : (d_X12_newValue M).bind f = Option.bind (
      okk (vp_in (mI M 69 83) 600) <|
      bnd (sI M 123 (mI M 69 83).toNatClampNeg (0 : Int32)) fun M1 =>
      okk (vp_in (mI M1 69 83) 600) <|
      bnd (sI M1 124 (mI M1 69 83).toNatClampNeg (0 : Int32)) fun M2 =>
      okk (vp_in (mI M2 69 83) 600) <|
      bnd (sI M2 125 (mI M2 69 83).toNatClampNeg (-1 : Int32)) fun M3 =>
      okk (vp_in (mI M3 69 83) 600) <|
      bnd (sI M3 126 (mI M3 69 83).toNatClampNeg (0 : Int32)) fun M4 =>
      bnd (sI M4 69 83 ((mI M4 69 83) + (1 : Int32))) fun M5 =>
      some (((mI M5 69 83) - (1 : Int32)), M5)) f := id rfl
theorem tq_X12_valueOf (x1 : Int32) (M : Mem) : d_X12_valueOf x1 M = (
      (d_X12_newValue M).bind fun y1 =>
      okk (vp_in y1.1 600) <|
      okk (isCh x1) <|
      bnd (sI y1.2 123 y1.1.toNatClampNeg x1) fun M1 =>
      some (y1.1, M1)) := id rfl
theorem bq_X12_valueOf {β : Type} (x1 : Int32) (M : Mem) (f : Int32 × Mem → Option β) : (d_X12_valueOf x1 M).bind f = Option.bind (
      (d_X12_newValue M).bind fun y1 =>
      okk (vp_in y1.1 600) <|
      okk (isCh x1) <|
      bnd (sI y1.2 123 y1.1.toNatClampNeg x1) fun M1 =>
      some (y1.1, M1)) f := id rfl
theorem tq_X12_isKindKnown (x1 : Int32) (M : Mem) : d_X12_isKindKnown x1 M = (
      okk (vp_in x1 600) <|
      if (mI M 123 x1.toNatClampNeg) = 0 then (
        some ((0 : Int32), M))
      else (
        some ((1 : Int32), M))) := id rfl
theorem bq_X12_isKindKnown {β : Type} (x1 : Int32) (M : Mem) (f : Int32 × Mem → Option β) : (d_X12_isKindKnown x1 M).bind f = Option.bind (
      okk (vp_in x1 600) <|
      if (mI M 123 x1.toNatClampNeg) = 0 then (
        some ((0 : Int32), M))
      else (
        some ((1 : Int32), M))) f := id rfl
theorem tq_X12_isNullKnown (x1 : Int32) (M : Mem) : d_X12_isNullKnown x1 M = (
      okk (vp_in x1 600) <|
      if (mI M 126 x1.toNatClampNeg) = 0 then (
        okk (vp_in x1 600) <|
        if (mI M 123 x1.toNatClampNeg) = (111 : Int32) then (
          some ((1 : Int32), M))
        else (
          okk (vp_in x1 600) <|
          if (mI M 123 x1.toNatClampNeg) = (110 : Int32) then (
            some ((1 : Int32), M))
          else (
            some ((0 : Int32), M))))
      else (
        some ((1 : Int32), M))) := id rfl
theorem bq_X12_isNullKnown {β : Type} (x1 : Int32) (M : Mem) (f : Int32 × Mem → Option β) : (d_X12_isNullKnown x1 M).bind f = Option.bind (
      okk (vp_in x1 600) <|
      if (mI M 126 x1.toNatClampNeg) = 0 then (
        okk (vp_in x1 600) <|
        if (mI M 123 x1.toNatClampNeg) = (111 : Int32) then (
          some ((1 : Int32), M))
        else (
          okk (vp_in x1 600) <|
          if (mI M 123 x1.toNatClampNeg) = (110 : Int32) then (
            some ((1 : Int32), M))
          else (
            some ((0 : Int32), M))))
      else (
        some ((1 : Int32), M))) f := id rfl
theorem tq_X12_asks (x1 : Int32) (x2 : Int32) (x3 : Int32) (M : Mem) : d_X12_asks x1 x2 x3 M = (
      okk (vp_in (mI M 69 78) 120) <|
      okk (isCh x1) <|
      bnd (sI M 119 (mI M 69 78).toNatClampNeg x1) fun M1 =>
      okk (vp_in (mI M1 69 78) 120) <|
      bnd (sI M1 120 (mI M1 69 78).toNatClampNeg (mI M1 69 76)) fun M2 =>
      okk (vp_in (mI M2 69 78) 120) <|
      bnd (sI M2 121 (mI M2 69 78).toNatClampNeg x2) fun M3 =>
      okk (vp_in (mI M3 69 78) 120) <|
      bnd (sI M3 122 (mI M3 69 78).toNatClampNeg x3) fun M4 =>
      bnd (sI M4 69 78 ((mI M4 69 78) + (1 : Int32))) fun M5 =>
      some ((), M5)) := id rfl
theorem bq_X12_asks {β : Type} (x1 : Int32) (x2 : Int32) (x3 : Int32) (M : Mem) (f : Unit × Mem → Option β) : (d_X12_asks x1 x2 x3 M).bind f = Option.bind (
      okk (vp_in (mI M 69 78) 120) <|
      okk (isCh x1) <|
      bnd (sI M 119 (mI M 69 78).toNatClampNeg x1) fun M1 =>
      okk (vp_in (mI M1 69 78) 120) <|
      bnd (sI M1 120 (mI M1 69 78).toNatClampNeg (mI M1 69 76)) fun M2 =>
      okk (vp_in (mI M2 69 78) 120) <|
      bnd (sI M2 121 (mI M2 69 78).toNatClampNeg x2) fun M3 =>
      okk (vp_in (mI M3 69 78) 120) <|
      bnd (sI M3 122 (mI M3 69 78).toNatClampNeg x3) fun M4 =>
      bnd (sI M4 69 78 ((mI M4 69 78) + (1 : Int32))) fun M5 =>
      some ((), M5)) f := id rfl
theorem tq_X12_asksKind (x1 : Int32) (M : Mem) : d_X12_asksKind x1 M = (
      (d_X12_top x1 M).bind fun y1 =>
      okk (vp_in y1.1 168) <|
      bnd ((mI y1.2 108 y1.1.toNatClampNeg)) fun b1 =>
      (d_X12_isKindKnown b1 y1.2).bind fun y2 =>
      if y2.1 = 0 then (
        (d_X12_top x1 y2.2).bind fun y3 =>
        okk (vp_in y3.1 168) <|
        (d_X12_asks (107 : Int32) x1 (mI y3.2 105 y3.1.toNatClampNeg) y3.2).bind fun y4 =>
        (d_X12_top x1 y4.2).bind fun y5 =>
        okk (vp_in y5.1 168) <|
        okk (vp_in b1 600) <|
        okk (isCh (mI y5.2 105 y5.1.toNatClampNeg)) <|
        bnd (sI y5.2 123 b1.toNatClampNeg (mI y5.2 105 y5.1.toNatClampNeg)) fun M1 =>
        some ((), M1))
      else (
        some ((), y2.2))) := id rfl
theorem bq_X12_asksKind {β : Type} (x1 : Int32) (M : Mem) (f : Unit × Mem → Option β) : (d_X12_asksKind x1 M).bind f = Option.bind (
      (d_X12_top x1 M).bind fun y1 =>
      okk (vp_in y1.1 168) <|
      bnd ((mI y1.2 108 y1.1.toNatClampNeg)) fun b1 =>
      (d_X12_isKindKnown b1 y1.2).bind fun y2 =>
      if y2.1 = 0 then (
        (d_X12_top x1 y2.2).bind fun y3 =>
        okk (vp_in y3.1 168) <|
        (d_X12_asks (107 : Int32) x1 (mI y3.2 105 y3.1.toNatClampNeg) y3.2).bind fun y4 =>
        (d_X12_top x1 y4.2).bind fun y5 =>
        okk (vp_in y5.1 168) <|
        okk (vp_in b1 600) <|
        okk (isCh (mI y5.2 105 y5.1.toNatClampNeg)) <|
        bnd (sI y5.2 123 b1.toNatClampNeg (mI y5.2 105 y5.1.toNatClampNeg)) fun M1 =>
        some ((), M1))
      else (
        some ((), y2.2))) f := id rfl
theorem tq_X12_asksShape (x1 : Int32) (M : Mem) : d_X12_asksShape x1 M = (
      (d_X12_top x1 M).bind fun y1 =>
      okk (vp_in y1.1 168) <|
      bnd ((mI y1.2 108 y1.1.toNatClampNeg)) fun b1 =>
      (d_X12_top x1 y1.2).bind fun y2 =>
      okk (vp_in y2.1 168) <|
      okk (vp_in (mI y2.2 106 y2.1.toNatClampNeg) 60) <|
      bnd ((mI y2.2 112 (mI y2.2 106 y2.1.toNatClampNeg).toNatClampNeg)) fun b2 =>
      okk (vp_in b1 600) <|
      if (mI y2.2 125 b1.toNatClampNeg) = (-1 : Int32) then (
        (d_X12_asks (115 : Int32) x1 b2 y2.2).bind fun y3 =>
        okk (vp_in b1 600) <|
        bnd (sI y3.2 125 b1.toNatClampNeg b2) fun M1 =>
        okk (vp_in b1 600) <|
        bnd (sI M1 123 b1.toNatClampNeg (111 : Int32)) fun M2 =>
        some ((), M2))
      else (
        some ((), y2.2))) := id rfl
theorem bq_X12_asksShape {β : Type} (x1 : Int32) (M : Mem) (f : Unit × Mem → Option β) : (d_X12_asksShape x1 M).bind f = Option.bind (
      (d_X12_top x1 M).bind fun y1 =>
      okk (vp_in y1.1 168) <|
      bnd ((mI y1.2 108 y1.1.toNatClampNeg)) fun b1 =>
      (d_X12_top x1 y1.2).bind fun y2 =>
      okk (vp_in y2.1 168) <|
      okk (vp_in (mI y2.2 106 y2.1.toNatClampNeg) 60) <|
      bnd ((mI y2.2 112 (mI y2.2 106 y2.1.toNatClampNeg).toNatClampNeg)) fun b2 =>
      okk (vp_in b1 600) <|
      if (mI y2.2 125 b1.toNatClampNeg) = (-1 : Int32) then (
        (d_X12_asks (115 : Int32) x1 b2 y2.2).bind fun y3 =>
        okk (vp_in b1 600) <|
        bnd (sI y3.2 125 b1.toNatClampNeg b2) fun M1 =>
        okk (vp_in b1 600) <|
        bnd (sI M1 123 b1.toNatClampNeg (111 : Int32)) fun M2 =>
        some ((), M2))
      else (
        some ((), y2.2))) f := id rfl
theorem tq_X12_guards_304 (M : Mem) : d_X12_guards_304 M = (
      (d_X12_asksShape (0 : Int32) M).bind fun y1 =>
      some ((), y1.2)) := id rfl
theorem bq_X12_guards_304 {β : Type} (M : Mem) (f : Unit × Mem → Option β) : (d_X12_guards_304 M).bind f = Option.bind (
      (d_X12_asksShape (0 : Int32) M).bind fun y1 =>
      some ((), y1.2)) f := id rfl
theorem tq_X12_guards_263 (x2 : Int32) (s1 : Int32) (s2 : Int32) (s3 : Int32) (M : Mem) : d_X12_guards_263 x2 s1 s2 s3 M = (
      (d_X12_asks s1 s2 s3 M).bind fun y1 =>
      (d_X12_top (0 : Int32) y1.2).bind fun y2 =>
      (d_X12_isNull y2.1 y2.2).bind fun y3 =>
      if y3.1 = 0 then (
        okk (vp_in x2 600) <|
        bnd (sI y3.2 126 x2.toNatClampNeg (2 : Int32)) fun M1 =>
        some ((), M1))
      else (
        okk (vp_in x2 600) <|
        bnd (sI y3.2 126 x2.toNatClampNeg (1 : Int32)) fun M2 =>
        some ((), M2))) := id rfl
theorem bq_X12_guards_263 {β : Type} (x2 : Int32) (s1 : Int32) (s2 : Int32) (s3 : Int32) (M : Mem) (f : Unit × Mem → Option β) : (d_X12_guards_263 x2 s1 s2 s3 M).bind f = Option.bind (
      (d_X12_asks s1 s2 s3 M).bind fun y1 =>
      (d_X12_top (0 : Int32) y1.2).bind fun y2 =>
      (d_X12_isNull y2.1 y2.2).bind fun y3 =>
      if y3.1 = 0 then (
        okk (vp_in x2 600) <|
        bnd (sI y3.2 126 x2.toNatClampNeg (2 : Int32)) fun M1 =>
        some ((), M1))
      else (
        okk (vp_in x2 600) <|
        bnd (sI y3.2 126 x2.toNatClampNeg (1 : Int32)) fun M2 =>
        some ((), M2))) f := id rfl
theorem tq_X12_guards_164 (x1 : Int32) (M : Mem) : d_X12_guards_164 x1 M = (
      (d_X12_top (1 : Int32) M).bind fun y1 =>
      (d_X12_top (0 : Int32) y1.2).bind fun y2 =>
      (d_X12_reckons x1 y1.1 y2.1 y2.2).bind fun y3 =>
      if (mI y3.2 69 88) = (105 : Int32) then (
        (d_X12_asks (111 : Int32) (0 : Int32) (1 : Int32) y3.2).bind fun y5 =>
        some ((), y5.2))
      else (
        (d_X12_asks (111 : Int32) (0 : Int32) (0 : Int32) y3.2).bind fun y4 =>
        some ((), y4.2))) := id rfl
theorem bq_X12_guards_164 {β : Type} (x1 : Int32) (M : Mem) (f : Unit × Mem → Option β) : (d_X12_guards_164 x1 M).bind f = Option.bind (
      (d_X12_top (1 : Int32) M).bind fun y1 =>
      (d_X12_top (0 : Int32) y1.2).bind fun y2 =>
      (d_X12_reckons x1 y1.1 y2.1 y2.2).bind fun y3 =>
      if (mI y3.2 69 88) = (105 : Int32) then (
        (d_X12_asks (111 : Int32) (0 : Int32) (1 : Int32) y3.2).bind fun y5 =>
        some ((), y5.2))
      else (
        (d_X12_asks (111 : Int32) (0 : Int32) (0 : Int32) y3.2).bind fun y4 =>
        some ((), y4.2))) f := id rfl
theorem tq_X12_guards_135 (x1 : Int32) (x4 : Int32) (M : Mem) : d_X12_guards_135 x1 x4 M = (
      if x4 = 0 then (
        some ((), M))
      else (
        if x1 = (43 : Int32) then (
          d_X12_guards_164 x1 M)
        else (
          if x1 = (45 : Int32) then (
            d_X12_guards_164 x1 M)
          else (
            if x1 = (42 : Int32) then (
              d_X12_guards_164 x1 M)
            else (
              if x1 = (47 : Int32) then (
                d_X12_guards_164 x1 M)
              else (
                some ((), M))))))) := id rfl
theorem bq_X12_guards_135 {β : Type} (x1 : Int32) (x4 : Int32) (M : Mem) (f : Unit × Mem → Option β) : (d_X12_guards_135 x1 x4 M).bind f = Option.bind (
      if x4 = 0 then (
        some ((), M))
      else (
        if x1 = (43 : Int32) then (
          d_X12_guards_164 x1 M)
        else (
          if x1 = (45 : Int32) then (
            d_X12_guards_164 x1 M)
          else (
            if x1 = (42 : Int32) then (
              d_X12_guards_164 x1 M)
            else (
              if x1 = (47 : Int32) then (
                d_X12_guards_164 x1 M)
              else (
                some ((), M))))))) f := id rfl
theorem tq_X12_guards_112 (x1 : Int32) (x3 : Int32) (x4 : Int32) (M : Mem) : d_X12_guards_112 x1 x3 x4 M = (
      (d_X12_isNullKnown x3 M).bind fun y1 =>
      if y1.1 = 0 then (
        (d_X12_asks (122 : Int32) (0 : Int32) (0 : Int32) y1.2).bind fun y2 =>
        okk (vp_in x3 600) <|
        bnd (sI y2.2 126 x3.toNatClampNeg (2 : Int32)) fun M1 =>
        d_X12_guards_135 x1 x4 M1)
      else (
        d_X12_guards_135 x1 x4 y1.2)) := id rfl
theorem bq_X12_guards_112 {β : Type} (x1 : Int32) (x3 : Int32) (x4 : Int32) (M : Mem) (f : Unit × Mem → Option β) : (d_X12_guards_112 x1 x3 x4 M).bind f = Option.bind (
      (d_X12_isNullKnown x3 M).bind fun y1 =>
      if y1.1 = 0 then (
        (d_X12_asks (122 : Int32) (0 : Int32) (0 : Int32) y1.2).bind fun y2 =>
        okk (vp_in x3 600) <|
        bnd (sI y2.2 126 x3.toNatClampNeg (2 : Int32)) fun M1 =>
        d_X12_guards_135 x1 x4 M1)
      else (
        d_X12_guards_135 x1 x4 y1.2)) f := id rfl
theorem tq_X12_guards_93 (x1 : Int32) (x3 : Int32) (s0 : Int32) (M : Mem) : d_X12_guards_93 x1 x3 s0 M = (
      if s0 = 0 then (
        d_X12_guards_135 x1 s0 M)
      else (
        if x1 = (47 : Int32) then (
          d_X12_guards_112 x1 x3 s0 M)
        else (
          if x1 = (37 : Int32) then (
            d_X12_guards_112 x1 x3 s0 M)
          else (
            d_X12_guards_135 x1 s0 M)))) := id rfl
theorem bq_X12_guards_93 {β : Type} (x1 : Int32) (x3 : Int32) (s0 : Int32) (M : Mem) (f : Unit × Mem → Option β) : (d_X12_guards_93 x1 x3 s0 M).bind f = Option.bind (
      if s0 = 0 then (
        d_X12_guards_135 x1 s0 M)
      else (
        if x1 = (47 : Int32) then (
          d_X12_guards_112 x1 x3 s0 M)
        else (
          if x1 = (37 : Int32) then (
            d_X12_guards_112 x1 x3 s0 M)
          else (
            d_X12_guards_135 x1 s0 M)))) f := id rfl
theorem tq_X12_guards_92 (x1 : Int32) (x3 : Int32) (M : Mem) : d_X12_guards_92 x1 x3 M = (
      d_X12_guards_93 x1 x3 (0 : Int32) M) := id rfl
theorem bq_X12_guards_92 {β : Type} (x1 : Int32) (x3 : Int32) (M : Mem) (f : Unit × Mem → Option β) : (d_X12_guards_92 x1 x3 M).bind f = Option.bind (
      d_X12_guards_93 x1 x3 (0 : Int32) M) f := id rfl
theorem tq_X12_guards_48 (x1 : Int32) (x3 : Int32) (M : Mem) : d_X12_guards_48 x1 x3 M = (
      (d_X12_asksKind (1 : Int32) M).bind fun y1 =>
      (d_X12_asksKind (0 : Int32) y1.2).bind fun y2 =>
      (d_X12_top (1 : Int32) y2.2).bind fun y3 =>
      okk (vp_in y3.1 168) <|
      if (mI y3.2 105 y3.1.toNatClampNeg) = (105 : Int32) then (
        (d_X12_top (0 : Int32) y3.2).bind fun y4 =>
        okk (vp_in y4.1 168) <|
        if (mI y4.2 105 y4.1.toNatClampNeg) = (105 : Int32) then (
          d_X12_guards_93 x1 x3 (1 : Int32) y4.2)
        else (
          d_X12_guards_92 x1 x3 y4.2))
      else (
        d_X12_guards_92 x1 x3 y3.2)) := id rfl
theorem bq_X12_guards_48 {β : Type} (x1 : Int32) (x3 : Int32) (M : Mem) (f : Unit × Mem → Option β) : (d_X12_guards_48 x1 x3 M).bind f = Option.bind (
      (d_X12_asksKind (1 : Int32) M).bind fun y1 =>
      (d_X12_asksKind (0 : Int32) y1.2).bind fun y2 =>
      (d_X12_top (1 : Int32) y2.2).bind fun y3 =>
      okk (vp_in y3.1 168) <|
      if (mI y3.2 105 y3.1.toNatClampNeg) = (105 : Int32) then (
        (d_X12_top (0 : Int32) y3.2).bind fun y4 =>
        okk (vp_in y4.1 168) <|
        if (mI y4.2 105 y4.1.toNatClampNeg) = (105 : Int32) then (
          d_X12_guards_93 x1 x3 (1 : Int32) y4.2)
        else (
          d_X12_guards_92 x1 x3 y4.2))
      else (
        d_X12_guards_92 x1 x3 y3.2)) f := id rfl
theorem tq_X12_guards (x1 : Int32) (M : Mem) : d_X12_guards x1 M = (
      (d_X12_isPair x1 M).bind fun y1 =>
      if y1.1 = 0 then (
        if x1 = (119 : Int32) then (
          (d_X12_asksKind (0 : Int32) y1.2).bind fun y7 =>
          some ((), y7.2))
        else (
          if x1 = (122 : Int32) then (
            (d_X12_top (0 : Int32) y1.2).bind fun y3 =>
            okk (vp_in y3.1 168) <|
            bnd ((mI y3.2 108 y3.1.toNatClampNeg)) fun b1 =>
            (d_X12_isNullKnown b1 y3.2).bind fun y4 =>
            if y4.1 = 0 then (
              (d_X12_top (0 : Int32) y4.2).bind fun y5 =>
              (d_X12_isNull y5.1 y5.2).bind fun y6 =>
              if y6.1 = 0 then (
                d_X12_guards_263 b1 (116 : Int32) (0 : Int32) (0 : Int32) y6.2)
              else (
                d_X12_guards_263 b1 (116 : Int32) (0 : Int32) (1 : Int32) y6.2))
            else (
              some ((), y4.2)))
          else (
            if x1 = (103 : Int32) then (
              d_X12_guards_304 y1.2)
            else (
              if x1 = (109 : Int32) then (
                d_X12_guards_304 y1.2)
              else (
                if x1 = (112 : Int32) then (
                  (d_X12_asksShape (1 : Int32) y1.2).bind fun y2 =>
                  some ((), y2.2))
                else (
                  some ((), y1.2)))))))
      else (
        (d_X12_top (1 : Int32) y1.2).bind fun y8 =>
        okk (vp_in y8.1 168) <|
        bnd ((mI y8.2 108 y8.1.toNatClampNeg)) fun b2 =>
        (d_X12_top (0 : Int32) y8.2).bind fun y9 =>
        okk (vp_in y9.1 168) <|
        bnd ((mI y9.2 108 y9.1.toNatClampNeg)) fun b3 =>
        okk (vp_in b2 600) <|
        if (mI y9.2 124 b2.toNatClampNeg) = 0 then (
          d_X12_guards_48 x1 b3 y9.2)
        else (
          okk (vp_in b3 600) <|
          if (mI y9.2 124 b3.toNatClampNeg) = 0 then (
            d_X12_guards_48 x1 b3 y9.2)
          else (
            some ((), y9.2))))) := id rfl
theorem bq_X12_guards {β : Type} (x1 : Int32) (M : Mem) (f : Unit × Mem → Option β) : (d_X12_guards x1 M).bind f = Option.bind (
      (d_X12_isPair x1 M).bind fun y1 =>
      if y1.1 = 0 then (
        if x1 = (119 : Int32) then (
          (d_X12_asksKind (0 : Int32) y1.2).bind fun y7 =>
          some ((), y7.2))
        else (
          if x1 = (122 : Int32) then (
            (d_X12_top (0 : Int32) y1.2).bind fun y3 =>
            okk (vp_in y3.1 168) <|
            bnd ((mI y3.2 108 y3.1.toNatClampNeg)) fun b1 =>
            (d_X12_isNullKnown b1 y3.2).bind fun y4 =>
            if y4.1 = 0 then (
              (d_X12_top (0 : Int32) y4.2).bind fun y5 =>
              (d_X12_isNull y5.1 y5.2).bind fun y6 =>
              if y6.1 = 0 then (
                d_X12_guards_263 b1 (116 : Int32) (0 : Int32) (0 : Int32) y6.2)
              else (
                d_X12_guards_263 b1 (116 : Int32) (0 : Int32) (1 : Int32) y6.2))
            else (
              some ((), y4.2)))
          else (
            if x1 = (103 : Int32) then (
              d_X12_guards_304 y1.2)
            else (
              if x1 = (109 : Int32) then (
                d_X12_guards_304 y1.2)
              else (
                if x1 = (112 : Int32) then (
                  (d_X12_asksShape (1 : Int32) y1.2).bind fun y2 =>
                  some ((), y2.2))
                else (
                  some ((), y1.2)))))))
      else (
        (d_X12_top (1 : Int32) y1.2).bind fun y8 =>
        okk (vp_in y8.1 168) <|
        bnd ((mI y8.2 108 y8.1.toNatClampNeg)) fun b2 =>
        (d_X12_top (0 : Int32) y8.2).bind fun y9 =>
        okk (vp_in y9.1 168) <|
        bnd ((mI y9.2 108 y9.1.toNatClampNeg)) fun b3 =>
        okk (vp_in b2 600) <|
        if (mI y9.2 124 b2.toNatClampNeg) = 0 then (
          d_X12_guards_48 x1 b3 y9.2)
        else (
          okk (vp_in b3 600) <|
          if (mI y9.2 124 b3.toNatClampNeg) = 0 then (
            d_X12_guards_48 x1 b3 y9.2)
          else (
            some ((), y9.2))))) f := id rfl
theorem tq_X12_holds_187 (x1 : Int32) (s0 : Int32) (M : Mem) : d_X12_holds_187 x1 s0 M = (
      okk (vp_in x1 2400) <|
      if s0 = (mI M 100 x1.toNatClampNeg) then (
        some ((1 : Int32), M))
      else (
        some ((0 : Int32), M))) := id rfl
theorem bq_X12_holds_187 {β : Type} (x1 : Int32) (s0 : Int32) (M : Mem) (f : Int32 × Mem → Option β) : (d_X12_holds_187 x1 s0 M).bind f = Option.bind (
      okk (vp_in x1 2400) <|
      if s0 = (mI M 100 x1.toNatClampNeg) then (
        some ((1 : Int32), M))
      else (
        some ((0 : Int32), M))) f := id rfl
theorem tq_X12_holds_85 (x1 : Int32) (s0 : Int32) (M : Mem) : d_X12_holds_85 x1 s0 M = (
      okk (vp_in x1 2400) <|
      if s0 = (mI M 100 x1.toNatClampNeg) then (
        some ((1 : Int32), M))
      else (
        some ((0 : Int32), M))) := id rfl
theorem bq_X12_holds_85 {β : Type} (x1 : Int32) (s0 : Int32) (M : Mem) (f : Int32 × Mem → Option β) : (d_X12_holds_85 x1 s0 M).bind f = Option.bind (
      okk (vp_in x1 2400) <|
      if s0 = (mI M 100 x1.toNatClampNeg) then (
        some ((1 : Int32), M))
      else (
        some ((0 : Int32), M))) f := id rfl
theorem tq_X12_holds (x1 : Int32) (M : Mem) : d_X12_holds x1 M = (
      okk (vp_in x1 2400) <|
      (d_X12_top (mI M 99 x1.toNatClampNeg) M).bind fun y1 =>
      okk (vp_in x1 2400) <|
      bnd ((mI y1.2 97 x1.toNatClampNeg)) fun b1 =>
      if b1 = (107 : Int32) then (
        okk (vp_in y1.1 168) <|
        okk (vp_in x1 2400) <|
        if (mI y1.2 105 y1.1.toNatClampNeg) = (mI y1.2 100 x1.toNatClampNeg) then (
          some ((1 : Int32), y1.2))
        else (
          some ((0 : Int32), y1.2)))
      else (
        if b1 = (122 : Int32) then (
          okk (vp_in y1.1 168) <|
          if (mI y1.2 106 y1.1.toNatClampNeg) = 0 then (
            some ((0 : Int32), y1.2))
          else (
            some ((1 : Int32), y1.2)))
        else (
          if b1 = (116 : Int32) then (
            (d_X12_isNull y1.1 y1.2).bind fun y5 =>
            if y5.1 = 0 then (
              d_X12_holds_85 x1 (0 : Int32) y5.2)
            else (
              d_X12_holds_85 x1 (1 : Int32) y5.2))
          else (
            if b1 = (115 : Int32) then (
              okk (vp_in y1.1 168) <|
              okk (vp_in (mI y1.2 106 y1.1.toNatClampNeg) 60) <|
              okk (vp_in x1 2400) <|
              if (mI y1.2 112 (mI y1.2 106 y1.1.toNatClampNeg).toNatClampNeg) = (mI y1.2 100 x1.toNatClampNeg) then (
                some ((1 : Int32), y1.2))
              else (
                some ((0 : Int32), y1.2)))
            else (
              okk (vp_in (mI y1.2 69 48) 12) <|
              okk (vp_in (mI y1.2 69 48) 12) <|
              okk (vp_in (((40 : Int32) * (mI y1.2 109 (mI y1.2 69 48).toNatClampNeg)) + (mI y1.2 110 (mI y1.2 69 48).toNatClampNeg)) 320) <|
              (d_X12_top (1 : Int32) y1.2).bind fun y2 =>
              (d_X12_top (0 : Int32) y2.2).bind fun y3 =>
              (d_X12_reckons (mI y1.2 72 (((40 : Int32) * (mI y1.2 109 (mI y1.2 69 48).toNatClampNeg)) + (mI y1.2 110 (mI y1.2 69 48).toNatClampNeg)).toNatClampNeg) y2.1 y3.1 y3.2).bind fun y4 =>
              if (mI y4.2 69 88) = (105 : Int32) then (
                d_X12_holds_187 x1 (1 : Int32) y4.2)
              else (
                d_X12_holds_187 x1 (0 : Int32) y4.2)))))) := id rfl
theorem bq_X12_holds {β : Type} (x1 : Int32) (M : Mem) (f : Int32 × Mem → Option β) : (d_X12_holds x1 M).bind f = Option.bind (
      okk (vp_in x1 2400) <|
      (d_X12_top (mI M 99 x1.toNatClampNeg) M).bind fun y1 =>
      okk (vp_in x1 2400) <|
      bnd ((mI y1.2 97 x1.toNatClampNeg)) fun b1 =>
      if b1 = (107 : Int32) then (
        okk (vp_in y1.1 168) <|
        okk (vp_in x1 2400) <|
        if (mI y1.2 105 y1.1.toNatClampNeg) = (mI y1.2 100 x1.toNatClampNeg) then (
          some ((1 : Int32), y1.2))
        else (
          some ((0 : Int32), y1.2)))
      else (
        if b1 = (122 : Int32) then (
          okk (vp_in y1.1 168) <|
          if (mI y1.2 106 y1.1.toNatClampNeg) = 0 then (
            some ((0 : Int32), y1.2))
          else (
            some ((1 : Int32), y1.2)))
        else (
          if b1 = (116 : Int32) then (
            (d_X12_isNull y1.1 y1.2).bind fun y5 =>
            if y5.1 = 0 then (
              d_X12_holds_85 x1 (0 : Int32) y5.2)
            else (
              d_X12_holds_85 x1 (1 : Int32) y5.2))
          else (
            if b1 = (115 : Int32) then (
              okk (vp_in y1.1 168) <|
              okk (vp_in (mI y1.2 106 y1.1.toNatClampNeg) 60) <|
              okk (vp_in x1 2400) <|
              if (mI y1.2 112 (mI y1.2 106 y1.1.toNatClampNeg).toNatClampNeg) = (mI y1.2 100 x1.toNatClampNeg) then (
                some ((1 : Int32), y1.2))
              else (
                some ((0 : Int32), y1.2)))
            else (
              okk (vp_in (mI y1.2 69 48) 12) <|
              okk (vp_in (mI y1.2 69 48) 12) <|
              okk (vp_in (((40 : Int32) * (mI y1.2 109 (mI y1.2 69 48).toNatClampNeg)) + (mI y1.2 110 (mI y1.2 69 48).toNatClampNeg)) 320) <|
              (d_X12_top (1 : Int32) y1.2).bind fun y2 =>
              (d_X12_top (0 : Int32) y2.2).bind fun y3 =>
              (d_X12_reckons (mI y1.2 72 (((40 : Int32) * (mI y1.2 109 (mI y1.2 69 48).toNatClampNeg)) + (mI y1.2 110 (mI y1.2 69 48).toNatClampNeg)).toNatClampNeg) y2.1 y3.1 y3.2).bind fun y4 =>
              if (mI y4.2 69 88) = (105 : Int32) then (
                d_X12_holds_187 x1 (1 : Int32) y4.2)
              else (
                d_X12_holds_187 x1 (0 : Int32) y4.2)))))) f := id rfl
theorem tq_X12_records_57b (k45 : (Int32) → Mem → Option (Unit × Mem)) (k57 : (Int32) → Mem → Option (Unit × Mem)) (x5 : Int32) (x6 : Int32) (M : Mem) : d_X12_records_57b k45 k57 x5 x6 M = (
      okk (vp_in x5 12) <|
      if ((6 : Int32) + (mI M 111 x5.toNatClampNeg)) ≤ x6 then (
        bnd ((x5 + (1 : Int32))) fun b1 =>
        k45 (b1) M)
      else (
        (d_X12_newValue M).bind fun y1 =>
        okk (vp_in (((14 : Int32) * x5) + x6) 168) <|
        bnd (sI y1.2 108 (((14 : Int32) * x5) + x6).toNatClampNeg y1.1) fun M1 =>
        bnd ((x6 + (1 : Int32))) fun b2 =>
        k57 (b2) M1)) := id rfl
theorem bq_X12_records_57b {β : Type} (k45 : (Int32) → Mem → Option (Unit × Mem)) (k57 : (Int32) → Mem → Option (Unit × Mem)) (x5 : Int32) (x6 : Int32) (M : Mem) (f : Unit × Mem → Option β) : (d_X12_records_57b k45 k57 x5 x6 M).bind f = Option.bind (
      okk (vp_in x5 12) <|
      if ((6 : Int32) + (mI M 111 x5.toNatClampNeg)) ≤ x6 then (
        bnd ((x5 + (1 : Int32))) fun b1 =>
        k45 (b1) M)
      else (
        (d_X12_newValue M).bind fun y1 =>
        okk (vp_in (((14 : Int32) * x5) + x6) 168) <|
        bnd (sI y1.2 108 (((14 : Int32) * x5) + x6).toNatClampNeg y1.1) fun M1 =>
        bnd ((x6 + (1 : Int32))) fun b2 =>
        k57 (b2) M1)) f := id rfl
theorem tq_X12_records_45b (k45 : (Int32) → Mem → Option (Unit × Mem)) (x5 : Int32) (M : Mem) : d_X12_records_45b k45 x5 M = (
      if (mI M 69 48) < x5 then (
        some ((), M))
      else (
        d_X12_records_57 k45 x5 fuel ((0 : Int32)) M)) := id rfl
theorem bq_X12_records_45b {β : Type} (k45 : (Int32) → Mem → Option (Unit × Mem)) (x5 : Int32) (M : Mem) (f : Unit × Mem → Option β) : (d_X12_records_45b k45 x5 M).bind f = Option.bind (
      if (mI M 69 48) < x5 then (
        some ((), M))
      else (
        d_X12_records_57 k45 x5 fuel ((0 : Int32)) M)) f := id rfl
theorem tq_X12_records (x1 : Int32) (x2 : Int32) (x3 : Int32) (x4 : Int32) (M : Mem) : d_X12_records x1 x2 x3 x4 M = (
      bnd (sI M 69 71 (1 : Int32)) fun M1 =>
      bnd (sI M1 69 72 x1) fun M2 =>
      bnd (sI M2 69 73 x2) fun M3 =>
      bnd (sI M3 69 74 x3) fun M4 =>
      bnd (sI M4 69 75 x4) fun M5 =>
      bnd (sI M5 69 76 (0 : Int32)) fun M6 =>
      bnd (sI M6 69 78 (0 : Int32)) fun M7 =>
      bnd (sI M7 69 83 (0 : Int32)) fun M8 =>
      d_X12_records_45 fuel (x4) M8) := id rfl
theorem bq_X12_records {β : Type} (x1 : Int32) (x2 : Int32) (x3 : Int32) (x4 : Int32) (M : Mem) (f : Unit × Mem → Option β) : (d_X12_records x1 x2 x3 x4 M).bind f = Option.bind (
      bnd (sI M 69 71 (1 : Int32)) fun M1 =>
      bnd (sI M1 69 72 x1) fun M2 =>
      bnd (sI M2 69 73 x2) fun M3 =>
      bnd (sI M3 69 74 x3) fun M4 =>
      bnd (sI M4 69 75 x4) fun M5 =>
      bnd (sI M5 69 76 (0 : Int32)) fun M6 =>
      bnd (sI M6 69 78 (0 : Int32)) fun M7 =>
      bnd (sI M7 69 83 (0 : Int32)) fun M8 =>
      d_X12_records_45 fuel (x4) M8) f := id rfl
theorem tq_X12_breaksOff (M : Mem) : d_X12_breaksOff M = (
      if (mI M 69 71) = 0 then (
        some ((), M))
      else (
        bnd (sI M 69 71 (0 : Int32)) fun M1 =>
        if (mI M1 69 73) = (-1 : Int32) then (
          okk (vp_in (mI M1 69 74) 320) <|
          bnd (sI M1 87 (mI M1 69 74).toNatClampNeg (0 : Int32)) fun M4 =>
          okk (vp_in (mI M4 69 74) 320) <|
          okk (vp_in (mI M4 69 74) 320) <|
          bnd (sI M4 88 (mI M4 69 74).toNatClampNeg ((mI M4 88 (mI M4 69 74).toNatClampNeg) + (1 : Int32))) fun M5 =>
          some ((), M5))
        else (
          okk (vp_in (mI M1 69 73) 2400) <|
          bnd (sI M1 102 (mI M1 69 73).toNatClampNeg (0 : Int32)) fun M2 =>
          okk (vp_in (mI M2 69 73) 2400) <|
          okk (vp_in (mI M2 69 73) 2400) <|
          bnd (sI M2 103 (mI M2 69 73).toNatClampNeg ((mI M2 103 (mI M2 69 73).toNatClampNeg) + (1 : Int32))) fun M3 =>
          some ((), M3)))) := id rfl
theorem bq_X12_breaksOff {β : Type} (M : Mem) (f : Unit × Mem → Option β) : (d_X12_breaksOff M).bind f = Option.bind (
      if (mI M 69 71) = 0 then (
        some ((), M))
      else (
        bnd (sI M 69 71 (0 : Int32)) fun M1 =>
        if (mI M1 69 73) = (-1 : Int32) then (
          okk (vp_in (mI M1 69 74) 320) <|
          bnd (sI M1 87 (mI M1 69 74).toNatClampNeg (0 : Int32)) fun M4 =>
          okk (vp_in (mI M4 69 74) 320) <|
          okk (vp_in (mI M4 69 74) 320) <|
          bnd (sI M4 88 (mI M4 69 74).toNatClampNeg ((mI M4 88 (mI M4 69 74).toNatClampNeg) + (1 : Int32))) fun M5 =>
          some ((), M5))
        else (
          okk (vp_in (mI M1 69 73) 2400) <|
          bnd (sI M1 102 (mI M1 69 73).toNatClampNeg (0 : Int32)) fun M2 =>
          okk (vp_in (mI M2 69 73) 2400) <|
          okk (vp_in (mI M2 69 73) 2400) <|
          bnd (sI M2 103 (mI M2 69 73).toNatClampNeg ((mI M2 103 (mI M2 69 73).toNatClampNeg) + (1 : Int32))) fun M3 =>
          some ((), M3)))) f := id rfl
theorem tq_X12_ends_290 (x2 : Int32) (M : Mem) : d_X12_ends_290 x2 M = (
      okk (vp_in x2 20) <|
      (d_X12_enters (mI M 93 x2.toNatClampNeg) M).bind fun y1 =>
      some ((), y1.2)) := id rfl
theorem bq_X12_ends_290 {β : Type} (x2 : Int32) (M : Mem) (f : Unit × Mem → Option β) : (d_X12_ends_290 x2 M).bind f = Option.bind (
      okk (vp_in x2 20) <|
      (d_X12_enters (mI M 93 x2.toNatClampNeg) M).bind fun y1 =>
      some ((), y1.2)) f := id rfl
theorem tq_X12_ends_190b (k190 : (Int32) → Mem → Option (Unit × Mem)) (x2 : Int32) (x3 : Int32) (M : Mem) : d_X12_ends_190b k190 x2 x3 M = (
      if (mI M 69 78) ≤ x3 then (
        if (mI M 69 73) = (-1 : Int32) then (
          d_X12_ends_290 x2 M)
        else (
          okk (vp_in (mI M 69 73) 2400) <|
          bnd (sI M 104 (mI M 69 73).toNatClampNeg x2) fun M1 =>
          d_X12_ends_290 x2 M1))
      else (
        bnd ((((120 : Int32) * x2) + x3)) fun b1 =>
        okk (vp_in x3 120) <|
        okk (vp_in b1 2400) <|
        okk (isCh (mI M 119 x3.toNatClampNeg)) <|
        bnd (sI M 97 b1.toNatClampNeg (mI M 119 x3.toNatClampNeg)) fun M2 =>
        okk (vp_in x3 120) <|
        okk (vp_in b1 2400) <|
        bnd (sI M2 98 b1.toNatClampNeg (mI M2 120 x3.toNatClampNeg)) fun M3 =>
        okk (vp_in x3 120) <|
        okk (vp_in b1 2400) <|
        bnd (sI M3 99 b1.toNatClampNeg (mI M3 121 x3.toNatClampNeg)) fun M4 =>
        okk (vp_in x3 120) <|
        okk (vp_in b1 2400) <|
        bnd (sI M4 100 b1.toNatClampNeg (mI M4 122 x3.toNatClampNeg)) fun M5 =>
        okk (vp_in b1 2400) <|
        bnd (sI M5 104 b1.toNatClampNeg (-1 : Int32)) fun M6 =>
        bnd ((x3 + (1 : Int32))) fun b2 =>
        k190 (b2) M6)) := id rfl
theorem bq_X12_ends_190b {β : Type} (k190 : (Int32) → Mem → Option (Unit × Mem)) (x2 : Int32) (x3 : Int32) (M : Mem) (f : Unit × Mem → Option β) : (d_X12_ends_190b k190 x2 x3 M).bind f = Option.bind (
      if (mI M 69 78) ≤ x3 then (
        if (mI M 69 73) = (-1 : Int32) then (
          d_X12_ends_290 x2 M)
        else (
          okk (vp_in (mI M 69 73) 2400) <|
          bnd (sI M 104 (mI M 69 73).toNatClampNeg x2) fun M1 =>
          d_X12_ends_290 x2 M1))
      else (
        bnd ((((120 : Int32) * x2) + x3)) fun b1 =>
        okk (vp_in x3 120) <|
        okk (vp_in b1 2400) <|
        okk (isCh (mI M 119 x3.toNatClampNeg)) <|
        bnd (sI M 97 b1.toNatClampNeg (mI M 119 x3.toNatClampNeg)) fun M2 =>
        okk (vp_in x3 120) <|
        okk (vp_in b1 2400) <|
        bnd (sI M2 98 b1.toNatClampNeg (mI M2 120 x3.toNatClampNeg)) fun M3 =>
        okk (vp_in x3 120) <|
        okk (vp_in b1 2400) <|
        bnd (sI M3 99 b1.toNatClampNeg (mI M3 121 x3.toNatClampNeg)) fun M4 =>
        okk (vp_in x3 120) <|
        okk (vp_in b1 2400) <|
        bnd (sI M4 100 b1.toNatClampNeg (mI M4 122 x3.toNatClampNeg)) fun M5 =>
        okk (vp_in b1 2400) <|
        bnd (sI M5 104 b1.toNatClampNeg (-1 : Int32)) fun M6 =>
        bnd ((x3 + (1 : Int32))) fun b2 =>
        k190 (b2) M6)) f := id rfl
theorem tq_X12_ends_157b (k157 : (Int32) → Mem → Option (Unit × Mem)) (x2 : Int32) (x3 : Int32) (M : Mem) : d_X12_ends_157b k157 x2 x3 M = (
      if (mI M 69 76) ≤ x3 then (
        d_X12_ends_190 x2 fuel ((0 : Int32)) M)
      else (
        okk (vp_in x3 30) <|
        okk (vp_in (((30 : Int32) * x2) + x3) 600) <|
        bnd (sI M 91 (((30 : Int32) * x2) + x3).toNatClampNeg (mI M 118 x3.toNatClampNeg)) fun M1 =>
        bnd ((x3 + (1 : Int32))) fun b1 =>
        k157 (b1) M1)) := id rfl
theorem bq_X12_ends_157b {β : Type} (k157 : (Int32) → Mem → Option (Unit × Mem)) (x2 : Int32) (x3 : Int32) (M : Mem) (f : Unit × Mem → Option β) : (d_X12_ends_157b k157 x2 x3 M).bind f = Option.bind (
      if (mI M 69 76) ≤ x3 then (
        d_X12_ends_190 x2 fuel ((0 : Int32)) M)
      else (
        okk (vp_in x3 30) <|
        okk (vp_in (((30 : Int32) * x2) + x3) 600) <|
        bnd (sI M 91 (((30 : Int32) * x2) + x3).toNatClampNeg (mI M 118 x3.toNatClampNeg)) fun M1 =>
        bnd ((x3 + (1 : Int32))) fun b1 =>
        k157 (b1) M1)) f := id rfl
theorem tq_X12_ends_144 (x2 : Int32) (s1 : Int32) (s2 : Int32) (M : Mem) : d_X12_ends_144 x2 s1 s2 M = (
      okk (vp_in s1 20) <|
      bnd (sI M 93 s1.toNatClampNeg s2) fun M1 =>
      okk (vp_in x2 20) <|
      bnd (sI M1 94 x2.toNatClampNeg (mI M1 69 74)) fun M2 =>
      d_X12_ends_157 x2 fuel ((0 : Int32)) M2) := id rfl
theorem bq_X12_ends_144 {β : Type} (x2 : Int32) (s1 : Int32) (s2 : Int32) (M : Mem) (f : Unit × Mem → Option β) : (d_X12_ends_144 x2 s1 s2 M).bind f = Option.bind (
      okk (vp_in s1 20) <|
      bnd (sI M 93 s1.toNatClampNeg s2) fun M1 =>
      okk (vp_in x2 20) <|
      bnd (sI M1 94 x2.toNatClampNeg (mI M1 69 74)) fun M2 =>
      d_X12_ends_157 x2 fuel ((0 : Int32)) M2) f := id rfl
theorem tq_X12_ends_67 (x1 : Int32) (M : Mem) : d_X12_ends_67 x1 M = (
      if x1 = 0 then (
        (d_X12_breaksOff M).bind fun y1 =>
        some ((), y1.2))
      else (
        bnd ((mI M 69 26)) fun b1 =>
        bnd (sI M 69 71 (0 : Int32)) fun M1 =>
        bnd (sI M1 69 26 ((mI M1 69 26) + (1 : Int32))) fun M2 =>
        okk (vp_in b1 20) <|
        bnd (sI M2 89 b1.toNatClampNeg (1 : Int32)) fun M3 =>
        okk (vp_in b1 20) <|
        bnd (sI M3 90 b1.toNatClampNeg (mI M3 69 76)) fun M4 =>
        okk (vp_in b1 20) <|
        bnd (sI M4 92 b1.toNatClampNeg (mI M4 69 78)) fun M5 =>
        if (mI M5 69 72) = (-1 : Int32) then (
          d_X12_ends_144 b1 b1 b1 M5)
        else (
          d_X12_ends_144 b1 b1 (mI M5 69 72) M5))) := id rfl
theorem bq_X12_ends_67 {β : Type} (x1 : Int32) (M : Mem) (f : Unit × Mem → Option β) : (d_X12_ends_67 x1 M).bind f = Option.bind (
      if x1 = 0 then (
        (d_X12_breaksOff M).bind fun y1 =>
        some ((), y1.2))
      else (
        bnd ((mI M 69 26)) fun b1 =>
        bnd (sI M 69 71 (0 : Int32)) fun M1 =>
        bnd (sI M1 69 26 ((mI M1 69 26) + (1 : Int32))) fun M2 =>
        okk (vp_in b1 20) <|
        bnd (sI M2 89 b1.toNatClampNeg (1 : Int32)) fun M3 =>
        okk (vp_in b1 20) <|
        bnd (sI M3 90 b1.toNatClampNeg (mI M3 69 76)) fun M4 =>
        okk (vp_in b1 20) <|
        bnd (sI M4 92 b1.toNatClampNeg (mI M4 69 78)) fun M5 =>
        if (mI M5 69 72) = (-1 : Int32) then (
          d_X12_ends_144 b1 b1 b1 M5)
        else (
          d_X12_ends_144 b1 b1 (mI M5 69 72) M5))) f := id rfl
theorem tq_X12_ends_64 (k15 : (Int32) → Mem → Option (Unit × Mem)) (x1 : Int32) (M : Mem) : d_X12_ends_64 k15 x1 M = (
      k15 (x1) M) := id rfl
theorem bq_X12_ends_64 {β : Type} (k15 : (Int32) → Mem → Option (Unit × Mem)) (x1 : Int32) (M : Mem) (f : Unit × Mem → Option β) : (d_X12_ends_64 k15 x1 M).bind f = Option.bind (
      k15 (x1) M) f := id rfl
theorem tq_X12_ends_54 (k15 : (Int32) → Mem → Option (Unit × Mem)) (x2 : Int32) (s0 : Int32) (M : Mem) : d_X12_ends_54 k15 x2 s0 M = (
      if s0 = 0 then (
        d_X12_ends_64 k15 s0 M)
      else (
        (d_X12_throwAway x2 M).bind fun y1 =>
        d_X12_ends_64 k15 s0 y1.2)) := id rfl
theorem bq_X12_ends_54 {β : Type} (k15 : (Int32) → Mem → Option (Unit × Mem)) (x2 : Int32) (s0 : Int32) (M : Mem) (f : Unit × Mem → Option β) : (d_X12_ends_54 k15 x2 s0 M).bind f = Option.bind (
      if s0 = 0 then (
        d_X12_ends_64 k15 s0 M)
      else (
        (d_X12_throwAway x2 M).bind fun y1 =>
        d_X12_ends_64 k15 s0 y1.2)) f := id rfl
theorem tq_X12_ends_15b (k15 : (Int32) → Mem → Option (Unit × Mem)) (x1 : Int32) (M : Mem) : d_X12_ends_15b k15 x1 M = (
      if x1 = 0 then (
        d_X12_ends_67 x1 M)
      else (
        (d_X12_size M).bind fun y1 =>
        if (y1.1 + (mI y1.2 69 76)) ≤ (mI y1.2 69 25) then (
          d_X12_ends_67 x1 y1.2)
        else (
          (d_X12_oldest (mI y1.2 69 72) y1.2).bind fun y2 =>
          if y2.1 = (-1 : Int32) then (
            d_X12_ends_54 k15 y2.1 (0 : Int32) y2.2)
          else (
            d_X12_ends_54 k15 y2.1 (1 : Int32) y2.2)))) := id rfl
theorem bq_X12_ends_15b {β : Type} (k15 : (Int32) → Mem → Option (Unit × Mem)) (x1 : Int32) (M : Mem) (f : Unit × Mem → Option β) : (d_X12_ends_15b k15 x1 M).bind f = Option.bind (
      if x1 = 0 then (
        d_X12_ends_67 x1 M)
      else (
        (d_X12_size M).bind fun y1 =>
        if (y1.1 + (mI y1.2 69 76)) ≤ (mI y1.2 69 25) then (
          d_X12_ends_67 x1 y1.2)
        else (
          (d_X12_oldest (mI y1.2 69 72) y1.2).bind fun y2 =>
          if y2.1 = (-1 : Int32) then (
            d_X12_ends_54 k15 y2.1 (0 : Int32) y2.2)
          else (
            d_X12_ends_54 k15 y2.1 (1 : Int32) y2.2)))) f := id rfl
theorem tq_X12_ends_14 (s0 : Int32) (M : Mem) : d_X12_ends_14 s0 M = (
      d_X12_ends_15 fuel (s0) M) := id rfl
theorem bq_X12_ends_14 {β : Type} (s0 : Int32) (M : Mem) (f : Unit × Mem → Option β) : (d_X12_ends_14 s0 M).bind f = Option.bind (
      d_X12_ends_15 fuel (s0) M) f := id rfl
theorem tq_X12_ends (M : Mem) : d_X12_ends M = (
      if (20 : Int32) ≤ (mI M 69 26) then (
        d_X12_ends_14 (0 : Int32) M)
      else (
        d_X12_ends_14 (1 : Int32) M)) := id rfl
theorem bq_X12_ends {β : Type} (M : Mem) (f : Unit × Mem → Option β) : (d_X12_ends M).bind f = Option.bind (
      if (20 : Int32) ≤ (mI M 69 26) then (
        d_X12_ends_14 (0 : Int32) M)
      else (
        d_X12_ends_14 (1 : Int32) M)) f := id rfl
theorem tq_X12_takes_87 (s0 : Int32) (M : Mem) : d_X12_takes_87 s0 M = (
      if s0 = 0 then (
        some ((0 : Int32), M))
      else (
        some ((1 : Int32), M))) := id rfl
theorem bq_X12_takes_87 {β : Type} (s0 : Int32) (M : Mem) (f : Int32 × Mem → Option β) : (d_X12_takes_87 s0 M).bind f = Option.bind (
      if s0 = 0 then (
        some ((0 : Int32), M))
      else (
        some ((1 : Int32), M))) f := id rfl
theorem tq_X12_takes_82 (M : Mem) : d_X12_takes_82 M = (
      d_X12_takes_87 (1 : Int32) M) := id rfl
theorem bq_X12_takes_82 {β : Type} (M : Mem) (f : Int32 × Mem → Option β) : (d_X12_takes_82 M).bind f = Option.bind (
      d_X12_takes_87 (1 : Int32) M) f := id rfl
theorem tq_X12_takes (x1 : Int32) (x2 : Int32) (M : Mem) : d_X12_takes x1 x2 M = (
      (d_X12_isPair x1 M).bind fun y1 =>
      if y1.1 = 0 then (
        if x1 = (112 : Int32) then (
          some ((2 : Int32), y1.2))
        else (
          if x1 = (99 : Int32) then (
            okk (vp_in x2 8) <|
            some ((mI y1.2 70 x2.toNatClampNeg), y1.2))
          else (
            if x1 = (115 : Int32) then (
              d_X12_takes_82 y1.2)
            else (
              if x1 = (117 : Int32) then (
                d_X12_takes_82 y1.2)
              else (
                if x1 = (100 : Int32) then (
                  d_X12_takes_82 y1.2)
                else (
                  if x1 = (119 : Int32) then (
                    d_X12_takes_82 y1.2)
                  else (
                    if x1 = (122 : Int32) then (
                      d_X12_takes_82 y1.2)
                    else (
                      if x1 = (103 : Int32) then (
                        d_X12_takes_82 y1.2)
                      else (
                        if x1 = (109 : Int32) then (
                          d_X12_takes_82 y1.2)
                        else (
                          if x1 = (114 : Int32) then (
                            d_X12_takes_82 y1.2)
                          else (
                            if x1 = (116 : Int32) then (
                              d_X12_takes_82 y1.2)
                            else (
                              d_X12_takes_87 (0 : Int32) y1.2))))))))))))
      else (
        some ((2 : Int32), y1.2))) := id rfl
theorem bq_X12_takes {β : Type} (x1 : Int32) (x2 : Int32) (M : Mem) (f : Int32 × Mem → Option β) : (d_X12_takes x1 x2 M).bind f = Option.bind (
      (d_X12_isPair x1 M).bind fun y1 =>
      if y1.1 = 0 then (
        if x1 = (112 : Int32) then (
          some ((2 : Int32), y1.2))
        else (
          if x1 = (99 : Int32) then (
            okk (vp_in x2 8) <|
            some ((mI y1.2 70 x2.toNatClampNeg), y1.2))
          else (
            if x1 = (115 : Int32) then (
              d_X12_takes_82 y1.2)
            else (
              if x1 = (117 : Int32) then (
                d_X12_takes_82 y1.2)
              else (
                if x1 = (100 : Int32) then (
                  d_X12_takes_82 y1.2)
                else (
                  if x1 = (119 : Int32) then (
                    d_X12_takes_82 y1.2)
                  else (
                    if x1 = (122 : Int32) then (
                      d_X12_takes_82 y1.2)
                    else (
                      if x1 = (103 : Int32) then (
                        d_X12_takes_82 y1.2)
                      else (
                        if x1 = (109 : Int32) then (
                          d_X12_takes_82 y1.2)
                        else (
                          if x1 = (114 : Int32) then (
                            d_X12_takes_82 y1.2)
                          else (
                            if x1 = (116 : Int32) then (
                              d_X12_takes_82 y1.2)
                            else (
                              d_X12_takes_87 (0 : Int32) y1.2))))))))))))
      else (
        some ((2 : Int32), y1.2))) f := id rfl
theorem tq_X12_hasNoRoom_70 (s0 : Int32) (M : Mem) : d_X12_hasNoRoom_70 s0 M = (
      if s0 = 0 then (
        some ((0 : Int32), M))
      else (
        okk (vp_in (mI M 69 48) 12) <|
        if (mI M 111 (mI M 69 48).toNatClampNeg) = (8 : Int32) then (
          some ((1 : Int32), M))
        else (
          some ((0 : Int32), M)))) := id rfl
theorem bq_X12_hasNoRoom_70 {β : Type} (s0 : Int32) (M : Mem) (f : Int32 × Mem → Option β) : (d_X12_hasNoRoom_70 s0 M).bind f = Option.bind (
      if s0 = 0 then (
        some ((0 : Int32), M))
      else (
        okk (vp_in (mI M 69 48) 12) <|
        if (mI M 111 (mI M 69 48).toNatClampNeg) = (8 : Int32) then (
          some ((1 : Int32), M))
        else (
          some ((0 : Int32), M)))) f := id rfl
theorem tq_X12_hasNoRoom_65 (M : Mem) : d_X12_hasNoRoom_65 M = (
      d_X12_hasNoRoom_70 (1 : Int32) M) := id rfl
theorem bq_X12_hasNoRoom_65 {β : Type} (M : Mem) (f : Int32 × Mem → Option β) : (d_X12_hasNoRoom_65 M).bind f = Option.bind (
      d_X12_hasNoRoom_70 (1 : Int32) M) f := id rfl
theorem tq_X12_hasNoRoom (x1 : Int32) (M : Mem) : d_X12_hasNoRoom x1 M = (
      if x1 = (114 : Int32) then (
        if (mI M 69 48) ≤ 0 then (
          some ((0 : Int32), M))
        else (
          okk (vp_in ((mI M 69 48) - (1 : Int32)) 12) <|
          if (mI M 111 ((mI M 69 48) - (1 : Int32)).toNatClampNeg) = (8 : Int32) then (
            some ((1 : Int32), M))
          else (
            some ((0 : Int32), M))))
      else (
        if x1 = (105 : Int32) then (
          d_X12_hasNoRoom_65 M)
        else (
          if x1 = (107 : Int32) then (
            d_X12_hasNoRoom_65 M)
          else (
            if x1 = (108 : Int32) then (
              d_X12_hasNoRoom_65 M)
            else (
              if x1 = (117 : Int32) then (
                d_X12_hasNoRoom_65 M)
              else (
                if x1 = (110 : Int32) then (
                  d_X12_hasNoRoom_65 M)
                else (
                  d_X12_hasNoRoom_70 (0 : Int32) M))))))) := id rfl
theorem bq_X12_hasNoRoom {β : Type} (x1 : Int32) (M : Mem) (f : Int32 × Mem → Option β) : (d_X12_hasNoRoom x1 M).bind f = Option.bind (
      if x1 = (114 : Int32) then (
        if (mI M 69 48) ≤ 0 then (
          some ((0 : Int32), M))
        else (
          okk (vp_in ((mI M 69 48) - (1 : Int32)) 12) <|
          if (mI M 111 ((mI M 69 48) - (1 : Int32)).toNatClampNeg) = (8 : Int32) then (
            some ((1 : Int32), M))
          else (
            some ((0 : Int32), M))))
      else (
        if x1 = (105 : Int32) then (
          d_X12_hasNoRoom_65 M)
        else (
          if x1 = (107 : Int32) then (
            d_X12_hasNoRoom_65 M)
          else (
            if x1 = (108 : Int32) then (
              d_X12_hasNoRoom_65 M)
            else (
              if x1 = (117 : Int32) then (
                d_X12_hasNoRoom_65 M)
              else (
                if x1 = (110 : Int32) then (
                  d_X12_hasNoRoom_65 M)
                else (
                  d_X12_hasNoRoom_70 (0 : Int32) M))))))) f := id rfl
theorem tq_X12_rounded (x0 : UInt64) (M : Mem) : d_X12_rounded x0 M = (
      some ((xrint x0), M)) := id rfl
theorem bq_X12_rounded {β : Type} (x0 : UInt64) (M : Mem) (f : UInt64 × Mem → Option β) : (d_X12_rounded x0 M).bind f = Option.bind (
      some ((xrint x0), M)) f := id rfl
theorem tq_X12_why_459 (x3 : Int32) (M : Mem) : d_X12_why_459 x3 M = (
      if x3 = (110 : Int32) then (
        if (mI M 69 52) = (60 : Int32) then (
          some ((111 : Int32), M))
        else (
          some ((0 : Int32), M)))
      else (
        some ((0 : Int32), M))) := id rfl
theorem bq_X12_why_459 {β : Type} (x3 : Int32) (M : Mem) (f : Int32 × Mem → Option β) : (d_X12_why_459 x3 M).bind f = Option.bind (
      if x3 = (110 : Int32) then (
        if (mI M 69 52) = (60 : Int32) then (
          some ((111 : Int32), M))
        else (
          some ((0 : Int32), M)))
      else (
        some ((0 : Int32), M))) f := id rfl
theorem tq_X12_why_447 (x3 : Int32) (M : Mem) : d_X12_why_447 x3 M = (
      if (mI M 69 48) = (11 : Int32) then (
        some ((100 : Int32), M))
      else (
        d_X12_why_459 x3 M)) := id rfl
theorem bq_X12_why_447 {β : Type} (x3 : Int32) (M : Mem) (f : Int32 × Mem → Option β) : (d_X12_why_447 x3 M).bind f = Option.bind (
      if (mI M 69 48) = (11 : Int32) then (
        some ((100 : Int32), M))
      else (
        d_X12_why_459 x3 M)) f := id rfl
theorem tq_X12_why_435 (x3 : Int32) (M : Mem) : d_X12_why_435 x3 M = (
      if x3 = (99 : Int32) then (
        d_X12_why_447 x3 M)
      else (
        if x3 = (109 : Int32) then (
          d_X12_why_447 x3 M)
        else (
          d_X12_why_459 x3 M))) := id rfl
theorem bq_X12_why_435 {β : Type} (x3 : Int32) (M : Mem) (f : Int32 × Mem → Option β) : (d_X12_why_435 x3 M).bind f = Option.bind (
      if x3 = (99 : Int32) then (
        d_X12_why_447 x3 M)
      else (
        if x3 = (109 : Int32) then (
          d_X12_why_447 x3 M)
        else (
          d_X12_why_459 x3 M))) f := id rfl
theorem tq_X12_why_399 (x3 : Int32) (x4 : Int32) (x5 : Int32) (M : Mem) : d_X12_why_399 x3 x4 x5 M = (
      if x3 = (109 : Int32) then (
        okk (vp_in x5 168) <|
        okk (vp_in (mI M 106 x5.toNatClampNeg) 60) <|
        okk (vp_in (mI M 112 (mI M 106 x5.toNatClampNeg).toNatClampNeg) 60) <|
        (d_X12_methodOf (mI M 79 (mI M 112 (mI M 106 x5.toNatClampNeg).toNatClampNeg).toNatClampNeg) x4 M).bind fun y1 =>
        if y1.1 = (-1 : Int32) then (
          some ((109 : Int32), y1.2))
        else (
          d_X12_why_435 x3 y1.2))
      else (
        d_X12_why_435 x3 M)) := id rfl
theorem bq_X12_why_399 {β : Type} (x3 : Int32) (x4 : Int32) (x5 : Int32) (M : Mem) (f : Int32 × Mem → Option β) : (d_X12_why_399 x3 x4 x5 M).bind f = Option.bind (
      if x3 = (109 : Int32) then (
        okk (vp_in x5 168) <|
        okk (vp_in (mI M 106 x5.toNatClampNeg) 60) <|
        okk (vp_in (mI M 112 (mI M 106 x5.toNatClampNeg).toNatClampNeg) 60) <|
        (d_X12_methodOf (mI M 79 (mI M 112 (mI M 106 x5.toNatClampNeg).toNatClampNeg).toNatClampNeg) x4 M).bind fun y1 =>
        if y1.1 = (-1 : Int32) then (
          some ((109 : Int32), y1.2))
        else (
          d_X12_why_435 x3 y1.2))
      else (
        d_X12_why_435 x3 M)) f := id rfl
theorem tq_X12_why_337 (x3 : Int32) (x4 : Int32) (x5 : Int32) (M : Mem) : d_X12_why_337 x3 x4 x5 M = (
      if x3 = (112 : Int32) then (
        okk (vp_in (x5 - (1 : Int32)) 168) <|
        okk (vp_in (mI M 106 (x5 - (1 : Int32)).toNatClampNeg) 60) <|
        bnd ((mI M 112 (mI M 106 (x5 - (1 : Int32)).toNatClampNeg).toNatClampNeg)) fun b1 =>
        (d_X12_hasField b1 x4 M).bind fun y1 =>
        if y1.1 = 0 then (
          okk (vp_in (((6 : Int32) * b1) + x4) 360) <|
          if (mI y1.2 82 (((6 : Int32) * b1) + x4).toNatClampNeg) = (-1 : Int32) then (
            if (mI y1.2 69 12) = (60 : Int32) then (
              some ((102 : Int32), y1.2))
            else (
              d_X12_why_399 x3 x4 x5 y1.2))
          else (
            d_X12_why_399 x3 x4 x5 y1.2))
        else (
          d_X12_why_399 x3 x4 x5 y1.2))
      else (
        d_X12_why_399 x3 x4 x5 M)) := id rfl
theorem bq_X12_why_337 {β : Type} (x3 : Int32) (x4 : Int32) (x5 : Int32) (M : Mem) (f : Int32 × Mem → Option β) : (d_X12_why_337 x3 x4 x5 M).bind f = Option.bind (
      if x3 = (112 : Int32) then (
        okk (vp_in (x5 - (1 : Int32)) 168) <|
        okk (vp_in (mI M 106 (x5 - (1 : Int32)).toNatClampNeg) 60) <|
        bnd ((mI M 112 (mI M 106 (x5 - (1 : Int32)).toNatClampNeg).toNatClampNeg)) fun b1 =>
        (d_X12_hasField b1 x4 M).bind fun y1 =>
        if y1.1 = 0 then (
          okk (vp_in (((6 : Int32) * b1) + x4) 360) <|
          if (mI y1.2 82 (((6 : Int32) * b1) + x4).toNatClampNeg) = (-1 : Int32) then (
            if (mI y1.2 69 12) = (60 : Int32) then (
              some ((102 : Int32), y1.2))
            else (
              d_X12_why_399 x3 x4 x5 y1.2))
          else (
            d_X12_why_399 x3 x4 x5 y1.2))
        else (
          d_X12_why_399 x3 x4 x5 y1.2))
      else (
        d_X12_why_399 x3 x4 x5 M)) f := id rfl
theorem tq_X12_why_307 (x3 : Int32) (x4 : Int32) (x5 : Int32) (M : Mem) : d_X12_why_307 x3 x4 x5 M = (
      if x3 = (103 : Int32) then (
        okk (vp_in x5 168) <|
        okk (vp_in (mI M 106 x5.toNatClampNeg) 60) <|
        (d_X12_hasField (mI M 112 (mI M 106 x5.toNatClampNeg).toNatClampNeg) x4 M).bind fun y1 =>
        if y1.1 = 0 then (
          some ((102 : Int32), y1.2))
        else (
          d_X12_why_337 x3 x4 x5 y1.2))
      else (
        d_X12_why_337 x3 x4 x5 M)) := id rfl
theorem bq_X12_why_307 {β : Type} (x3 : Int32) (x4 : Int32) (x5 : Int32) (M : Mem) (f : Int32 × Mem → Option β) : (d_X12_why_307 x3 x4 x5 M).bind f = Option.bind (
      if x3 = (103 : Int32) then (
        okk (vp_in x5 168) <|
        okk (vp_in (mI M 106 x5.toNatClampNeg) 60) <|
        (d_X12_hasField (mI M 112 (mI M 106 x5.toNatClampNeg).toNatClampNeg) x4 M).bind fun y1 =>
        if y1.1 = 0 then (
          some ((102 : Int32), y1.2))
        else (
          d_X12_why_337 x3 x4 x5 y1.2))
      else (
        d_X12_why_337 x3 x4 x5 M)) f := id rfl
theorem tq_X12_why_256 (x3 : Int32) (x4 : Int32) (x5 : Int32) (M : Mem) : d_X12_why_256 x3 x4 x5 M = (
      if x3 = (119 : Int32) then (
        okk (vp_in x5 168) <|
        if (mI M 105 x5.toNatClampNeg) = (102 : Int32) then (
          okk (vp_in x5 168) <|
          (d_X12_rounded (mD M 107 x5.toNatClampNeg) M).bind fun y1 =>
          if (Op.cmpValue (FP.dcmp y1.1 (13970166044103278592 : UInt64)) .l) < 0 then (
            some ((119 : Int32), y1.2))
          else (
            if (Op.cmpValue (FP.dcmp y1.1 (4746794007244308480 : UInt64)) .g) ≤ 0 then (
              d_X12_why_307 x3 x4 x5 y1.2)
            else (
              some ((119 : Int32), y1.2))))
        else (
          d_X12_why_307 x3 x4 x5 M))
      else (
        d_X12_why_307 x3 x4 x5 M)) := id rfl
theorem bq_X12_why_256 {β : Type} (x3 : Int32) (x4 : Int32) (x5 : Int32) (M : Mem) (f : Int32 × Mem → Option β) : (d_X12_why_256 x3 x4 x5 M).bind f = Option.bind (
      if x3 = (119 : Int32) then (
        okk (vp_in x5 168) <|
        if (mI M 105 x5.toNatClampNeg) = (102 : Int32) then (
          okk (vp_in x5 168) <|
          (d_X12_rounded (mD M 107 x5.toNatClampNeg) M).bind fun y1 =>
          if (Op.cmpValue (FP.dcmp y1.1 (13970166044103278592 : UInt64)) .l) < 0 then (
            some ((119 : Int32), y1.2))
          else (
            if (Op.cmpValue (FP.dcmp y1.1 (4746794007244308480 : UInt64)) .g) ≤ 0 then (
              d_X12_why_307 x3 x4 x5 y1.2)
            else (
              some ((119 : Int32), y1.2))))
        else (
          d_X12_why_307 x3 x4 x5 M))
      else (
        d_X12_why_307 x3 x4 x5 M)) f := id rfl
theorem tq_X12_why_217 (x3 : Int32) (x4 : Int32) (x5 : Int32) (M : Mem) : d_X12_why_217 x3 x4 x5 M = (
      okk (vp_in x5 168) <|
      if (mI M 105 x5.toNatClampNeg) = (105 : Int32) then (
        okk (vp_in (x5 - (1 : Int32)) 168) <|
        if (mI M 105 (x5 - (1 : Int32)).toNatClampNeg) = (105 : Int32) then (
          okk (vp_in x5 168) <|
          if (mI M 106 x5.toNatClampNeg) = 0 then (
            some ((48 : Int32), M))
          else (
            d_X12_why_256 x3 x4 x5 M))
        else (
          d_X12_why_256 x3 x4 x5 M))
      else (
        d_X12_why_256 x3 x4 x5 M)) := id rfl
theorem bq_X12_why_217 {β : Type} (x3 : Int32) (x4 : Int32) (x5 : Int32) (M : Mem) (f : Int32 × Mem → Option β) : (d_X12_why_217 x3 x4 x5 M).bind f = Option.bind (
      okk (vp_in x5 168) <|
      if (mI M 105 x5.toNatClampNeg) = (105 : Int32) then (
        okk (vp_in (x5 - (1 : Int32)) 168) <|
        if (mI M 105 (x5 - (1 : Int32)).toNatClampNeg) = (105 : Int32) then (
          okk (vp_in x5 168) <|
          if (mI M 106 x5.toNatClampNeg) = 0 then (
            some ((48 : Int32), M))
          else (
            d_X12_why_256 x3 x4 x5 M))
        else (
          d_X12_why_256 x3 x4 x5 M))
      else (
        d_X12_why_256 x3 x4 x5 M)) f := id rfl
theorem tq_X12_why_205 (x3 : Int32) (x4 : Int32) (x5 : Int32) (M : Mem) : d_X12_why_205 x3 x4 x5 M = (
      if x3 = (47 : Int32) then (
        d_X12_why_217 x3 x4 x5 M)
      else (
        if x3 = (37 : Int32) then (
          d_X12_why_217 x3 x4 x5 M)
        else (
          d_X12_why_256 x3 x4 x5 M))) := id rfl
theorem bq_X12_why_205 {β : Type} (x3 : Int32) (x4 : Int32) (x5 : Int32) (M : Mem) (f : Int32 × Mem → Option β) : (d_X12_why_205 x3 x4 x5 M).bind f = Option.bind (
      if x3 = (47 : Int32) then (
        d_X12_why_217 x3 x4 x5 M)
      else (
        if x3 = (37 : Int32) then (
          d_X12_why_217 x3 x4 x5 M)
        else (
          d_X12_why_256 x3 x4 x5 M))) f := id rfl
theorem tq_X12_why_182 (x3 : Int32) (x4 : Int32) (x5 : Int32) (M : Mem) : d_X12_why_182 x3 x4 x5 M = (
      if x3 = (112 : Int32) then (
        okk (vp_in (x5 - (1 : Int32)) 168) <|
        if (mI M 105 (x5 - (1 : Int32)).toNatClampNeg) = (111 : Int32) then (
          d_X12_why_205 x3 x4 x5 M)
        else (
          some ((107 : Int32), M)))
      else (
        d_X12_why_205 x3 x4 x5 M)) := id rfl
theorem bq_X12_why_182 {β : Type} (x3 : Int32) (x4 : Int32) (x5 : Int32) (M : Mem) (f : Int32 × Mem → Option β) : (d_X12_why_182 x3 x4 x5 M).bind f = Option.bind (
      if x3 = (112 : Int32) then (
        okk (vp_in (x5 - (1 : Int32)) 168) <|
        if (mI M 105 (x5 - (1 : Int32)).toNatClampNeg) = (111 : Int32) then (
          d_X12_why_205 x3 x4 x5 M)
        else (
          some ((107 : Int32), M)))
      else (
        d_X12_why_205 x3 x4 x5 M)) f := id rfl
theorem tq_X12_why_170 (x3 : Int32) (x4 : Int32) (x5 : Int32) (M : Mem) : d_X12_why_170 x3 x4 x5 M = (
      okk (vp_in x5 168) <|
      if (mI M 105 x5.toNatClampNeg) = (111 : Int32) then (
        d_X12_why_182 x3 x4 x5 M)
      else (
        some ((107 : Int32), M))) := id rfl
theorem bq_X12_why_170 {β : Type} (x3 : Int32) (x4 : Int32) (x5 : Int32) (M : Mem) (f : Int32 × Mem → Option β) : (d_X12_why_170 x3 x4 x5 M).bind f = Option.bind (
      okk (vp_in x5 168) <|
      if (mI M 105 x5.toNatClampNeg) = (111 : Int32) then (
        d_X12_why_182 x3 x4 x5 M)
      else (
        some ((107 : Int32), M))) f := id rfl
theorem tq_X12_why_158 (x3 : Int32) (x4 : Int32) (x5 : Int32) (M : Mem) : d_X12_why_158 x3 x4 x5 M = (
      if x3 = (103 : Int32) then (
        d_X12_why_170 x3 x4 x5 M)
      else (
        if x3 = (109 : Int32) then (
          d_X12_why_170 x3 x4 x5 M)
        else (
          d_X12_why_182 x3 x4 x5 M))) := id rfl
theorem bq_X12_why_158 {β : Type} (x3 : Int32) (x4 : Int32) (x5 : Int32) (M : Mem) (f : Int32 × Mem → Option β) : (d_X12_why_158 x3 x4 x5 M).bind f = Option.bind (
      if x3 = (103 : Int32) then (
        d_X12_why_170 x3 x4 x5 M)
      else (
        if x3 = (109 : Int32) then (
          d_X12_why_170 x3 x4 x5 M)
        else (
          d_X12_why_182 x3 x4 x5 M))) f := id rfl
theorem tq_X12_why_139 (x3 : Int32) (x4 : Int32) (x5 : Int32) (M : Mem) : d_X12_why_139 x3 x4 x5 M = (
      if x3 = (119 : Int32) then (
        okk (vp_in x5 168) <|
        (d_X12_isNumber (mI M 105 x5.toNatClampNeg) M).bind fun y1 =>
        if y1.1 = 0 then (
          some ((107 : Int32), y1.2))
        else (
          d_X12_why_158 x3 x4 x5 y1.2))
      else (
        d_X12_why_158 x3 x4 x5 M)) := id rfl
theorem bq_X12_why_139 {β : Type} (x3 : Int32) (x4 : Int32) (x5 : Int32) (M : Mem) (f : Int32 × Mem → Option β) : (d_X12_why_139 x3 x4 x5 M).bind f = Option.bind (
      if x3 = (119 : Int32) then (
        okk (vp_in x5 168) <|
        (d_X12_isNumber (mI M 105 x5.toNatClampNeg) M).bind fun y1 =>
        if y1.1 = 0 then (
          some ((107 : Int32), y1.2))
        else (
          d_X12_why_158 x3 x4 x5 y1.2))
      else (
        d_X12_why_158 x3 x4 x5 M)) f := id rfl
theorem tq_X12_why (M : Mem) : d_X12_why M = (
      okk (vp_in (mI M 69 48) 12) <|
      bnd ((mI M 109 (mI M 69 48).toNatClampNeg)) fun b1 =>
      okk (vp_in (mI M 69 48) 12) <|
      bnd ((mI M 110 (mI M 69 48).toNatClampNeg)) fun b2 =>
      okk (vp_in b1 8) <|
      if b2 < (mI M 71 b1.toNatClampNeg) then (
        okk (vp_in (((40 : Int32) * b1) + b2) 320) <|
        bnd ((mI M 72 (((40 : Int32) * b1) + b2).toNatClampNeg)) fun b3 =>
        okk (vp_in (((40 : Int32) * b1) + b2) 320) <|
        bnd ((mI M 73 (((40 : Int32) * b1) + b2).toNatClampNeg)) fun b4 =>
        okk (vp_in (mI M 69 48) 12) <|
        (d_X12_takes b3 b4 M).bind fun y1 =>
        if (mI M 111 (mI M 69 48).toNatClampNeg) < y1.1 then (
          some ((115 : Int32), y1.2))
        else (
          (d_X12_hasNoRoom b3 y1.2).bind fun y2 =>
          if y2.1 = 0 then (
            (d_X12_top (0 : Int32) y2.2).bind fun y3 =>
            (d_X12_isPair b3 y3.2).bind fun y4 =>
            if y4.1 = 0 then (
              d_X12_why_139 b3 b4 y3.1 y4.2)
            else (
              if b3 = (61 : Int32) then (
                d_X12_why_139 b3 b4 y3.1 y4.2)
              else (
                okk (vp_in y3.1 168) <|
                (d_X12_isNumber (mI y4.2 105 y3.1.toNatClampNeg) y4.2).bind fun y5 =>
                if y5.1 = 0 then (
                  some ((107 : Int32), y5.2))
                else (
                  okk (vp_in (y3.1 - (1 : Int32)) 168) <|
                  (d_X12_isNumber (mI y5.2 105 (y3.1 - (1 : Int32)).toNatClampNeg) y5.2).bind fun y6 =>
                  if y6.1 = 0 then (
                    some ((107 : Int32), y6.2))
                  else (
                    d_X12_why_139 b3 b4 y3.1 y6.2)))))
          else (
            some ((115 : Int32), y2.2))))
      else (
        some ((101 : Int32), M))) := id rfl
theorem bq_X12_why {β : Type} (M : Mem) (f : Int32 × Mem → Option β) : (d_X12_why M).bind f = Option.bind (
      okk (vp_in (mI M 69 48) 12) <|
      bnd ((mI M 109 (mI M 69 48).toNatClampNeg)) fun b1 =>
      okk (vp_in (mI M 69 48) 12) <|
      bnd ((mI M 110 (mI M 69 48).toNatClampNeg)) fun b2 =>
      okk (vp_in b1 8) <|
      if b2 < (mI M 71 b1.toNatClampNeg) then (
        okk (vp_in (((40 : Int32) * b1) + b2) 320) <|
        bnd ((mI M 72 (((40 : Int32) * b1) + b2).toNatClampNeg)) fun b3 =>
        okk (vp_in (((40 : Int32) * b1) + b2) 320) <|
        bnd ((mI M 73 (((40 : Int32) * b1) + b2).toNatClampNeg)) fun b4 =>
        okk (vp_in (mI M 69 48) 12) <|
        (d_X12_takes b3 b4 M).bind fun y1 =>
        if (mI M 111 (mI M 69 48).toNatClampNeg) < y1.1 then (
          some ((115 : Int32), y1.2))
        else (
          (d_X12_hasNoRoom b3 y1.2).bind fun y2 =>
          if y2.1 = 0 then (
            (d_X12_top (0 : Int32) y2.2).bind fun y3 =>
            (d_X12_isPair b3 y3.2).bind fun y4 =>
            if y4.1 = 0 then (
              d_X12_why_139 b3 b4 y3.1 y4.2)
            else (
              if b3 = (61 : Int32) then (
                d_X12_why_139 b3 b4 y3.1 y4.2)
              else (
                okk (vp_in y3.1 168) <|
                (d_X12_isNumber (mI y4.2 105 y3.1.toNatClampNeg) y4.2).bind fun y5 =>
                if y5.1 = 0 then (
                  some ((107 : Int32), y5.2))
                else (
                  okk (vp_in (y3.1 - (1 : Int32)) 168) <|
                  (d_X12_isNumber (mI y5.2 105 (y3.1 - (1 : Int32)).toNatClampNeg) y5.2).bind fun y6 =>
                  if y6.1 = 0 then (
                    some ((107 : Int32), y6.2))
                  else (
                    d_X12_why_139 b3 b4 y3.1 y6.2)))))
          else (
            some ((115 : Int32), y2.2))))
      else (
        some ((101 : Int32), M))) f := id rfl
theorem tq_X12_calls_166 (k79 : (Int32) → Mem → Option (Unit × Mem)) (x2 : Int32) (x3 : Int32) (x4 : Int32) (M : Mem) : d_X12_calls_166 k79 x2 x3 x4 M = (
      bnd ((x4 + (1 : Int32))) fun b1 =>
      k79 (b1) M) := id rfl
theorem bq_X12_calls_166 {β : Type} (k79 : (Int32) → Mem → Option (Unit × Mem)) (x2 : Int32) (x3 : Int32) (x4 : Int32) (M : Mem) (f : Unit × Mem → Option β) : (d_X12_calls_166 k79 x2 x3 x4 M).bind f = Option.bind (
      bnd ((x4 + (1 : Int32))) fun b1 =>
      k79 (b1) M) f := id rfl
theorem tq_X12_calls_165 (k79 : (Int32) → Mem → Option (Unit × Mem)) (x2 : Int32) (x3 : Int32) (x4 : Int32) (s1 : Int32) (s2 : Int32) (M : Mem) : d_X12_calls_165 k79 x2 x3 x4 s1 s2 M = (
      okk (vp_in s1 168) <|
      bnd (sI M 108 s1.toNatClampNeg s2) fun M1 =>
      d_X12_calls_166 k79 x2 x3 x4 M1) := id rfl
theorem bq_X12_calls_165 {β : Type} (k79 : (Int32) → Mem → Option (Unit × Mem)) (x2 : Int32) (x3 : Int32) (x4 : Int32) (s1 : Int32) (s2 : Int32) (M : Mem) (f : Unit × Mem → Option β) : (d_X12_calls_165 k79 x2 x3 x4 s1 s2 M).bind f = Option.bind (
      okk (vp_in s1 168) <|
      bnd (sI M 108 s1.toNatClampNeg s2) fun M1 =>
      d_X12_calls_166 k79 x2 x3 x4 M1) f := id rfl
theorem tq_X12_calls_79b (k79 : (Int32) → Mem → Option (Unit × Mem)) (x2 : Int32) (x3 : Int32) (x4 : Int32) (M : Mem) : d_X12_calls_79b k79 x2 x3 x4 M = (
      if (6 : Int32) ≤ x4 then (
        some ((), M))
      else (
        bnd ((((14 : Int32) * (mI M 69 48)) + x4)) fun b1 =>
        if x2 ≤ x4 then (
          okk (vp_in b1 168) <|
          bnd (sI M 105 b1.toNatClampNeg (110 : Int32)) fun M1 =>
          okk (vp_in b1 168) <|
          bnd (sI M1 106 b1.toNatClampNeg (0 : Int32)) fun M2 =>
          okk (vp_in b1 168) <|
          bnd (sD M2 107 b1.toNatClampNeg FP.dconst0) fun M3 =>
          if (mI M3 69 71) = 0 then (
            d_X12_calls_165 k79 x2 x3 x4 b1 (0 : Int32) M3)
          else (
            (d_X12_valueOf (110 : Int32) M3).bind fun y1 =>
            d_X12_calls_165 k79 x2 x3 x4 b1 y1.1 y1.2))
        else (
          (d_X12_copies (x3 + x4) b1 M).bind fun y2 =>
          d_X12_calls_166 k79 x2 x3 x4 y2.2))) := id rfl
theorem bq_X12_calls_79b {β : Type} (k79 : (Int32) → Mem → Option (Unit × Mem)) (x2 : Int32) (x3 : Int32) (x4 : Int32) (M : Mem) (f : Unit × Mem → Option β) : (d_X12_calls_79b k79 x2 x3 x4 M).bind f = Option.bind (
      if (6 : Int32) ≤ x4 then (
        some ((), M))
      else (
        bnd ((((14 : Int32) * (mI M 69 48)) + x4)) fun b1 =>
        if x2 ≤ x4 then (
          okk (vp_in b1 168) <|
          bnd (sI M 105 b1.toNatClampNeg (110 : Int32)) fun M1 =>
          okk (vp_in b1 168) <|
          bnd (sI M1 106 b1.toNatClampNeg (0 : Int32)) fun M2 =>
          okk (vp_in b1 168) <|
          bnd (sD M2 107 b1.toNatClampNeg FP.dconst0) fun M3 =>
          if (mI M3 69 71) = 0 then (
            d_X12_calls_165 k79 x2 x3 x4 b1 (0 : Int32) M3)
          else (
            (d_X12_valueOf (110 : Int32) M3).bind fun y1 =>
            d_X12_calls_165 k79 x2 x3 x4 b1 y1.1 y1.2))
        else (
          (d_X12_copies (x3 + x4) b1 M).bind fun y2 =>
          d_X12_calls_166 k79 x2 x3 x4 y2.2))) f := id rfl
theorem tq_X12_calls (x1 : Int32) (x2 : Int32) (M : Mem) : d_X12_calls x1 x2 M = (
      (d_X12_top (0 : Int32) M).bind fun y1 =>
      bnd (((y1.1 - x2) + (1 : Int32))) fun b1 =>
      okk (vp_in (mI y1.2 69 48) 12) <|
      okk (vp_in (mI y1.2 69 48) 12) <|
      bnd (sI y1.2 111 (mI y1.2 69 48).toNatClampNeg ((mI y1.2 111 (mI y1.2 69 48).toNatClampNeg) - x2)) fun M1 =>
      okk (vp_in (mI M1 69 48) 12) <|
      okk (vp_in (mI M1 69 48) 12) <|
      bnd (sI M1 110 (mI M1 69 48).toNatClampNeg ((mI M1 110 (mI M1 69 48).toNatClampNeg) + (1 : Int32))) fun M2 =>
      bnd (sI M2 69 48 ((mI M2 69 48) + (1 : Int32))) fun M3 =>
      okk (vp_in (mI M3 69 48) 12) <|
      bnd (sI M3 109 (mI M3 69 48).toNatClampNeg x1) fun M4 =>
      okk (vp_in (mI M4 69 48) 12) <|
      bnd (sI M4 110 (mI M4 69 48).toNatClampNeg (0 : Int32)) fun M5 =>
      okk (vp_in (mI M5 69 48) 12) <|
      bnd (sI M5 111 (mI M5 69 48).toNatClampNeg (0 : Int32)) fun M6 =>
      d_X12_calls_79 x2 b1 fuel ((0 : Int32)) M6) := id rfl
theorem bq_X12_calls {β : Type} (x1 : Int32) (x2 : Int32) (M : Mem) (f : Unit × Mem → Option β) : (d_X12_calls x1 x2 M).bind f = Option.bind (
      (d_X12_top (0 : Int32) M).bind fun y1 =>
      bnd (((y1.1 - x2) + (1 : Int32))) fun b1 =>
      okk (vp_in (mI y1.2 69 48) 12) <|
      okk (vp_in (mI y1.2 69 48) 12) <|
      bnd (sI y1.2 111 (mI y1.2 69 48).toNatClampNeg ((mI y1.2 111 (mI y1.2 69 48).toNatClampNeg) - x2)) fun M1 =>
      okk (vp_in (mI M1 69 48) 12) <|
      okk (vp_in (mI M1 69 48) 12) <|
      bnd (sI M1 110 (mI M1 69 48).toNatClampNeg ((mI M1 110 (mI M1 69 48).toNatClampNeg) + (1 : Int32))) fun M2 =>
      bnd (sI M2 69 48 ((mI M2 69 48) + (1 : Int32))) fun M3 =>
      okk (vp_in (mI M3 69 48) 12) <|
      bnd (sI M3 109 (mI M3 69 48).toNatClampNeg x1) fun M4 =>
      okk (vp_in (mI M4 69 48) 12) <|
      bnd (sI M4 110 (mI M4 69 48).toNatClampNeg (0 : Int32)) fun M5 =>
      okk (vp_in (mI M5 69 48) 12) <|
      bnd (sI M5 111 (mI M5 69 48).toNatClampNeg (0 : Int32)) fun M6 =>
      d_X12_calls_79 x2 b1 fuel ((0 : Int32)) M6) f := id rfl
theorem tq_X12_puts_152 (M : Mem) : d_X12_puts_152 M = (
      okk (vp_in (mI M 69 48) 12) <|
      okk (vp_in (mI M 69 48) 12) <|
      bnd (sI M 111 (mI M 69 48).toNatClampNeg ((mI M 111 (mI M 69 48).toNatClampNeg) - (2 : Int32))) fun M1 =>
      okk (vp_in (mI M1 69 48) 12) <|
      okk (vp_in (mI M1 69 48) 12) <|
      bnd (sI M1 110 (mI M1 69 48).toNatClampNeg ((mI M1 110 (mI M1 69 48).toNatClampNeg) + (1 : Int32))) fun M2 =>
      some ((), M2)) := id rfl
theorem bq_X12_puts_152 {β : Type} (M : Mem) (f : Unit × Mem → Option β) : (d_X12_puts_152 M).bind f = Option.bind (
      okk (vp_in (mI M 69 48) 12) <|
      okk (vp_in (mI M 69 48) 12) <|
      bnd (sI M 111 (mI M 69 48).toNatClampNeg ((mI M 111 (mI M 69 48).toNatClampNeg) - (2 : Int32))) fun M1 =>
      okk (vp_in (mI M1 69 48) 12) <|
      okk (vp_in (mI M1 69 48) 12) <|
      bnd (sI M1 110 (mI M1 69 48).toNatClampNeg ((mI M1 110 (mI M1 69 48).toNatClampNeg) + (1 : Int32))) fun M2 =>
      some ((), M2)) f := id rfl
theorem tq_X12_puts_116b (k116 : (Int32) → Mem → Option (Unit × Mem)) (x2 : Int32) (x6 : Int32) (x7 : Int32) (M : Mem) : d_X12_puts_116b k116 x2 x6 x7 M = (
      if (mI M 69 83) ≤ x7 then (
        okk (vp_in x2 168) <|
        okk (vp_in (mI M 108 x2.toNatClampNeg) 600) <|
        bnd (sI M 125 (mI M 108 x2.toNatClampNeg).toNatClampNeg x6) fun M1 =>
        d_X12_puts_152 M1)
      else (
        okk (vp_in x7 600) <|
        bnd (sI M 125 x7.toNatClampNeg (-1 : Int32)) fun M2 =>
        bnd ((x7 + (1 : Int32))) fun b1 =>
        k116 (b1) M2)) := id rfl
theorem bq_X12_puts_116b {β : Type} (k116 : (Int32) → Mem → Option (Unit × Mem)) (x2 : Int32) (x6 : Int32) (x7 : Int32) (M : Mem) (f : Unit × Mem → Option β) : (d_X12_puts_116b k116 x2 x6 x7 M).bind f = Option.bind (
      if (mI M 69 83) ≤ x7 then (
        okk (vp_in x2 168) <|
        okk (vp_in (mI M 108 x2.toNatClampNeg) 600) <|
        bnd (sI M 125 (mI M 108 x2.toNatClampNeg).toNatClampNeg x6) fun M1 =>
        d_X12_puts_152 M1)
      else (
        okk (vp_in x7 600) <|
        bnd (sI M 125 x7.toNatClampNeg (-1 : Int32)) fun M2 =>
        bnd ((x7 + (1 : Int32))) fun b1 =>
        k116 (b1) M2)) f := id rfl
theorem tq_X12_puts (x1 : Int32) (M : Mem) : d_X12_puts x1 M = (
      (d_X12_top (1 : Int32) M).bind fun y1 =>
      okk (vp_in y1.1 168) <|
      bnd ((mI y1.2 106 y1.1.toNatClampNeg)) fun b1 =>
      (d_X12_top (0 : Int32) y1.2).bind fun y2 =>
      okk (vp_in b1 60) <|
      bnd ((mI y2.2 112 b1.toNatClampNeg)) fun b2 =>
      (d_X12_shapeBehind b2 x1 y2.2).bind fun y3 =>
      okk (vp_in b1 60) <|
      bnd (sI y3.2 112 b1.toNatClampNeg y3.1) fun M1 =>
      okk (vp_in y2.1 168) <|
      okk (vp_in (((6 : Int32) * b1) + x1) 360) <|
      okk (isCh (mI M1 105 y2.1.toNatClampNeg)) <|
      bnd (sI M1 113 (((6 : Int32) * b1) + x1).toNatClampNeg (mI M1 105 y2.1.toNatClampNeg)) fun M2 =>
      okk (vp_in y2.1 168) <|
      okk (vp_in (((6 : Int32) * b1) + x1) 360) <|
      bnd (sI M2 114 (((6 : Int32) * b1) + x1).toNatClampNeg (mI M2 106 y2.1.toNatClampNeg)) fun M3 =>
      okk (vp_in y2.1 168) <|
      okk (vp_in (((6 : Int32) * b1) + x1) 360) <|
      bnd (sD M3 115 (((6 : Int32) * b1) + x1).toNatClampNeg (mD M3 107 y2.1.toNatClampNeg)) fun M4 =>
      if (mI M4 69 71) = 0 then (
        d_X12_puts_152 M4)
      else (
        if y3.1 = b2 then (
          d_X12_puts_152 M4)
        else (
          d_X12_puts_116 y1.1 y3.1 fuel ((0 : Int32)) M4))) := id rfl
theorem bq_X12_puts {β : Type} (x1 : Int32) (M : Mem) (f : Unit × Mem → Option β) : (d_X12_puts x1 M).bind f = Option.bind (
      (d_X12_top (1 : Int32) M).bind fun y1 =>
      okk (vp_in y1.1 168) <|
      bnd ((mI y1.2 106 y1.1.toNatClampNeg)) fun b1 =>
      (d_X12_top (0 : Int32) y1.2).bind fun y2 =>
      okk (vp_in b1 60) <|
      bnd ((mI y2.2 112 b1.toNatClampNeg)) fun b2 =>
      (d_X12_shapeBehind b2 x1 y2.2).bind fun y3 =>
      okk (vp_in b1 60) <|
      bnd (sI y3.2 112 b1.toNatClampNeg y3.1) fun M1 =>
      okk (vp_in y2.1 168) <|
      okk (vp_in (((6 : Int32) * b1) + x1) 360) <|
      okk (isCh (mI M1 105 y2.1.toNatClampNeg)) <|
      bnd (sI M1 113 (((6 : Int32) * b1) + x1).toNatClampNeg (mI M1 105 y2.1.toNatClampNeg)) fun M2 =>
      okk (vp_in y2.1 168) <|
      okk (vp_in (((6 : Int32) * b1) + x1) 360) <|
      bnd (sI M2 114 (((6 : Int32) * b1) + x1).toNatClampNeg (mI M2 106 y2.1.toNatClampNeg)) fun M3 =>
      okk (vp_in y2.1 168) <|
      okk (vp_in (((6 : Int32) * b1) + x1) 360) <|
      bnd (sD M3 115 (((6 : Int32) * b1) + x1).toNatClampNeg (mD M3 107 y2.1.toNatClampNeg)) fun M4 =>
      if (mI M4 69 71) = 0 then (
        d_X12_puts_152 M4)
      else (
        if y3.1 = b2 then (
          d_X12_puts_152 M4)
        else (
          d_X12_puts_116 y1.1 y3.1 fuel ((0 : Int32)) M4))) f := id rfl
theorem tq_X12_returns (M : Mem) : d_X12_returns M = (
      (d_X12_top (0 : Int32) M).bind fun y1 =>
      if (mI y1.2 69 48) = 0 then (
        bnd (sI y1.2 69 67 (0 : Int32)) fun M3 =>
        bnd (sI M3 69 62 (118 : Int32)) fun M4 =>
        okk (vp_in y1.1 168) <|
        okk (isCh (mI M4 105 y1.1.toNatClampNeg)) <|
        bnd (sI M4 69 63 (mI M4 105 y1.1.toNatClampNeg)) fun M5 =>
        okk (vp_in y1.1 168) <|
        okk (vp_in y1.1 168) <|
        okk (vp_in y1.1 168) <|
        (d_X12_told (mI M5 105 y1.1.toNatClampNeg) (mI M5 106 y1.1.toNatClampNeg) (mD M5 107 y1.1.toNatClampNeg) M5).bind fun y4 =>
        bnd (sL y4.2 69 64 y4.1) fun M6 =>
        some ((), M6))
      else (
        bnd (sI y1.2 69 48 ((mI y1.2 69 48) - (1 : Int32))) fun M1 =>
        okk (vp_in (mI M1 69 48) 12) <|
        okk (vp_in (mI M1 69 48) 12) <|
        bnd (sI M1 111 (mI M1 69 48).toNatClampNeg ((mI M1 111 (mI M1 69 48).toNatClampNeg) + (1 : Int32))) fun M2 =>
        (d_X12_top (0 : Int32) M2).bind fun y2 =>
        (d_X12_copies y1.1 y2.1 y2.2).bind fun y3 =>
        some ((), y3.2))) := id rfl
theorem bq_X12_returns {β : Type} (M : Mem) (f : Unit × Mem → Option β) : (d_X12_returns M).bind f = Option.bind (
      (d_X12_top (0 : Int32) M).bind fun y1 =>
      if (mI y1.2 69 48) = 0 then (
        bnd (sI y1.2 69 67 (0 : Int32)) fun M3 =>
        bnd (sI M3 69 62 (118 : Int32)) fun M4 =>
        okk (vp_in y1.1 168) <|
        okk (isCh (mI M4 105 y1.1.toNatClampNeg)) <|
        bnd (sI M4 69 63 (mI M4 105 y1.1.toNatClampNeg)) fun M5 =>
        okk (vp_in y1.1 168) <|
        okk (vp_in y1.1 168) <|
        okk (vp_in y1.1 168) <|
        (d_X12_told (mI M5 105 y1.1.toNatClampNeg) (mI M5 106 y1.1.toNatClampNeg) (mD M5 107 y1.1.toNatClampNeg) M5).bind fun y4 =>
        bnd (sL y4.2 69 64 y4.1) fun M6 =>
        some ((), M6))
      else (
        bnd (sI y1.2 69 48 ((mI y1.2 69 48) - (1 : Int32))) fun M1 =>
        okk (vp_in (mI M1 69 48) 12) <|
        okk (vp_in (mI M1 69 48) 12) <|
        bnd (sI M1 111 (mI M1 69 48).toNatClampNeg ((mI M1 111 (mI M1 69 48).toNatClampNeg) + (1 : Int32))) fun M2 =>
        (d_X12_top (0 : Int32) M2).bind fun y2 =>
        (d_X12_copies y1.1 y2.1 y2.2).bind fun y3 =>
        some ((), y3.2))) f := id rfl
theorem tq_X12_tells_70 (M : Mem) : d_X12_tells_70 M = (
      okk (vp_in (mI M 69 48) 12) <|
      okk (vp_in (mI M 69 48) 12) <|
      bnd (sI M 111 (mI M 69 48).toNatClampNeg ((mI M 111 (mI M 69 48).toNatClampNeg) - (1 : Int32))) fun M1 =>
      okk (vp_in (mI M1 69 48) 12) <|
      okk (vp_in (mI M1 69 48) 12) <|
      bnd (sI M1 110 (mI M1 69 48).toNatClampNeg ((mI M1 110 (mI M1 69 48).toNatClampNeg) + (1 : Int32))) fun M2 =>
      some ((), M2)) := id rfl
theorem bq_X12_tells_70 {β : Type} (M : Mem) (f : Unit × Mem → Option β) : (d_X12_tells_70 M).bind f = Option.bind (
      okk (vp_in (mI M 69 48) 12) <|
      okk (vp_in (mI M 69 48) 12) <|
      bnd (sI M 111 (mI M 69 48).toNatClampNeg ((mI M 111 (mI M 69 48).toNatClampNeg) - (1 : Int32))) fun M1 =>
      okk (vp_in (mI M1 69 48) 12) <|
      okk (vp_in (mI M1 69 48) 12) <|
      bnd (sI M1 110 (mI M1 69 48).toNatClampNeg ((mI M1 110 (mI M1 69 48).toNatClampNeg) + (1 : Int32))) fun M2 =>
      some ((), M2)) f := id rfl
theorem tq_X12_tells (M : Mem) : d_X12_tells M = (
      (d_X12_top (0 : Int32) M).bind fun y1 =>
      if (20 : Int32) ≤ (mI y1.2 69 59) then (
        d_X12_tells_70 y1.2)
      else (
        okk (vp_in y1.1 168) <|
        okk (vp_in (mI y1.2 69 59) 20) <|
        okk (isCh (mI y1.2 105 y1.1.toNatClampNeg)) <|
        bnd (sI y1.2 116 (mI y1.2 69 59).toNatClampNeg (mI y1.2 105 y1.1.toNatClampNeg)) fun M1 =>
        okk (vp_in y1.1 168) <|
        okk (vp_in y1.1 168) <|
        okk (vp_in y1.1 168) <|
        (d_X12_told (mI M1 105 y1.1.toNatClampNeg) (mI M1 106 y1.1.toNatClampNeg) (mD M1 107 y1.1.toNatClampNeg) M1).bind fun y2 =>
        okk (vp_in (mI M1 69 59) 20) <|
        bnd (sL y2.2 117 (mI M1 69 59).toNatClampNeg y2.1) fun M2 =>
        bnd (sI M2 69 59 ((mI M2 69 59) + (1 : Int32))) fun M3 =>
        d_X12_tells_70 M3)) := id rfl
theorem bq_X12_tells {β : Type} (M : Mem) (f : Unit × Mem → Option β) : (d_X12_tells M).bind f = Option.bind (
      (d_X12_top (0 : Int32) M).bind fun y1 =>
      if (20 : Int32) ≤ (mI y1.2 69 59) then (
        d_X12_tells_70 y1.2)
      else (
        okk (vp_in y1.1 168) <|
        okk (vp_in (mI y1.2 69 59) 20) <|
        okk (isCh (mI y1.2 105 y1.1.toNatClampNeg)) <|
        bnd (sI y1.2 116 (mI y1.2 69 59).toNatClampNeg (mI y1.2 105 y1.1.toNatClampNeg)) fun M1 =>
        okk (vp_in y1.1 168) <|
        okk (vp_in y1.1 168) <|
        okk (vp_in y1.1 168) <|
        (d_X12_told (mI M1 105 y1.1.toNatClampNeg) (mI M1 106 y1.1.toNatClampNeg) (mD M1 107 y1.1.toNatClampNeg) M1).bind fun y2 =>
        okk (vp_in (mI M1 69 59) 20) <|
        bnd (sL y2.2 117 (mI M1 69 59).toNatClampNeg y2.1) fun M2 =>
        bnd (sI M2 69 59 ((mI M2 69 59) + (1 : Int32))) fun M3 =>
        d_X12_tells_70 M3)) f := id rfl
theorem tq_X12_made_64 (x1 : Int32) (x2 : Int32) (s0 : Int32) (M : Mem) : d_X12_made_64 x1 x2 s0 M = (
      if x1 = 0 then (
        okk (vp_in x2 600) <|
        bnd (sI M 126 x2.toNatClampNeg (0 : Int32)) fun M3 =>
        some (x2, M3))
      else (
        if s0 = 0 then (
          okk (vp_in x2 600) <|
          bnd (sI M 126 x2.toNatClampNeg (2 : Int32)) fun M1 =>
          some (x2, M1))
        else (
          okk (vp_in x2 600) <|
          bnd (sI M 126 x2.toNatClampNeg (1 : Int32)) fun M2 =>
          some (x2, M2)))) := id rfl
theorem bq_X12_made_64 {β : Type} (x1 : Int32) (x2 : Int32) (s0 : Int32) (M : Mem) (f : Int32 × Mem → Option β) : (d_X12_made_64 x1 x2 s0 M).bind f = Option.bind (
      if x1 = 0 then (
        okk (vp_in x2 600) <|
        bnd (sI M 126 x2.toNatClampNeg (0 : Int32)) fun M3 =>
        some (x2, M3))
      else (
        if s0 = 0 then (
          okk (vp_in x2 600) <|
          bnd (sI M 126 x2.toNatClampNeg (2 : Int32)) fun M1 =>
          some (x2, M1))
        else (
          okk (vp_in x2 600) <|
          bnd (sI M 126 x2.toNatClampNeg (1 : Int32)) fun M2 =>
          some (x2, M2)))) f := id rfl
theorem tq_X12_made_63 (x1 : Int32) (x2 : Int32) (M : Mem) : d_X12_made_63 x1 x2 M = (
      d_X12_made_64 x1 x2 (0 : Int32) M) := id rfl
theorem bq_X12_made_63 {β : Type} (x1 : Int32) (x2 : Int32) (M : Mem) (f : Int32 × Mem → Option β) : (d_X12_made_63 x1 x2 M).bind f = Option.bind (
      d_X12_made_64 x1 x2 (0 : Int32) M) f := id rfl
theorem tq_X12_made_59 (x1 : Int32) (x2 : Int32) (M : Mem) : d_X12_made_59 x1 x2 M = (
      d_X12_made_64 x1 x2 (1 : Int32) M) := id rfl
theorem bq_X12_made_59 {β : Type} (x1 : Int32) (x2 : Int32) (M : Mem) (f : Int32 × Mem → Option β) : (d_X12_made_59 x1 x2 M).bind f = Option.bind (
      d_X12_made_64 x1 x2 (1 : Int32) M) f := id rfl
theorem tq_X12_made_41 (x1 : Int32) (x2 : Int32) (M : Mem) : d_X12_made_41 x1 x2 M = (
      if (mI M 69 88) = (102 : Int32) then (
        if (Op.cmpValue (FP.dcmp (mD M 69 90) FP.dconst0) .l) = 0 then (
          d_X12_made_59 x1 x2 M)
        else (
          d_X12_made_63 x1 x2 M))
      else (
        d_X12_made_63 x1 x2 M)) := id rfl
theorem bq_X12_made_41 {β : Type} (x1 : Int32) (x2 : Int32) (M : Mem) (f : Int32 × Mem → Option β) : (d_X12_made_41 x1 x2 M).bind f = Option.bind (
      if (mI M 69 88) = (102 : Int32) then (
        if (Op.cmpValue (FP.dcmp (mD M 69 90) FP.dconst0) .l) = 0 then (
          d_X12_made_59 x1 x2 M)
        else (
          d_X12_made_63 x1 x2 M))
      else (
        d_X12_made_63 x1 x2 M)) f := id rfl
theorem tq_X12_made (x1 : Int32) (M : Mem) : d_X12_made x1 M = (
      if (mI M 69 71) = 0 then (
        some ((0 : Int32), M))
      else (
        (d_X12_valueOf (mI M 69 88) M).bind fun y1 =>
        okk (vp_in y1.1 600) <|
        okk (isBo x1) <|
        bnd (sI y1.2 124 y1.1.toNatClampNeg x1) fun M1 =>
        if (mI M1 69 88) = (105 : Int32) then (
          if (mI M1 69 89) = 0 then (
            d_X12_made_59 x1 y1.1 M1)
          else (
            d_X12_made_41 x1 y1.1 M1))
        else (
          d_X12_made_41 x1 y1.1 M1))) := id rfl
theorem bq_X12_made {β : Type} (x1 : Int32) (M : Mem) (f : Int32 × Mem → Option β) : (d_X12_made x1 M).bind f = Option.bind (
      if (mI M 69 71) = 0 then (
        some ((0 : Int32), M))
      else (
        (d_X12_valueOf (mI M 69 88) M).bind fun y1 =>
        okk (vp_in y1.1 600) <|
        okk (isBo x1) <|
        bnd (sI y1.2 124 y1.1.toNatClampNeg x1) fun M1 =>
        if (mI M1 69 88) = (105 : Int32) then (
          if (mI M1 69 89) = 0 then (
            d_X12_made_59 x1 y1.1 M1)
          else (
            d_X12_made_41 x1 y1.1 M1))
        else (
          d_X12_made_41 x1 y1.1 M1))) f := id rfl
theorem tq_X12_reckonsOn_194 (x2 : Int32) (M : Mem) : d_X12_reckonsOn_194 x2 M = (
      (d_X12_pushes x2 M).bind fun y1 =>
      okk (vp_in (mI y1.2 69 48) 12) <|
      okk (vp_in (mI y1.2 69 48) 12) <|
      bnd (sI y1.2 110 (mI y1.2 69 48).toNatClampNeg ((mI y1.2 110 (mI y1.2 69 48).toNatClampNeg) + (1 : Int32))) fun M1 =>
      some ((), M1)) := id rfl
theorem bq_X12_reckonsOn_194 {β : Type} (x2 : Int32) (M : Mem) (f : Unit × Mem → Option β) : (d_X12_reckonsOn_194 x2 M).bind f = Option.bind (
      (d_X12_pushes x2 M).bind fun y1 =>
      okk (vp_in (mI y1.2 69 48) 12) <|
      okk (vp_in (mI y1.2 69 48) 12) <|
      bnd (sI y1.2 110 (mI y1.2 69 48).toNatClampNeg ((mI y1.2 110 (mI y1.2 69 48).toNatClampNeg) + (1 : Int32))) fun M1 =>
      some ((), M1)) f := id rfl
theorem tq_X12_reckonsOn_171 (x3 : Int32) (s1 : Int32) (s2 : Int32) (M : Mem) : d_X12_reckonsOn_171 x3 s1 s2 M = (
      (d_X12_gives s1 s2 FP.dconst0 M).bind fun y1 =>
      okk (vp_in (mI y1.2 69 48) 12) <|
      okk (vp_in (mI y1.2 69 48) 12) <|
      bnd (sI y1.2 111 (mI y1.2 69 48).toNatClampNeg ((mI y1.2 111 (mI y1.2 69 48).toNatClampNeg) - (1 : Int32))) fun M1 =>
      (d_X12_made x3 M1).bind fun y2 =>
      d_X12_reckonsOn_194 y2.1 y2.2) := id rfl
theorem bq_X12_reckonsOn_171 {β : Type} (x3 : Int32) (s1 : Int32) (s2 : Int32) (M : Mem) (f : Unit × Mem → Option β) : (d_X12_reckonsOn_171 x3 s1 s2 M).bind f = Option.bind (
      (d_X12_gives s1 s2 FP.dconst0 M).bind fun y1 =>
      okk (vp_in (mI y1.2 69 48) 12) <|
      okk (vp_in (mI y1.2 69 48) 12) <|
      bnd (sI y1.2 111 (mI y1.2 69 48).toNatClampNeg ((mI y1.2 111 (mI y1.2 69 48).toNatClampNeg) - (1 : Int32))) fun M1 =>
      (d_X12_made x3 M1).bind fun y2 =>
      d_X12_reckonsOn_194 y2.1 y2.2) f := id rfl
theorem tq_X12_reckonsOn_125 (s0 : Int32) (M : Mem) : d_X12_reckonsOn_125 s0 M = (
      (d_X12_top (0 : Int32) M).bind fun y1 =>
      okk (vp_in y1.1 168) <|
      if (mI y1.2 105 y1.1.toNatClampNeg) = (105 : Int32) then (
        (d_X12_top (0 : Int32) y1.2).bind fun y4 =>
        okk (vp_in y4.1 168) <|
        d_X12_reckonsOn_171 s0 (105 : Int32) (mI y4.2 106 y4.1.toNatClampNeg) y4.2)
      else (
        (d_X12_top (0 : Int32) y1.2).bind fun y2 =>
        okk (vp_in y2.1 168) <|
        (d_X12_rounded (mD y2.2 107 y2.1.toNatClampNeg) y2.2).bind fun y3 =>
        d_X12_reckonsOn_171 s0 (105 : Int32) (FP.d2i y3.1) y3.2)) := id rfl
theorem bq_X12_reckonsOn_125 {β : Type} (s0 : Int32) (M : Mem) (f : Unit × Mem → Option β) : (d_X12_reckonsOn_125 s0 M).bind f = Option.bind (
      (d_X12_top (0 : Int32) M).bind fun y1 =>
      okk (vp_in y1.1 168) <|
      if (mI y1.2 105 y1.1.toNatClampNeg) = (105 : Int32) then (
        (d_X12_top (0 : Int32) y1.2).bind fun y4 =>
        okk (vp_in y4.1 168) <|
        d_X12_reckonsOn_171 s0 (105 : Int32) (mI y4.2 106 y4.1.toNatClampNeg) y4.2)
      else (
        (d_X12_top (0 : Int32) y1.2).bind fun y2 =>
        okk (vp_in y2.1 168) <|
        (d_X12_rounded (mD y2.2 107 y2.1.toNatClampNeg) y2.2).bind fun y3 =>
        d_X12_reckonsOn_171 s0 (105 : Int32) (FP.d2i y3.1) y3.2)) f := id rfl
theorem tq_X12_reckonsOn_124 (M : Mem) : d_X12_reckonsOn_124 M = (
      d_X12_reckonsOn_125 (0 : Int32) M) := id rfl
theorem bq_X12_reckonsOn_124 {β : Type} (M : Mem) (f : Unit × Mem → Option β) : (d_X12_reckonsOn_124 M).bind f = Option.bind (
      d_X12_reckonsOn_125 (0 : Int32) M) f := id rfl
theorem tq_X12_reckonsOn_57 (x1 : Int32) (s0 : Int32) (M : Mem) : d_X12_reckonsOn_57 x1 s0 M = (
      (d_X12_top (1 : Int32) M).bind fun y1 =>
      (d_X12_top (0 : Int32) y1.2).bind fun y2 =>
      (d_X12_reckons x1 y1.1 y2.1 y2.2).bind fun y3 =>
      okk (vp_in (mI y3.2 69 48) 12) <|
      okk (vp_in (mI y3.2 69 48) 12) <|
      bnd (sI y3.2 111 (mI y3.2 69 48).toNatClampNeg ((mI y3.2 111 (mI y3.2 69 48).toNatClampNeg) - (2 : Int32))) fun M1 =>
      (d_X12_made s0 M1).bind fun y4 =>
      d_X12_reckonsOn_194 y4.1 y4.2) := id rfl
theorem bq_X12_reckonsOn_57 {β : Type} (x1 : Int32) (s0 : Int32) (M : Mem) (f : Unit × Mem → Option β) : (d_X12_reckonsOn_57 x1 s0 M).bind f = Option.bind (
      (d_X12_top (1 : Int32) M).bind fun y1 =>
      (d_X12_top (0 : Int32) y1.2).bind fun y2 =>
      (d_X12_reckons x1 y1.1 y2.1 y2.2).bind fun y3 =>
      okk (vp_in (mI y3.2 69 48) 12) <|
      okk (vp_in (mI y3.2 69 48) 12) <|
      bnd (sI y3.2 111 (mI y3.2 69 48).toNatClampNeg ((mI y3.2 111 (mI y3.2 69 48).toNatClampNeg) - (2 : Int32))) fun M1 =>
      (d_X12_made s0 M1).bind fun y4 =>
      d_X12_reckonsOn_194 y4.1 y4.2) f := id rfl
theorem tq_X12_reckonsOn_56 (x1 : Int32) (M : Mem) : d_X12_reckonsOn_56 x1 M = (
      d_X12_reckonsOn_57 x1 (0 : Int32) M) := id rfl
theorem bq_X12_reckonsOn_56 {β : Type} (x1 : Int32) (M : Mem) (f : Unit × Mem → Option β) : (d_X12_reckonsOn_56 x1 M).bind f = Option.bind (
      d_X12_reckonsOn_57 x1 (0 : Int32) M) f := id rfl
theorem tq_X12_reckonsOn (x1 : Int32) (M : Mem) : d_X12_reckonsOn x1 M = (
      (d_X12_isPair x1 M).bind fun y1 =>
      if y1.1 = 0 then (
        if (mI y1.2 69 71) = 0 then (
          d_X12_reckonsOn_124 y1.2)
        else (
          (d_X12_top (0 : Int32) y1.2).bind fun y2 =>
          okk (vp_in y2.1 168) <|
          okk (vp_in (mI y2.2 108 y2.1.toNatClampNeg) 600) <|
          if (mI y2.2 124 (mI y2.2 108 y2.1.toNatClampNeg).toNatClampNeg) = 0 then (
            d_X12_reckonsOn_124 y2.2)
          else (
            d_X12_reckonsOn_125 (1 : Int32) y2.2)))
      else (
        if (mI y1.2 69 71) = 0 then (
          d_X12_reckonsOn_56 x1 y1.2)
        else (
          (d_X12_top (1 : Int32) y1.2).bind fun y3 =>
          okk (vp_in y3.1 168) <|
          okk (vp_in (mI y3.2 108 y3.1.toNatClampNeg) 600) <|
          if (mI y3.2 124 (mI y3.2 108 y3.1.toNatClampNeg).toNatClampNeg) = 0 then (
            d_X12_reckonsOn_56 x1 y3.2)
          else (
            (d_X12_top (0 : Int32) y3.2).bind fun y4 =>
            okk (vp_in y4.1 168) <|
            okk (vp_in (mI y4.2 108 y4.1.toNatClampNeg) 600) <|
            if (mI y4.2 124 (mI y4.2 108 y4.1.toNatClampNeg).toNatClampNeg) = 0 then (
              d_X12_reckonsOn_56 x1 y4.2)
            else (
              d_X12_reckonsOn_57 x1 (1 : Int32) y4.2))))) := id rfl
theorem bq_X12_reckonsOn {β : Type} (x1 : Int32) (M : Mem) (f : Unit × Mem → Option β) : (d_X12_reckonsOn x1 M).bind f = Option.bind (
      (d_X12_isPair x1 M).bind fun y1 =>
      if y1.1 = 0 then (
        if (mI y1.2 69 71) = 0 then (
          d_X12_reckonsOn_124 y1.2)
        else (
          (d_X12_top (0 : Int32) y1.2).bind fun y2 =>
          okk (vp_in y2.1 168) <|
          okk (vp_in (mI y2.2 108 y2.1.toNatClampNeg) 600) <|
          if (mI y2.2 124 (mI y2.2 108 y2.1.toNatClampNeg).toNatClampNeg) = 0 then (
            d_X12_reckonsOn_124 y2.2)
          else (
            d_X12_reckonsOn_125 (1 : Int32) y2.2)))
      else (
        if (mI y1.2 69 71) = 0 then (
          d_X12_reckonsOn_56 x1 y1.2)
        else (
          (d_X12_top (1 : Int32) y1.2).bind fun y3 =>
          okk (vp_in y3.1 168) <|
          okk (vp_in (mI y3.2 108 y3.1.toNatClampNeg) 600) <|
          if (mI y3.2 124 (mI y3.2 108 y3.1.toNatClampNeg).toNatClampNeg) = 0 then (
            d_X12_reckonsOn_56 x1 y3.2)
          else (
            (d_X12_top (0 : Int32) y3.2).bind fun y4 =>
            okk (vp_in y4.1 168) <|
            okk (vp_in (mI y4.2 108 y4.1.toNatClampNeg) 600) <|
            if (mI y4.2 124 (mI y4.2 108 y4.1.toNatClampNeg).toNatClampNeg) = 0 then (
              d_X12_reckonsOn_56 x1 y4.2)
            else (
              d_X12_reckonsOn_57 x1 (1 : Int32) y4.2))))) f := id rfl
theorem tq_X12_makes_61 (x3 : Int32) (M : Mem) : d_X12_makes_61 x3 M = (
      (d_X12_pushes x3 M).bind fun y1 =>
      okk (vp_in (mI y1.2 69 48) 12) <|
      okk (vp_in (mI y1.2 69 48) 12) <|
      bnd (sI y1.2 110 (mI y1.2 69 48).toNatClampNeg ((mI y1.2 110 (mI y1.2 69 48).toNatClampNeg) + (1 : Int32))) fun M1 =>
      some ((), M1)) := id rfl
theorem bq_X12_makes_61 {β : Type} (x3 : Int32) (M : Mem) (f : Unit × Mem → Option β) : (d_X12_makes_61 x3 M).bind f = Option.bind (
      (d_X12_pushes x3 M).bind fun y1 =>
      okk (vp_in (mI y1.2 69 48) 12) <|
      okk (vp_in (mI y1.2 69 48) 12) <|
      bnd (sI y1.2 110 (mI y1.2 69 48).toNatClampNeg ((mI y1.2 110 (mI y1.2 69 48).toNatClampNeg) + (1 : Int32))) fun M1 =>
      some ((), M1)) f := id rfl
theorem tq_X12_makes (x1 : Int32) (M : Mem) : d_X12_makes x1 M = (
      okk (vp_in x1 5) <|
      bnd ((mI M 78 x1.toNatClampNeg)) fun b1 =>
      okk (vp_in (mI M 69 52) 60) <|
      bnd (sI M 112 (mI M 69 52).toNatClampNeg b1) fun M1 =>
      (d_X12_gives (111 : Int32) (mI M1 69 52) FP.dconst0 M1).bind fun y1 =>
      bnd (sI y1.2 69 52 ((mI y1.2 69 52) + (1 : Int32))) fun M2 =>
      if (mI M2 69 71) = 0 then (
        d_X12_makes_61 (0 : Int32) M2)
      else (
        (d_X12_valueOf (111 : Int32) M2).bind fun y2 =>
        okk (vp_in y2.1 600) <|
        bnd (sI y2.2 125 y2.1.toNatClampNeg b1) fun M3 =>
        d_X12_makes_61 y2.1 M3)) := id rfl
theorem bq_X12_makes {β : Type} (x1 : Int32) (M : Mem) (f : Unit × Mem → Option β) : (d_X12_makes x1 M).bind f = Option.bind (
      okk (vp_in x1 5) <|
      bnd ((mI M 78 x1.toNatClampNeg)) fun b1 =>
      okk (vp_in (mI M 69 52) 60) <|
      bnd (sI M 112 (mI M 69 52).toNatClampNeg b1) fun M1 =>
      (d_X12_gives (111 : Int32) (mI M1 69 52) FP.dconst0 M1).bind fun y1 =>
      bnd (sI y1.2 69 52 ((mI y1.2 69 52) + (1 : Int32))) fun M2 =>
      if (mI M2 69 71) = 0 then (
        d_X12_makes_61 (0 : Int32) M2)
      else (
        (d_X12_valueOf (111 : Int32) M2).bind fun y2 =>
        okk (vp_in y2.1 600) <|
        bnd (sI y2.2 125 y2.1.toNatClampNeg b1) fun M3 =>
        d_X12_makes_61 y2.1 M3)) f := id rfl
theorem tq_X12_fetches_77 (s1 : Int32) (M : Mem) : d_X12_fetches_77 s1 M = (
      (d_X12_pushes s1 M).bind fun y1 =>
      okk (vp_in (mI y1.2 69 48) 12) <|
      okk (vp_in (mI y1.2 69 48) 12) <|
      bnd (sI y1.2 110 (mI y1.2 69 48).toNatClampNeg ((mI y1.2 110 (mI y1.2 69 48).toNatClampNeg) + (1 : Int32))) fun M1 =>
      some ((), M1)) := id rfl
theorem bq_X12_fetches_77 {β : Type} (s1 : Int32) (M : Mem) (f : Unit × Mem → Option β) : (d_X12_fetches_77 s1 M).bind f = Option.bind (
      (d_X12_pushes s1 M).bind fun y1 =>
      okk (vp_in (mI y1.2 69 48) 12) <|
      okk (vp_in (mI y1.2 69 48) 12) <|
      bnd (sI y1.2 110 (mI y1.2 69 48).toNatClampNeg ((mI y1.2 110 (mI y1.2 69 48).toNatClampNeg) + (1 : Int32))) fun M1 =>
      some ((), M1)) f := id rfl
theorem tq_X12_fetches (x1 : Int32) (M : Mem) : d_X12_fetches x1 M = (
      (d_X12_top (0 : Int32) M).bind fun y1 =>
      okk (vp_in y1.1 168) <|
      bnd ((mI y1.2 106 y1.1.toNatClampNeg)) fun b1 =>
      okk (vp_in (((6 : Int32) * b1) + x1) 360) <|
      okk (vp_in (((6 : Int32) * b1) + x1) 360) <|
      okk (vp_in (((6 : Int32) * b1) + x1) 360) <|
      (d_X12_gives (mI y1.2 113 (((6 : Int32) * b1) + x1).toNatClampNeg) (mI y1.2 114 (((6 : Int32) * b1) + x1).toNatClampNeg) (mD y1.2 115 (((6 : Int32) * b1) + x1).toNatClampNeg) y1.2).bind fun y2 =>
      okk (vp_in (mI y2.2 69 48) 12) <|
      okk (vp_in (mI y2.2 69 48) 12) <|
      bnd (sI y2.2 111 (mI y2.2 69 48).toNatClampNeg ((mI y2.2 111 (mI y2.2 69 48).toNatClampNeg) - (1 : Int32))) fun M1 =>
      if (mI M1 69 71) = 0 then (
        d_X12_fetches_77 (0 : Int32) M1)
      else (
        (d_X12_newValue M1).bind fun y3 =>
        d_X12_fetches_77 y3.1 y3.2)) := id rfl
theorem bq_X12_fetches {β : Type} (x1 : Int32) (M : Mem) (f : Unit × Mem → Option β) : (d_X12_fetches x1 M).bind f = Option.bind (
      (d_X12_top (0 : Int32) M).bind fun y1 =>
      okk (vp_in y1.1 168) <|
      bnd ((mI y1.2 106 y1.1.toNatClampNeg)) fun b1 =>
      okk (vp_in (((6 : Int32) * b1) + x1) 360) <|
      okk (vp_in (((6 : Int32) * b1) + x1) 360) <|
      okk (vp_in (((6 : Int32) * b1) + x1) 360) <|
      (d_X12_gives (mI y1.2 113 (((6 : Int32) * b1) + x1).toNatClampNeg) (mI y1.2 114 (((6 : Int32) * b1) + x1).toNatClampNeg) (mD y1.2 115 (((6 : Int32) * b1) + x1).toNatClampNeg) y1.2).bind fun y2 =>
      okk (vp_in (mI y2.2 69 48) 12) <|
      okk (vp_in (mI y2.2 69 48) 12) <|
      bnd (sI y2.2 111 (mI y2.2 69 48).toNatClampNeg ((mI y2.2 111 (mI y2.2 69 48).toNatClampNeg) - (1 : Int32))) fun M1 =>
      if (mI M1 69 71) = 0 then (
        d_X12_fetches_77 (0 : Int32) M1)
      else (
        (d_X12_newValue M1).bind fun y3 =>
        d_X12_fetches_77 y3.1 y3.2)) f := id rfl
theorem tq_X12_executes_78 (s1 : Int32) (s2 : Int32) (M : Mem) : d_X12_executes_78 s1 s2 M = (
      (d_X12_gives s1 s2 FP.dconst0 M).bind fun y1 =>
      (d_X12_made (1 : Int32) y1.2).bind fun y2 =>
      (d_X12_pushes y2.1 y2.2).bind fun y3 =>
      okk (vp_in (mI y3.2 69 48) 12) <|
      okk (vp_in (mI y3.2 69 48) 12) <|
      bnd (sI y3.2 110 (mI y3.2 69 48).toNatClampNeg ((mI y3.2 110 (mI y3.2 69 48).toNatClampNeg) + (1 : Int32))) fun M1 =>
      some ((), M1)) := id rfl
theorem bq_X12_executes_78 {β : Type} (s1 : Int32) (s2 : Int32) (M : Mem) (f : Unit × Mem → Option β) : (d_X12_executes_78 s1 s2 M).bind f = Option.bind (
      (d_X12_gives s1 s2 FP.dconst0 M).bind fun y1 =>
      (d_X12_made (1 : Int32) y1.2).bind fun y2 =>
      (d_X12_pushes y2.1 y2.2).bind fun y3 =>
      okk (vp_in (mI y3.2 69 48) 12) <|
      okk (vp_in (mI y3.2 69 48) 12) <|
      bnd (sI y3.2 110 (mI y3.2 69 48).toNatClampNeg ((mI y3.2 110 (mI y3.2 69 48).toNatClampNeg) + (1 : Int32))) fun M1 =>
      some ((), M1)) f := id rfl
theorem tq_X12_executes_59 (x2 : Int32) (x3 : Int32) (M : Mem) : d_X12_executes_59 x2 x3 M = (
      if x2 = (105 : Int32) then (
        d_X12_executes_78 (105 : Int32) x3 M)
      else (
        okk (vp_in x3 8) <|
        d_X12_executes_78 (105 : Int32) (mI M 75 x3.toNatClampNeg) M)) := id rfl
theorem bq_X12_executes_59 {β : Type} (x2 : Int32) (x3 : Int32) (M : Mem) (f : Unit × Mem → Option β) : (d_X12_executes_59 x2 x3 M).bind f = Option.bind (
      if x2 = (105 : Int32) then (
        d_X12_executes_78 (105 : Int32) x3 M)
      else (
        okk (vp_in x3 8) <|
        d_X12_executes_78 (105 : Int32) (mI M 75 x3.toNatClampNeg) M)) f := id rfl
theorem tq_X12_executes_310 (x2 : Int32) (M : Mem) : d_X12_executes_310 x2 M = (
      (d_X12_reckonsOn x2 M).bind fun y1 =>
      some ((), y1.2)) := id rfl
theorem bq_X12_executes_310 {β : Type} (x2 : Int32) (M : Mem) (f : Unit × Mem → Option β) : (d_X12_executes_310 x2 M).bind f = Option.bind (
      (d_X12_reckonsOn x2 M).bind fun y1 =>
      some ((), y1.2)) f := id rfl
theorem tq_X12_executes (M : Mem) : d_X12_executes M = (
      okk (vp_in (mI M 69 48) 12) <|
      okk (vp_in (mI M 69 48) 12) <|
      bnd ((((40 : Int32) * (mI M 109 (mI M 69 48).toNatClampNeg)) + (mI M 110 (mI M 69 48).toNatClampNeg))) fun b1 =>
      okk (vp_in b1 320) <|
      bnd ((mI M 72 b1.toNatClampNeg)) fun b2 =>
      okk (vp_in b1 320) <|
      bnd ((mI M 73 b1.toNatClampNeg)) fun b3 =>
      bnd (sI M 69 57 ((mI M 69 57) + (1 : Int32))) fun M1 =>
      if b2 = (105 : Int32) then (
        d_X12_executes_59 b2 b3 M1)
      else (
        if b2 = (107 : Int32) then (
          d_X12_executes_59 b2 b3 M1)
        else (
          if b2 = (108 : Int32) then (
            okk (vp_in (mI M1 69 48) 12) <|
            okk (vp_in (mI M1 69 48) 12) <|
            bnd (sI M1 111 (mI M1 69 48).toNatClampNeg ((mI M1 111 (mI M1 69 48).toNatClampNeg) + (1 : Int32))) fun M12 =>
            (d_X12_top (0 : Int32) M12).bind fun y18 =>
            (d_X12_copies (((14 : Int32) * (mI M12 69 48)) + b3) y18.1 y18.2).bind fun y19 =>
            okk (vp_in (mI y19.2 69 48) 12) <|
            okk (vp_in (mI y19.2 69 48) 12) <|
            bnd (sI y19.2 110 (mI y19.2 69 48).toNatClampNeg ((mI y19.2 110 (mI y19.2 69 48).toNatClampNeg) + (1 : Int32))) fun M13 =>
            some ((), M13))
          else (
            if b2 = (115 : Int32) then (
              (d_X12_top (0 : Int32) M1).bind fun y16 =>
              (d_X12_copies y16.1 (((14 : Int32) * (mI y16.2 69 48)) + b3) y16.2).bind fun y17 =>
              okk (vp_in (mI y17.2 69 48) 12) <|
              okk (vp_in (mI y17.2 69 48) 12) <|
              bnd (sI y17.2 111 (mI y17.2 69 48).toNatClampNeg ((mI y17.2 111 (mI y17.2 69 48).toNatClampNeg) - (1 : Int32))) fun M10 =>
              okk (vp_in (mI M10 69 48) 12) <|
              okk (vp_in (mI M10 69 48) 12) <|
              bnd (sI M10 110 (mI M10 69 48).toNatClampNeg ((mI M10 110 (mI M10 69 48).toNatClampNeg) + (1 : Int32))) fun M11 =>
              some ((), M11))
            else (
              if b2 = (117 : Int32) then (
                okk (vp_in (mI M1 69 48) 12) <|
                okk (vp_in (mI M1 69 48) 12) <|
                bnd (sI M1 111 (mI M1 69 48).toNatClampNeg ((mI M1 111 (mI M1 69 48).toNatClampNeg) + (1 : Int32))) fun M8 =>
                (d_X12_top (1 : Int32) M8).bind fun y13 =>
                (d_X12_top (0 : Int32) y13.2).bind fun y14 =>
                (d_X12_copies y13.1 y14.1 y14.2).bind fun y15 =>
                okk (vp_in (mI y15.2 69 48) 12) <|
                okk (vp_in (mI y15.2 69 48) 12) <|
                bnd (sI y15.2 110 (mI y15.2 69 48).toNatClampNeg ((mI y15.2 110 (mI y15.2 69 48).toNatClampNeg) + (1 : Int32))) fun M9 =>
                some ((), M9))
              else (
                if b2 = (100 : Int32) then (
                  okk (vp_in (mI M1 69 48) 12) <|
                  okk (vp_in (mI M1 69 48) 12) <|
                  bnd (sI M1 111 (mI M1 69 48).toNatClampNeg ((mI M1 111 (mI M1 69 48).toNatClampNeg) - (1 : Int32))) fun M6 =>
                  okk (vp_in (mI M6 69 48) 12) <|
                  okk (vp_in (mI M6 69 48) 12) <|
                  bnd (sI M6 110 (mI M6 69 48).toNatClampNeg ((mI M6 110 (mI M6 69 48).toNatClampNeg) + (1 : Int32))) fun M7 =>
                  some ((), M7))
                else (
                  (d_X12_isPair b2 M1).bind fun y1 =>
                  if y1.1 = 0 then (
                    if b2 = (119 : Int32) then (
                      d_X12_executes_310 b2 y1.2)
                    else (
                      if b2 = (106 : Int32) then (
                        okk (vp_in (mI y1.2 69 48) 12) <|
                        bnd (sI y1.2 110 (mI y1.2 69 48).toNatClampNeg b3) fun M5 =>
                        some ((), M5))
                      else (
                        if b2 = (122 : Int32) then (
                          (d_X12_top (0 : Int32) y1.2).bind fun y11 =>
                          (d_X12_isNull y11.1 y11.2).bind fun y12 =>
                          okk (vp_in (mI y12.2 69 48) 12) <|
                          okk (vp_in (mI y12.2 69 48) 12) <|
                          bnd (sI y12.2 111 (mI y12.2 69 48).toNatClampNeg ((mI y12.2 111 (mI y12.2 69 48).toNatClampNeg) - (1 : Int32))) fun M2 =>
                          if y12.1 = 0 then (
                            okk (vp_in (mI M2 69 48) 12) <|
                            okk (vp_in (mI M2 69 48) 12) <|
                            bnd (sI M2 110 (mI M2 69 48).toNatClampNeg ((mI M2 110 (mI M2 69 48).toNatClampNeg) + (1 : Int32))) fun M3 =>
                            some ((), M3))
                          else (
                            okk (vp_in (mI M2 69 48) 12) <|
                            bnd (sI M2 110 (mI M2 69 48).toNatClampNeg b3) fun M4 =>
                            some ((), M4)))
                        else (
                          if b2 = (110 : Int32) then (
                            (d_X12_makes b3 y1.2).bind fun y10 =>
                            some ((), y10.2))
                          else (
                            if b2 = (103 : Int32) then (
                              (d_X12_fetches b3 y1.2).bind fun y9 =>
                              some ((), y9.2))
                            else (
                              if b2 = (112 : Int32) then (
                                (d_X12_puts b3 y1.2).bind fun y8 =>
                                some ((), y8.2))
                              else (
                                if b2 = (99 : Int32) then (
                                  okk (vp_in b3 8) <|
                                  (d_X12_calls b3 (mI y1.2 70 b3.toNatClampNeg) y1.2).bind fun y7 =>
                                  some ((), y7.2))
                                else (
                                  if b2 = (109 : Int32) then (
                                    (d_X12_top (0 : Int32) y1.2).bind fun y4 =>
                                    okk (vp_in y4.1 168) <|
                                    okk (vp_in (mI y4.2 106 y4.1.toNatClampNeg) 60) <|
                                    okk (vp_in (mI y4.2 112 (mI y4.2 106 y4.1.toNatClampNeg).toNatClampNeg) 60) <|
                                    (d_X12_methodOf (mI y4.2 79 (mI y4.2 112 (mI y4.2 106 y4.1.toNatClampNeg).toNatClampNeg).toNatClampNeg) b3 y4.2).bind fun y5 =>
                                    (d_X12_calls y5.1 (1 : Int32) y5.2).bind fun y6 =>
                                    some ((), y6.2))
                                  else (
                                    if b2 = (114 : Int32) then (
                                      (d_X12_returns y1.2).bind fun y3 =>
                                      some ((), y3.2))
                                    else (
                                      (d_X12_tells y1.2).bind fun y2 =>
                                      some ((), y2.2)))))))))))
                  else (
                    d_X12_executes_310 b2 y1.2)))))))) := id rfl
theorem bq_X12_executes {β : Type} (M : Mem) (f : Unit × Mem → Option β) : (d_X12_executes M).bind f = Option.bind (
      okk (vp_in (mI M 69 48) 12) <|
      okk (vp_in (mI M 69 48) 12) <|
      bnd ((((40 : Int32) * (mI M 109 (mI M 69 48).toNatClampNeg)) + (mI M 110 (mI M 69 48).toNatClampNeg))) fun b1 =>
      okk (vp_in b1 320) <|
      bnd ((mI M 72 b1.toNatClampNeg)) fun b2 =>
      okk (vp_in b1 320) <|
      bnd ((mI M 73 b1.toNatClampNeg)) fun b3 =>
      bnd (sI M 69 57 ((mI M 69 57) + (1 : Int32))) fun M1 =>
      if b2 = (105 : Int32) then (
        d_X12_executes_59 b2 b3 M1)
      else (
        if b2 = (107 : Int32) then (
          d_X12_executes_59 b2 b3 M1)
        else (
          if b2 = (108 : Int32) then (
            okk (vp_in (mI M1 69 48) 12) <|
            okk (vp_in (mI M1 69 48) 12) <|
            bnd (sI M1 111 (mI M1 69 48).toNatClampNeg ((mI M1 111 (mI M1 69 48).toNatClampNeg) + (1 : Int32))) fun M12 =>
            (d_X12_top (0 : Int32) M12).bind fun y18 =>
            (d_X12_copies (((14 : Int32) * (mI M12 69 48)) + b3) y18.1 y18.2).bind fun y19 =>
            okk (vp_in (mI y19.2 69 48) 12) <|
            okk (vp_in (mI y19.2 69 48) 12) <|
            bnd (sI y19.2 110 (mI y19.2 69 48).toNatClampNeg ((mI y19.2 110 (mI y19.2 69 48).toNatClampNeg) + (1 : Int32))) fun M13 =>
            some ((), M13))
          else (
            if b2 = (115 : Int32) then (
              (d_X12_top (0 : Int32) M1).bind fun y16 =>
              (d_X12_copies y16.1 (((14 : Int32) * (mI y16.2 69 48)) + b3) y16.2).bind fun y17 =>
              okk (vp_in (mI y17.2 69 48) 12) <|
              okk (vp_in (mI y17.2 69 48) 12) <|
              bnd (sI y17.2 111 (mI y17.2 69 48).toNatClampNeg ((mI y17.2 111 (mI y17.2 69 48).toNatClampNeg) - (1 : Int32))) fun M10 =>
              okk (vp_in (mI M10 69 48) 12) <|
              okk (vp_in (mI M10 69 48) 12) <|
              bnd (sI M10 110 (mI M10 69 48).toNatClampNeg ((mI M10 110 (mI M10 69 48).toNatClampNeg) + (1 : Int32))) fun M11 =>
              some ((), M11))
            else (
              if b2 = (117 : Int32) then (
                okk (vp_in (mI M1 69 48) 12) <|
                okk (vp_in (mI M1 69 48) 12) <|
                bnd (sI M1 111 (mI M1 69 48).toNatClampNeg ((mI M1 111 (mI M1 69 48).toNatClampNeg) + (1 : Int32))) fun M8 =>
                (d_X12_top (1 : Int32) M8).bind fun y13 =>
                (d_X12_top (0 : Int32) y13.2).bind fun y14 =>
                (d_X12_copies y13.1 y14.1 y14.2).bind fun y15 =>
                okk (vp_in (mI y15.2 69 48) 12) <|
                okk (vp_in (mI y15.2 69 48) 12) <|
                bnd (sI y15.2 110 (mI y15.2 69 48).toNatClampNeg ((mI y15.2 110 (mI y15.2 69 48).toNatClampNeg) + (1 : Int32))) fun M9 =>
                some ((), M9))
              else (
                if b2 = (100 : Int32) then (
                  okk (vp_in (mI M1 69 48) 12) <|
                  okk (vp_in (mI M1 69 48) 12) <|
                  bnd (sI M1 111 (mI M1 69 48).toNatClampNeg ((mI M1 111 (mI M1 69 48).toNatClampNeg) - (1 : Int32))) fun M6 =>
                  okk (vp_in (mI M6 69 48) 12) <|
                  okk (vp_in (mI M6 69 48) 12) <|
                  bnd (sI M6 110 (mI M6 69 48).toNatClampNeg ((mI M6 110 (mI M6 69 48).toNatClampNeg) + (1 : Int32))) fun M7 =>
                  some ((), M7))
                else (
                  (d_X12_isPair b2 M1).bind fun y1 =>
                  if y1.1 = 0 then (
                    if b2 = (119 : Int32) then (
                      d_X12_executes_310 b2 y1.2)
                    else (
                      if b2 = (106 : Int32) then (
                        okk (vp_in (mI y1.2 69 48) 12) <|
                        bnd (sI y1.2 110 (mI y1.2 69 48).toNatClampNeg b3) fun M5 =>
                        some ((), M5))
                      else (
                        if b2 = (122 : Int32) then (
                          (d_X12_top (0 : Int32) y1.2).bind fun y11 =>
                          (d_X12_isNull y11.1 y11.2).bind fun y12 =>
                          okk (vp_in (mI y12.2 69 48) 12) <|
                          okk (vp_in (mI y12.2 69 48) 12) <|
                          bnd (sI y12.2 111 (mI y12.2 69 48).toNatClampNeg ((mI y12.2 111 (mI y12.2 69 48).toNatClampNeg) - (1 : Int32))) fun M2 =>
                          if y12.1 = 0 then (
                            okk (vp_in (mI M2 69 48) 12) <|
                            okk (vp_in (mI M2 69 48) 12) <|
                            bnd (sI M2 110 (mI M2 69 48).toNatClampNeg ((mI M2 110 (mI M2 69 48).toNatClampNeg) + (1 : Int32))) fun M3 =>
                            some ((), M3))
                          else (
                            okk (vp_in (mI M2 69 48) 12) <|
                            bnd (sI M2 110 (mI M2 69 48).toNatClampNeg b3) fun M4 =>
                            some ((), M4)))
                        else (
                          if b2 = (110 : Int32) then (
                            (d_X12_makes b3 y1.2).bind fun y10 =>
                            some ((), y10.2))
                          else (
                            if b2 = (103 : Int32) then (
                              (d_X12_fetches b3 y1.2).bind fun y9 =>
                              some ((), y9.2))
                            else (
                              if b2 = (112 : Int32) then (
                                (d_X12_puts b3 y1.2).bind fun y8 =>
                                some ((), y8.2))
                              else (
                                if b2 = (99 : Int32) then (
                                  okk (vp_in b3 8) <|
                                  (d_X12_calls b3 (mI y1.2 70 b3.toNatClampNeg) y1.2).bind fun y7 =>
                                  some ((), y7.2))
                                else (
                                  if b2 = (109 : Int32) then (
                                    (d_X12_top (0 : Int32) y1.2).bind fun y4 =>
                                    okk (vp_in y4.1 168) <|
                                    okk (vp_in (mI y4.2 106 y4.1.toNatClampNeg) 60) <|
                                    okk (vp_in (mI y4.2 112 (mI y4.2 106 y4.1.toNatClampNeg).toNatClampNeg) 60) <|
                                    (d_X12_methodOf (mI y4.2 79 (mI y4.2 112 (mI y4.2 106 y4.1.toNatClampNeg).toNatClampNeg).toNatClampNeg) b3 y4.2).bind fun y5 =>
                                    (d_X12_calls y5.1 (1 : Int32) y5.2).bind fun y6 =>
                                    some ((), y6.2))
                                  else (
                                    if b2 = (114 : Int32) then (
                                      (d_X12_returns y1.2).bind fun y3 =>
                                      some ((), y3.2))
                                    else (
                                      (d_X12_tells y1.2).bind fun y2 =>
                                      some ((), y2.2)))))))))))
                  else (
                    d_X12_executes_310 b2 y1.2)))))))) f := id rfl
theorem tq_X12_endsBy (x1 : Int32) (M : Mem) : d_X12_endsBy x1 M = (
      (d_X12_breaksOff M).bind fun y1 =>
      bnd (sI y1.2 69 68 (-1 : Int32)) fun M1 =>
      bnd (sI M1 69 67 (0 : Int32)) fun M2 =>
      bnd (sI M2 69 62 (120 : Int32)) fun M3 =>
      okk (isCh x1) <|
      bnd (sI M3 69 65 x1) fun M4 =>
      okk (vp_in (mI M4 69 48) 12) <|
      okk (vp_in (mI M4 69 48) 12) <|
      bnd (sI M4 69 66 (((100 : Int32) * (mI M4 109 (mI M4 69 48).toNatClampNeg)) + (mI M4 110 (mI M4 69 48).toNatClampNeg))) fun M5 =>
      some ((), M5)) := id rfl
theorem bq_X12_endsBy {β : Type} (x1 : Int32) (M : Mem) (f : Unit × Mem → Option β) : (d_X12_endsBy x1 M).bind f = Option.bind (
      (d_X12_breaksOff M).bind fun y1 =>
      bnd (sI y1.2 69 68 (-1 : Int32)) fun M1 =>
      bnd (sI M1 69 67 (0 : Int32)) fun M2 =>
      bnd (sI M2 69 62 (120 : Int32)) fun M3 =>
      okk (isCh x1) <|
      bnd (sI M3 69 65 x1) fun M4 =>
      okk (vp_in (mI M4 69 48) 12) <|
      okk (vp_in (mI M4 69 48) 12) <|
      bnd (sI M4 69 66 (((100 : Int32) * (mI M4 109 (mI M4 69 48).toNatClampNeg)) + (mI M4 110 (mI M4 69 48).toNatClampNeg))) fun M5 =>
      some ((), M5)) f := id rfl
theorem tq_X12_failsBy_44 (x1 : Int32) (x2 : Int32) (M : Mem) : d_X12_failsBy_44 x1 x2 M = (
      if 0 ≤ x2 then (
        bnd (sI M 69 48 x2) fun M1 =>
        okk (vp_in x2 12) <|
        okk (vp_in (mI M1 109 x2.toNatClampNeg) 8) <|
        okk (vp_in x2 12) <|
        bnd (sI M1 110 x2.toNatClampNeg (mI M1 74 (mI M1 109 x2.toNatClampNeg).toNatClampNeg)) fun M2 =>
        okk (vp_in x2 12) <|
        bnd (sI M2 111 x2.toNatClampNeg (0 : Int32)) fun M3 =>
        (d_X12_gives (105 : Int32) x1 FP.dconst0 M3).bind fun y1 =>
        (d_X12_pushes (0 : Int32) y1.2).bind fun y2 =>
        some ((), y2.2))
      else (
        (d_X12_endsBy x1 M).bind fun y3 =>
        some ((), y3.2))) := id rfl
theorem bq_X12_failsBy_44 {β : Type} (x1 : Int32) (x2 : Int32) (M : Mem) (f : Unit × Mem → Option β) : (d_X12_failsBy_44 x1 x2 M).bind f = Option.bind (
      if 0 ≤ x2 then (
        bnd (sI M 69 48 x2) fun M1 =>
        okk (vp_in x2 12) <|
        okk (vp_in (mI M1 109 x2.toNatClampNeg) 8) <|
        okk (vp_in x2 12) <|
        bnd (sI M1 110 x2.toNatClampNeg (mI M1 74 (mI M1 109 x2.toNatClampNeg).toNatClampNeg)) fun M2 =>
        okk (vp_in x2 12) <|
        bnd (sI M2 111 x2.toNatClampNeg (0 : Int32)) fun M3 =>
        (d_X12_gives (105 : Int32) x1 FP.dconst0 M3).bind fun y1 =>
        (d_X12_pushes (0 : Int32) y1.2).bind fun y2 =>
        some ((), y2.2))
      else (
        (d_X12_endsBy x1 M).bind fun y3 =>
        some ((), y3.2))) f := id rfl
theorem tq_X12_failsBy_19b (k19 : (Int32) → Mem → Option (Unit × Mem)) (x1 : Int32) (x2 : Int32) (M : Mem) : d_X12_failsBy_19b k19 x1 x2 M = (
      if x2 < 0 then (
        d_X12_failsBy_44 x1 x2 M)
      else (
        okk (vp_in x2 12) <|
        okk (vp_in (mI M 109 x2.toNatClampNeg) 8) <|
        if (mI M 74 (mI M 109 x2.toNatClampNeg).toNatClampNeg) = (-1 : Int32) then (
          bnd ((x2 + (-1 : Int32))) fun b1 =>
          k19 (b1) M)
        else (
          d_X12_failsBy_44 x1 x2 M))) := id rfl
theorem bq_X12_failsBy_19b {β : Type} (k19 : (Int32) → Mem → Option (Unit × Mem)) (x1 : Int32) (x2 : Int32) (M : Mem) (f : Unit × Mem → Option β) : (d_X12_failsBy_19b k19 x1 x2 M).bind f = Option.bind (
      if x2 < 0 then (
        d_X12_failsBy_44 x1 x2 M)
      else (
        okk (vp_in x2 12) <|
        okk (vp_in (mI M 109 x2.toNatClampNeg) 8) <|
        if (mI M 74 (mI M 109 x2.toNatClampNeg).toNatClampNeg) = (-1 : Int32) then (
          bnd ((x2 + (-1 : Int32))) fun b1 =>
          k19 (b1) M)
        else (
          d_X12_failsBy_44 x1 x2 M))) f := id rfl
theorem tq_X12_failsBy (x1 : Int32) (M : Mem) : d_X12_failsBy x1 M = (
      (d_X12_breaksOff M).bind fun y1 =>
      bnd (sI y1.2 69 57 ((mI y1.2 69 57) + (1 : Int32))) fun M1 =>
      bnd ((mI M1 69 48)) fun b1 =>
      d_X12_failsBy_19 x1 fuel (b1) M1) := id rfl
theorem bq_X12_failsBy {β : Type} (x1 : Int32) (M : Mem) (f : Unit × Mem → Option β) : (d_X12_failsBy x1 M).bind f = Option.bind (
      (d_X12_breaksOff M).bind fun y1 =>
      bnd (sI y1.2 69 57 ((mI y1.2 69 57) + (1 : Int32))) fun M1 =>
      bnd ((mI M1 69 48)) fun b1 =>
      d_X12_failsBy_19 x1 fuel (b1) M1) f := id rfl
theorem tq_X12_looksUp_63b (k63 : (Int32) → Mem → Option (Unit × Mem)) (x2 : Int32) (x5 : Int32) (x6 : Int32) (M : Mem) : d_X12_looksUp_63b k63 x2 x5 x6 M = (
      okk (vp_in x2 320) <|
      if (mI M 83 x2.toNatClampNeg) ≤ x6 then (
        okk (vp_in x2 320) <|
        okk (vp_in x2 320) <|
        bnd (sI M 86 x2.toNatClampNeg ((mI M 86 x2.toNatClampNeg) + (1 : Int32))) fun M1 =>
        okk (vp_in x2 320) <|
        if (mI M1 83 x2.toNatClampNeg) = (3 : Int32) then (
          okk (vp_in x2 320) <|
          bnd (sI M1 83 x2.toNatClampNeg (-1 : Int32)) fun M4 =>
          some ((), M4))
        else (
          okk (vp_in x2 320) <|
          okk (vp_in (((3 : Int32) * x2) + (mI M1 83 x2.toNatClampNeg)) 960) <|
          bnd (sI M1 84 (((3 : Int32) * x2) + (mI M1 83 x2.toNatClampNeg)).toNatClampNeg x5) fun M2 =>
          okk (vp_in x2 320) <|
          okk (vp_in x2 320) <|
          bnd (sI M2 83 x2.toNatClampNeg ((mI M2 83 x2.toNatClampNeg) + (1 : Int32))) fun M3 =>
          some ((), M3)))
      else (
        okk (vp_in (((3 : Int32) * x2) + x6) 960) <|
        if (mI M 84 (((3 : Int32) * x2) + x6).toNatClampNeg) = x5 then (
          okk (vp_in x2 320) <|
          okk (vp_in x2 320) <|
          bnd (sI M 85 x2.toNatClampNeg ((mI M 85 x2.toNatClampNeg) + (1 : Int32))) fun M5 =>
          some ((), M5))
        else (
          bnd ((x6 + (1 : Int32))) fun b1 =>
          k63 (b1) M))) := id rfl
theorem bq_X12_looksUp_63b {β : Type} (k63 : (Int32) → Mem → Option (Unit × Mem)) (x2 : Int32) (x5 : Int32) (x6 : Int32) (M : Mem) (f : Unit × Mem → Option β) : (d_X12_looksUp_63b k63 x2 x5 x6 M).bind f = Option.bind (
      okk (vp_in x2 320) <|
      if (mI M 83 x2.toNatClampNeg) ≤ x6 then (
        okk (vp_in x2 320) <|
        okk (vp_in x2 320) <|
        bnd (sI M 86 x2.toNatClampNeg ((mI M 86 x2.toNatClampNeg) + (1 : Int32))) fun M1 =>
        okk (vp_in x2 320) <|
        if (mI M1 83 x2.toNatClampNeg) = (3 : Int32) then (
          okk (vp_in x2 320) <|
          bnd (sI M1 83 x2.toNatClampNeg (-1 : Int32)) fun M4 =>
          some ((), M4))
        else (
          okk (vp_in x2 320) <|
          okk (vp_in (((3 : Int32) * x2) + (mI M1 83 x2.toNatClampNeg)) 960) <|
          bnd (sI M1 84 (((3 : Int32) * x2) + (mI M1 83 x2.toNatClampNeg)).toNatClampNeg x5) fun M2 =>
          okk (vp_in x2 320) <|
          okk (vp_in x2 320) <|
          bnd (sI M2 83 x2.toNatClampNeg ((mI M2 83 x2.toNatClampNeg) + (1 : Int32))) fun M3 =>
          some ((), M3)))
      else (
        okk (vp_in (((3 : Int32) * x2) + x6) 960) <|
        if (mI M 84 (((3 : Int32) * x2) + x6).toNatClampNeg) = x5 then (
          okk (vp_in x2 320) <|
          okk (vp_in x2 320) <|
          bnd (sI M 85 x2.toNatClampNeg ((mI M 85 x2.toNatClampNeg) + (1 : Int32))) fun M5 =>
          some ((), M5))
        else (
          bnd ((x6 + (1 : Int32))) fun b1 =>
          k63 (b1) M))) f := id rfl
theorem tq_X12_looksUp_47 (x2 : Int32) (s0 : Int32) (M : Mem) : d_X12_looksUp_47 x2 s0 M = (
      okk (vp_in x2 320) <|
      if (mI M 83 x2.toNatClampNeg) = (-1 : Int32) then (
        some ((), M))
      else (
        d_X12_looksUp_63 x2 s0 fuel ((0 : Int32)) M)) := id rfl
theorem bq_X12_looksUp_47 {β : Type} (x2 : Int32) (s0 : Int32) (M : Mem) (f : Unit × Mem → Option β) : (d_X12_looksUp_47 x2 s0 M).bind f = Option.bind (
      okk (vp_in x2 320) <|
      if (mI M 83 x2.toNatClampNeg) = (-1 : Int32) then (
        some ((), M))
      else (
        d_X12_looksUp_63 x2 s0 fuel ((0 : Int32)) M)) f := id rfl
theorem tq_X12_looksUp_11 (x1 : Int32) (x2 : Int32) (s0 : Int32) (M : Mem) : d_X12_looksUp_11 x1 x2 s0 M = (
      (d_X12_top s0 M).bind fun y1 =>
      okk (vp_in y1.1 168) <|
      okk (vp_in (mI y1.2 106 y1.1.toNatClampNeg) 60) <|
      bnd ((mI y1.2 112 (mI y1.2 106 y1.1.toNatClampNeg).toNatClampNeg)) fun b1 =>
      if x1 = (109 : Int32) then (
        okk (vp_in b1 60) <|
        d_X12_looksUp_47 x2 (mI y1.2 79 b1.toNatClampNeg) y1.2)
      else (
        d_X12_looksUp_47 x2 b1 y1.2)) := id rfl
theorem bq_X12_looksUp_11 {β : Type} (x1 : Int32) (x2 : Int32) (s0 : Int32) (M : Mem) (f : Unit × Mem → Option β) : (d_X12_looksUp_11 x1 x2 s0 M).bind f = Option.bind (
      (d_X12_top s0 M).bind fun y1 =>
      okk (vp_in y1.1 168) <|
      okk (vp_in (mI y1.2 106 y1.1.toNatClampNeg) 60) <|
      bnd ((mI y1.2 112 (mI y1.2 106 y1.1.toNatClampNeg).toNatClampNeg)) fun b1 =>
      if x1 = (109 : Int32) then (
        okk (vp_in b1 60) <|
        d_X12_looksUp_47 x2 (mI y1.2 79 b1.toNatClampNeg) y1.2)
      else (
        d_X12_looksUp_47 x2 b1 y1.2)) f := id rfl
theorem tq_X12_looksUp (x1 : Int32) (x2 : Int32) (M : Mem) : d_X12_looksUp x1 x2 M = (
      if x1 = (112 : Int32) then (
        d_X12_looksUp_11 x1 x2 (1 : Int32) M)
      else (
        d_X12_looksUp_11 x1 x2 (0 : Int32) M)) := id rfl
theorem bq_X12_looksUp {β : Type} (x1 : Int32) (x2 : Int32) (M : Mem) (f : Unit × Mem → Option β) : (d_X12_looksUp x1 x2 M).bind f = Option.bind (
      if x1 = (112 : Int32) then (
        d_X12_looksUp_11 x1 x2 (1 : Int32) M)
      else (
        d_X12_looksUp_11 x1 x2 (0 : Int32) M)) f := id rfl
theorem tq_X12_jumpsBack_31 (x1 : Int32) (M : Mem) : d_X12_jumpsBack_31 x1 M = (
      (d_X12_breaksOff M).bind fun y1 =>
      (d_X12_rootAt x1 y1.2).bind fun y2 =>
      if y2.1 = (-1 : Int32) then (
        okk (vp_in x1 320) <|
        okk (vp_in x1 320) <|
        bnd (sI y2.2 87 x1.toNatClampNeg ((mI y2.2 87 x1.toNatClampNeg) + (1 : Int32))) fun M1 =>
        okk (vp_in x1 320) <|
        if (mI M1 87 x1.toNatClampNeg) < (mI M1 69 23) then (
          some ((), M1))
        else (
          okk (vp_in x1 320) <|
          if (2 : Int32) ≤ (mI M1 88 x1.toNatClampNeg) then (
            some ((), M1))
          else (
            (d_X12_records (-1 : Int32) (-1 : Int32) x1 (mI M1 69 48) M1).bind fun y3 =>
            some ((), y3.2))))
      else (
        (d_X12_enters y2.1 y2.2).bind fun y4 =>
        some ((), y4.2))) := id rfl
theorem bq_X12_jumpsBack_31 {β : Type} (x1 : Int32) (M : Mem) (f : Unit × Mem → Option β) : (d_X12_jumpsBack_31 x1 M).bind f = Option.bind (
      (d_X12_breaksOff M).bind fun y1 =>
      (d_X12_rootAt x1 y1.2).bind fun y2 =>
      if y2.1 = (-1 : Int32) then (
        okk (vp_in x1 320) <|
        okk (vp_in x1 320) <|
        bnd (sI y2.2 87 x1.toNatClampNeg ((mI y2.2 87 x1.toNatClampNeg) + (1 : Int32))) fun M1 =>
        okk (vp_in x1 320) <|
        if (mI M1 87 x1.toNatClampNeg) < (mI M1 69 23) then (
          some ((), M1))
        else (
          okk (vp_in x1 320) <|
          if (2 : Int32) ≤ (mI M1 88 x1.toNatClampNeg) then (
            some ((), M1))
          else (
            (d_X12_records (-1 : Int32) (-1 : Int32) x1 (mI M1 69 48) M1).bind fun y3 =>
            some ((), y3.2))))
      else (
        (d_X12_enters y2.1 y2.2).bind fun y4 =>
        some ((), y4.2))) f := id rfl
theorem tq_X12_jumpsBack (x1 : Int32) (M : Mem) : d_X12_jumpsBack x1 M = (
      if (mI M 69 71) = 0 then (
        d_X12_jumpsBack_31 x1 M)
      else (
        if x1 = (mI M 69 74) then (
          if (mI M 69 48) = (mI M 69 75) then (
            (d_X12_ends M).bind fun y1 =>
            some ((), y1.2))
          else (
            d_X12_jumpsBack_31 x1 M))
        else (
          d_X12_jumpsBack_31 x1 M))) := id rfl
theorem bq_X12_jumpsBack {β : Type} (x1 : Int32) (M : Mem) (f : Unit × Mem → Option β) : (d_X12_jumpsBack x1 M).bind f = Option.bind (
      if (mI M 69 71) = 0 then (
        d_X12_jumpsBack_31 x1 M)
      else (
        if x1 = (mI M 69 74) then (
          if (mI M 69 48) = (mI M 69 75) then (
            (d_X12_ends M).bind fun y1 =>
            some ((), y1.2))
          else (
            d_X12_jumpsBack_31 x1 M))
        else (
          d_X12_jumpsBack_31 x1 M))) f := id rfl
theorem tq_X12_plainly_215 (x2 : Int32) (x3 : Int32) (x5 : Int32) (M : Mem) : d_X12_plainly_215 x2 x3 x5 M = (
      (d_X12_executes M).bind fun y1 =>
      if x5 = 0 then (
        some ((), y1.2))
      else (
        okk (vp_in x3 320) <|
        (d_X12_jumpsBack (((40 : Int32) * x2) + (mI y1.2 73 x3.toNatClampNeg)) y1.2).bind fun y2 =>
        some ((), y2.2))) := id rfl
theorem bq_X12_plainly_215 {β : Type} (x2 : Int32) (x3 : Int32) (x5 : Int32) (M : Mem) (f : Unit × Mem → Option β) : (d_X12_plainly_215 x2 x3 x5 M).bind f = Option.bind (
      (d_X12_executes M).bind fun y1 =>
      if x5 = 0 then (
        some ((), y1.2))
      else (
        okk (vp_in x3 320) <|
        (d_X12_jumpsBack (((40 : Int32) * x2) + (mI y1.2 73 x3.toNatClampNeg)) y1.2).bind fun y2 =>
        some ((), y2.2))) f := id rfl
theorem tq_X12_plainly_208 (x2 : Int32) (x3 : Int32) (x4 : Int32) (x5 : Int32) (M : Mem) : d_X12_plainly_208 x2 x3 x4 x5 M = (
      (d_X12_looksUp x4 x3 M).bind fun y1 =>
      d_X12_plainly_215 x2 x3 x5 y1.2) := id rfl
theorem bq_X12_plainly_208 {β : Type} (x2 : Int32) (x3 : Int32) (x4 : Int32) (x5 : Int32) (M : Mem) (f : Unit × Mem → Option β) : (d_X12_plainly_208 x2 x3 x4 x5 M).bind f = Option.bind (
      (d_X12_looksUp x4 x3 M).bind fun y1 =>
      d_X12_plainly_215 x2 x3 x5 y1.2) f := id rfl
theorem tq_X12_plainly_187 (x2 : Int32) (x3 : Int32) (x4 : Int32) (x5 : Int32) (M : Mem) : d_X12_plainly_187 x2 x3 x4 x5 M = (
      if x4 = (103 : Int32) then (
        d_X12_plainly_208 x2 x3 x4 x5 M)
      else (
        if x4 = (112 : Int32) then (
          d_X12_plainly_208 x2 x3 x4 x5 M)
        else (
          if x4 = (109 : Int32) then (
            d_X12_plainly_208 x2 x3 x4 x5 M)
          else (
            d_X12_plainly_215 x2 x3 x5 M)))) := id rfl
theorem bq_X12_plainly_187 {β : Type} (x2 : Int32) (x3 : Int32) (x4 : Int32) (x5 : Int32) (M : Mem) (f : Unit × Mem → Option β) : (d_X12_plainly_187 x2 x3 x4 x5 M).bind f = Option.bind (
      if x4 = (103 : Int32) then (
        d_X12_plainly_208 x2 x3 x4 x5 M)
      else (
        if x4 = (112 : Int32) then (
          d_X12_plainly_208 x2 x3 x4 x5 M)
        else (
          if x4 = (109 : Int32) then (
            d_X12_plainly_208 x2 x3 x4 x5 M)
          else (
            d_X12_plainly_215 x2 x3 x5 M)))) f := id rfl
theorem tq_X12_plainly_141 (x2 : Int32) (x3 : Int32) (x4 : Int32) (x5 : Int32) (M : Mem) : d_X12_plainly_141 x2 x3 x4 x5 M = (
      if (mI M 69 71) = 0 then (
        d_X12_plainly_187 x2 x3 x4 x5 M)
      else (
        (d_X12_guards x4 M).bind fun y1 =>
        okk (vp_in (mI y1.2 69 48) 12) <|
        okk (vp_in (mI y1.2 69 76) 30) <|
        bnd (sI y1.2 118 (mI y1.2 69 76).toNatClampNeg (((100 : Int32) * x2) + (mI y1.2 110 (mI y1.2 69 48).toNatClampNeg))) fun M1 =>
        bnd (sI M1 69 76 ((mI M1 69 76) + (1 : Int32))) fun M2 =>
        d_X12_plainly_187 x2 x3 x4 x5 M2)) := id rfl
theorem bq_X12_plainly_141 {β : Type} (x2 : Int32) (x3 : Int32) (x4 : Int32) (x5 : Int32) (M : Mem) (f : Unit × Mem → Option β) : (d_X12_plainly_141 x2 x3 x4 x5 M).bind f = Option.bind (
      if (mI M 69 71) = 0 then (
        d_X12_plainly_187 x2 x3 x4 x5 M)
      else (
        (d_X12_guards x4 M).bind fun y1 =>
        okk (vp_in (mI y1.2 69 48) 12) <|
        okk (vp_in (mI y1.2 69 76) 30) <|
        bnd (sI y1.2 118 (mI y1.2 69 76).toNatClampNeg (((100 : Int32) * x2) + (mI y1.2 110 (mI y1.2 69 48).toNatClampNeg))) fun M1 =>
        bnd (sI M1 69 76 ((mI M1 69 76) + (1 : Int32))) fun M2 =>
        d_X12_plainly_187 x2 x3 x4 x5 M2)) f := id rfl
theorem tq_X12_plainly_117 (x2 : Int32) (x3 : Int32) (x4 : Int32) (s0 : Int32) (M : Mem) : d_X12_plainly_117 x2 x3 x4 s0 M = (
      if x4 = (114 : Int32) then (
        if (mI M 69 48) = (mI M 69 75) then (
          (d_X12_breaksOff M).bind fun y1 =>
          d_X12_plainly_141 x2 x3 x4 s0 y1.2)
        else (
          d_X12_plainly_141 x2 x3 x4 s0 M))
      else (
        d_X12_plainly_141 x2 x3 x4 s0 M)) := id rfl
theorem bq_X12_plainly_117 {β : Type} (x2 : Int32) (x3 : Int32) (x4 : Int32) (s0 : Int32) (M : Mem) (f : Unit × Mem → Option β) : (d_X12_plainly_117 x2 x3 x4 s0 M).bind f = Option.bind (
      if x4 = (114 : Int32) then (
        if (mI M 69 48) = (mI M 69 75) then (
          (d_X12_breaksOff M).bind fun y1 =>
          d_X12_plainly_141 x2 x3 x4 s0 y1.2)
        else (
          d_X12_plainly_141 x2 x3 x4 s0 M))
      else (
        d_X12_plainly_141 x2 x3 x4 s0 M)) f := id rfl
theorem tq_X12_plainly_116 (x2 : Int32) (x3 : Int32) (x4 : Int32) (M : Mem) : d_X12_plainly_116 x2 x3 x4 M = (
      d_X12_plainly_117 x2 x3 x4 (0 : Int32) M) := id rfl
theorem bq_X12_plainly_116 {β : Type} (x2 : Int32) (x3 : Int32) (x4 : Int32) (M : Mem) (f : Unit × Mem → Option β) : (d_X12_plainly_116 x2 x3 x4 M).bind f = Option.bind (
      d_X12_plainly_117 x2 x3 x4 (0 : Int32) M) f := id rfl
theorem tq_X12_plainly_94 (x2 : Int32) (x3 : Int32) (x4 : Int32) (M : Mem) : d_X12_plainly_94 x2 x3 x4 M = (
      okk (vp_in x3 320) <|
      okk (vp_in (mI M 69 48) 12) <|
      if (mI M 110 (mI M 69 48).toNatClampNeg) < (mI M 73 x3.toNatClampNeg) then (
        d_X12_plainly_116 x2 x3 x4 M)
      else (
        d_X12_plainly_117 x2 x3 x4 (1 : Int32) M)) := id rfl
theorem bq_X12_plainly_94 {β : Type} (x2 : Int32) (x3 : Int32) (x4 : Int32) (M : Mem) (f : Unit × Mem → Option β) : (d_X12_plainly_94 x2 x3 x4 M).bind f = Option.bind (
      okk (vp_in x3 320) <|
      okk (vp_in (mI M 69 48) 12) <|
      if (mI M 110 (mI M 69 48).toNatClampNeg) < (mI M 73 x3.toNatClampNeg) then (
        d_X12_plainly_116 x2 x3 x4 M)
      else (
        d_X12_plainly_117 x2 x3 x4 (1 : Int32) M)) f := id rfl
theorem tq_X12_plainly_20 (M : Mem) : d_X12_plainly_20 M = (
      (d_X12_why M).bind fun y1 =>
      if y1.1 = 0 then (
        okk (vp_in (mI y1.2 69 48) 12) <|
        bnd ((mI y1.2 109 (mI y1.2 69 48).toNatClampNeg)) fun b1 =>
        okk (vp_in (mI y1.2 69 48) 12) <|
        bnd ((((40 : Int32) * b1) + (mI y1.2 110 (mI y1.2 69 48).toNatClampNeg))) fun b2 =>
        okk (vp_in b2 320) <|
        bnd ((mI y1.2 72 b2.toNatClampNeg)) fun b3 =>
        if b3 = (106 : Int32) then (
          d_X12_plainly_94 b1 b2 b3 y1.2)
        else (
          if b3 = (122 : Int32) then (
            (d_X12_top (0 : Int32) y1.2).bind fun y2 =>
            (d_X12_isNull y2.1 y2.2).bind fun y3 =>
            if y3.1 = 0 then (
              d_X12_plainly_116 b1 b2 b3 y3.2)
            else (
              d_X12_plainly_94 b1 b2 b3 y3.2))
          else (
            d_X12_plainly_116 b1 b2 b3 y1.2)))
      else (
        (d_X12_failsBy y1.1 y1.2).bind fun y4 =>
        some ((), y4.2))) := id rfl
theorem bq_X12_plainly_20 {β : Type} (M : Mem) (f : Unit × Mem → Option β) : (d_X12_plainly_20 M).bind f = Option.bind (
      (d_X12_why M).bind fun y1 =>
      if y1.1 = 0 then (
        okk (vp_in (mI y1.2 69 48) 12) <|
        bnd ((mI y1.2 109 (mI y1.2 69 48).toNatClampNeg)) fun b1 =>
        okk (vp_in (mI y1.2 69 48) 12) <|
        bnd ((((40 : Int32) * b1) + (mI y1.2 110 (mI y1.2 69 48).toNatClampNeg))) fun b2 =>
        okk (vp_in b2 320) <|
        bnd ((mI y1.2 72 b2.toNatClampNeg)) fun b3 =>
        if b3 = (106 : Int32) then (
          d_X12_plainly_94 b1 b2 b3 y1.2)
        else (
          if b3 = (122 : Int32) then (
            (d_X12_top (0 : Int32) y1.2).bind fun y2 =>
            (d_X12_isNull y2.1 y2.2).bind fun y3 =>
            if y3.1 = 0 then (
              d_X12_plainly_116 b1 b2 b3 y3.2)
            else (
              d_X12_plainly_94 b1 b2 b3 y3.2))
          else (
            d_X12_plainly_116 b1 b2 b3 y1.2)))
      else (
        (d_X12_failsBy y1.1 y1.2).bind fun y4 =>
        some ((), y4.2))) f := id rfl
theorem tq_X12_plainly (M : Mem) : d_X12_plainly M = (
      if (mI M 69 71) = 0 then (
        d_X12_plainly_20 M)
      else (
        if (mI M 69 76) = (30 : Int32) then (
          (d_X12_breaksOff M).bind fun y1 =>
          d_X12_plainly_20 y1.2)
        else (
          d_X12_plainly_20 M))) := id rfl
theorem bq_X12_plainly {β : Type} (M : Mem) (f : Unit × Mem → Option β) : (d_X12_plainly M).bind f = Option.bind (
      if (mI M 69 71) = 0 then (
        d_X12_plainly_20 M)
      else (
        if (mI M 69 76) = (30 : Int32) then (
          (d_X12_breaksOff M).bind fun y1 =>
          d_X12_plainly_20 y1.2)
        else (
          d_X12_plainly_20 M))) f := id rfl
theorem tq_X12_leavesBy (x1 : Int32) (M : Mem) : d_X12_leavesBy x1 M = (
      okk (vp_in x1 2400) <|
      okk (vp_in x1 2400) <|
      bnd (sI M 101 x1.toNatClampNeg ((mI M 101 x1.toNatClampNeg) + (1 : Int32))) fun M1 =>
      okk (vp_in x1 2400) <|
      bnd ((mI M1 104 x1.toNatClampNeg)) fun b1 =>
      if b1 = (-1 : Int32) then (
        okk (vp_in (mI M1 69 68) 20) <|
        bnd ((mI M1 93 (mI M1 69 68).toNatClampNeg)) fun b2 =>
        bnd (sI M1 69 68 (-1 : Int32)) fun M2 =>
        okk (vp_in x1 2400) <|
        okk (vp_in x1 2400) <|
        bnd (sI M2 102 x1.toNatClampNeg ((mI M2 102 x1.toNatClampNeg) + (1 : Int32))) fun M3 =>
        okk (vp_in x1 2400) <|
        if (mI M3 102 x1.toNatClampNeg) < (mI M3 69 24) then (
          some ((), M3))
        else (
          okk (vp_in x1 2400) <|
          if (2 : Int32) ≤ (mI M3 103 x1.toNatClampNeg) then (
            some ((), M3))
          else (
            okk (vp_in b2 20) <|
            (d_X12_records b2 x1 (mI M3 94 b2.toNatClampNeg) (mI M3 69 70) M3).bind fun y1 =>
            some ((), y1.2))))
      else (
        bnd (sI M1 69 68 b1) fun M4 =>
        bnd (sI M4 69 69 (0 : Int32)) fun M5 =>
        okk (vp_in b1 20) <|
        okk (vp_in b1 20) <|
        bnd (sI M5 95 b1.toNatClampNeg ((mI M5 95 b1.toNatClampNeg) + (1 : Int32))) fun M6 =>
        some ((), M6))) := id rfl
theorem bq_X12_leavesBy {β : Type} (x1 : Int32) (M : Mem) (f : Unit × Mem → Option β) : (d_X12_leavesBy x1 M).bind f = Option.bind (
      okk (vp_in x1 2400) <|
      okk (vp_in x1 2400) <|
      bnd (sI M 101 x1.toNatClampNeg ((mI M 101 x1.toNatClampNeg) + (1 : Int32))) fun M1 =>
      okk (vp_in x1 2400) <|
      bnd ((mI M1 104 x1.toNatClampNeg)) fun b1 =>
      if b1 = (-1 : Int32) then (
        okk (vp_in (mI M1 69 68) 20) <|
        bnd ((mI M1 93 (mI M1 69 68).toNatClampNeg)) fun b2 =>
        bnd (sI M1 69 68 (-1 : Int32)) fun M2 =>
        okk (vp_in x1 2400) <|
        okk (vp_in x1 2400) <|
        bnd (sI M2 102 x1.toNatClampNeg ((mI M2 102 x1.toNatClampNeg) + (1 : Int32))) fun M3 =>
        okk (vp_in x1 2400) <|
        if (mI M3 102 x1.toNatClampNeg) < (mI M3 69 24) then (
          some ((), M3))
        else (
          okk (vp_in x1 2400) <|
          if (2 : Int32) ≤ (mI M3 103 x1.toNatClampNeg) then (
            some ((), M3))
          else (
            okk (vp_in b2 20) <|
            (d_X12_records b2 x1 (mI M3 94 b2.toNatClampNeg) (mI M3 69 70) M3).bind fun y1 =>
            some ((), y1.2))))
      else (
        bnd (sI M1 69 68 b1) fun M4 =>
        bnd (sI M4 69 69 (0 : Int32)) fun M5 =>
        okk (vp_in b1 20) <|
        okk (vp_in b1 20) <|
        bnd (sI M5 95 b1.toNatClampNeg ((mI M5 95 b1.toNatClampNeg) + (1 : Int32))) fun M6 =>
        some ((), M6))) f := id rfl
theorem tq_X12_inTrace_65 (k15 : (Int32) → Mem → Option (Unit × Mem)) (x1 : Int32) (M : Mem) : d_X12_inTrace_65 k15 x1 M = (
      bnd ((x1 + (1 : Int32))) fun b1 =>
      k15 (b1) M) := id rfl
theorem bq_X12_inTrace_65 {β : Type} (k15 : (Int32) → Mem → Option (Unit × Mem)) (x1 : Int32) (M : Mem) (f : Unit × Mem → Option β) : (d_X12_inTrace_65 k15 x1 M).bind f = Option.bind (
      bnd ((x1 + (1 : Int32))) fun b1 =>
      k15 (b1) M) f := id rfl
theorem tq_X12_inTrace_15b (k15 : (Int32) → Mem → Option (Unit × Mem)) (x1 : Int32) (M : Mem) : d_X12_inTrace_15b k15 x1 M = (
      okk (vp_in (mI M 69 68) 20) <|
      if (mI M 92 (mI M 69 68).toNatClampNeg) ≤ x1 then (
        (d_X12_executes M).bind fun y1 =>
        bnd (sI y1.2 69 58 ((mI y1.2 69 58) + (1 : Int32))) fun M1 =>
        bnd (sI M1 69 69 ((mI M1 69 69) + (1 : Int32))) fun M2 =>
        okk (vp_in (mI M2 69 68) 20) <|
        if (mI M2 69 69) = (mI M2 90 (mI M2 69 68).toNatClampNeg) then (
          okk (vp_in (mI M2 69 68) 20) <|
          (d_X12_enters (mI M2 93 (mI M2 69 68).toNatClampNeg) M2).bind fun y2 =>
          some ((), y2.2))
        else (
          some ((), M2)))
      else (
        bnd ((((120 : Int32) * (mI M 69 68)) + x1)) fun b1 =>
        okk (vp_in b1 2400) <|
        if (mI M 98 b1.toNatClampNeg) = (mI M 69 69) then (
          (d_X12_holds b1 M).bind fun y3 =>
          if y3.1 = 0 then (
            (d_X12_leavesBy b1 y3.2).bind fun y4 =>
            some ((), y4.2))
          else (
            d_X12_inTrace_65 k15 x1 y3.2))
        else (
          d_X12_inTrace_65 k15 x1 M))) := id rfl
theorem bq_X12_inTrace_15b {β : Type} (k15 : (Int32) → Mem → Option (Unit × Mem)) (x1 : Int32) (M : Mem) (f : Unit × Mem → Option β) : (d_X12_inTrace_15b k15 x1 M).bind f = Option.bind (
      okk (vp_in (mI M 69 68) 20) <|
      if (mI M 92 (mI M 69 68).toNatClampNeg) ≤ x1 then (
        (d_X12_executes M).bind fun y1 =>
        bnd (sI y1.2 69 58 ((mI y1.2 69 58) + (1 : Int32))) fun M1 =>
        bnd (sI M1 69 69 ((mI M1 69 69) + (1 : Int32))) fun M2 =>
        okk (vp_in (mI M2 69 68) 20) <|
        if (mI M2 69 69) = (mI M2 90 (mI M2 69 68).toNatClampNeg) then (
          okk (vp_in (mI M2 69 68) 20) <|
          (d_X12_enters (mI M2 93 (mI M2 69 68).toNatClampNeg) M2).bind fun y2 =>
          some ((), y2.2))
        else (
          some ((), M2)))
      else (
        bnd ((((120 : Int32) * (mI M 69 68)) + x1)) fun b1 =>
        okk (vp_in b1 2400) <|
        if (mI M 98 b1.toNatClampNeg) = (mI M 69 69) then (
          (d_X12_holds b1 M).bind fun y3 =>
          if y3.1 = 0 then (
            (d_X12_leavesBy b1 y3.2).bind fun y4 =>
            some ((), y4.2))
          else (
            d_X12_inTrace_65 k15 x1 y3.2))
        else (
          d_X12_inTrace_65 k15 x1 M))) f := id rfl
theorem tq_X12_inTrace (M : Mem) : d_X12_inTrace M = (
      (d_X12_why M).bind fun y1 =>
      if y1.1 = 0 then (
        d_X12_inTrace_15 fuel ((0 : Int32)) y1.2)
      else (
        bnd (sI y1.2 69 68 (-1 : Int32)) fun M1 =>
        some ((), M1))) := id rfl
theorem bq_X12_inTrace {β : Type} (M : Mem) (f : Unit × Mem → Option β) : (d_X12_inTrace M).bind f = Option.bind (
      (d_X12_why M).bind fun y1 =>
      if y1.1 = 0 then (
        d_X12_inTrace_15 fuel ((0 : Int32)) y1.2)
      else (
        bnd (sI y1.2 69 68 (-1 : Int32)) fun M1 =>
        some ((), M1))) f := id rfl
theorem tq_X12_run_148b (k148 : Unit → Mem → Option (Int32 × Mem)) (M : Mem) : d_X12_run_148b k148 M = (
      if (mI M 69 67) = 0 then (
        (d_X12_breaksOff M).bind fun y1 =>
        bnd (sI y1.2 69 68 (-1 : Int32)) fun M1 =>
        some ((mI M1 69 57), M1))
      else (
        if (mI M 69 57) = (1000 : Int32) then (
          (d_X12_endsBy (108 : Int32) M).bind fun y4 =>
          k148 () y4.2)
        else (
          if (mI M 69 68) = (-1 : Int32) then (
            (d_X12_plainly M).bind fun y2 =>
            k148 () y2.2)
          else (
            (d_X12_inTrace M).bind fun y3 =>
            k148 () y3.2)))) := id rfl
theorem bq_X12_run_148b {β : Type} (k148 : Unit → Mem → Option (Int32 × Mem)) (M : Mem) (f : Int32 × Mem → Option β) : (d_X12_run_148b k148 M).bind f = Option.bind (
      if (mI M 69 67) = 0 then (
        (d_X12_breaksOff M).bind fun y1 =>
        bnd (sI y1.2 69 68 (-1 : Int32)) fun M1 =>
        some ((mI M1 69 57), M1))
      else (
        if (mI M 69 57) = (1000 : Int32) then (
          (d_X12_endsBy (108 : Int32) M).bind fun y4 =>
          k148 () y4.2)
        else (
          if (mI M 69 68) = (-1 : Int32) then (
            (d_X12_plainly M).bind fun y2 =>
            k148 () y2.2)
          else (
            (d_X12_inTrace M).bind fun y3 =>
            k148 () y3.2)))) f := id rfl
theorem tq_X12_run_119 (k82 : (Int32) → Mem → Option (Int32 × Mem)) (x2 : Int32) (x3 : Int32) (s1 : Int32) (s2 : Int32) (M : Mem) : d_X12_run_119 k82 x2 x3 s1 s2 M = (
      okk (vp_in s1 168) <|
      bnd (sI M 106 s1.toNatClampNeg s2) fun M1 =>
      okk (vp_in x3 168) <|
      bnd (sD M1 107 x3.toNatClampNeg FP.dconst0) fun M2 =>
      bnd ((x3 + (1 : Int32))) fun b1 =>
      k82 (b1) M2) := id rfl
theorem bq_X12_run_119 {β : Type} (k82 : (Int32) → Mem → Option (Int32 × Mem)) (x2 : Int32) (x3 : Int32) (s1 : Int32) (s2 : Int32) (M : Mem) (f : Int32 × Mem → Option β) : (d_X12_run_119 k82 x2 x3 s1 s2 M).bind f = Option.bind (
      okk (vp_in s1 168) <|
      bnd (sI M 106 s1.toNatClampNeg s2) fun M1 =>
      okk (vp_in x3 168) <|
      bnd (sD M1 107 x3.toNatClampNeg FP.dconst0) fun M2 =>
      bnd ((x3 + (1 : Int32))) fun b1 =>
      k82 (b1) M2) f := id rfl
theorem tq_X12_run_104 (k82 : (Int32) → Mem → Option (Int32 × Mem)) (x2 : Int32) (x3 : Int32) (s1 : Int32) (s2 : Int32) (M : Mem) : d_X12_run_104 k82 x2 x3 s1 s2 M = (
      okk (vp_in s1 168) <|
      okk (isCh s2) <|
      bnd (sI M 105 s1.toNatClampNeg s2) fun M1 =>
      if x3 = 0 then (
        d_X12_run_119 k82 x2 x3 x3 x2 M1)
      else (
        d_X12_run_119 k82 x2 x3 x3 (0 : Int32) M1)) := id rfl
theorem bq_X12_run_104 {β : Type} (k82 : (Int32) → Mem → Option (Int32 × Mem)) (x2 : Int32) (x3 : Int32) (s1 : Int32) (s2 : Int32) (M : Mem) (f : Int32 × Mem → Option β) : (d_X12_run_104 k82 x2 x3 s1 s2 M).bind f = Option.bind (
      okk (vp_in s1 168) <|
      okk (isCh s2) <|
      bnd (sI M 105 s1.toNatClampNeg s2) fun M1 =>
      if x3 = 0 then (
        d_X12_run_119 k82 x2 x3 x3 x2 M1)
      else (
        d_X12_run_119 k82 x2 x3 x3 (0 : Int32) M1)) f := id rfl
theorem tq_X12_run_82b (k82 : (Int32) → Mem → Option (Int32 × Mem)) (x2 : Int32) (x3 : Int32) (M : Mem) : d_X12_run_82b k82 x2 x3 M = (
      if (6 : Int32) ≤ x3 then (
        bnd (sI M 69 67 (1 : Int32)) fun M1 =>
        bnd (sI M1 69 71 (0 : Int32)) fun M2 =>
        bnd (sI M2 69 68 (-1 : Int32)) fun M3 =>
        d_X12_run_148 fuel () M3)
      else (
        if x3 = 0 then (
          d_X12_run_104 k82 x2 x3 x3 (105 : Int32) M)
        else (
          d_X12_run_104 k82 x2 x3 x3 (110 : Int32) M))) := id rfl
theorem bq_X12_run_82b {β : Type} (k82 : (Int32) → Mem → Option (Int32 × Mem)) (x2 : Int32) (x3 : Int32) (M : Mem) (f : Int32 × Mem → Option β) : (d_X12_run_82b k82 x2 x3 M).bind f = Option.bind (
      if (6 : Int32) ≤ x3 then (
        bnd (sI M 69 67 (1 : Int32)) fun M1 =>
        bnd (sI M1 69 71 (0 : Int32)) fun M2 =>
        bnd (sI M2 69 68 (-1 : Int32)) fun M3 =>
        d_X12_run_148 fuel () M3)
      else (
        if x3 = 0 then (
          d_X12_run_104 k82 x2 x3 x3 (105 : Int32) M)
        else (
          d_X12_run_104 k82 x2 x3 x3 (110 : Int32) M))) f := id rfl
theorem tq_X12_run (x1 : Int32) (x2 : Int32) (M : Mem) : d_X12_run x1 x2 M = (
      bnd (sI M 69 0 (0 : Int32)) fun M1 =>
      (d_X12_isFunction x1 M1).bind fun y1 =>
      if y1.1 = 0 then (
        (d_X12_fails (1 : Int32) y1.2).bind fun y3 =>
        some (y3.1, y3.2))
      else (
        okk (vp_in x1 8) <|
        if (mI y1.2 70 x1.toNatClampNeg) = 0 then (
          (d_X12_fails (2 : Int32) y1.2).bind fun y2 =>
          some (y2.1, y2.2))
        else (
          bnd (sI y1.2 69 52 (0 : Int32)) fun M2 =>
          bnd (sI M2 69 57 (0 : Int32)) fun M3 =>
          bnd (sI M3 69 58 (0 : Int32)) fun M4 =>
          bnd (sI M4 69 59 (0 : Int32)) fun M5 =>
          bnd (sI M5 69 48 (0 : Int32)) fun M6 =>
          bnd (sI M6 109 0 x1) fun M7 =>
          bnd (sI M7 110 0 (0 : Int32)) fun M8 =>
          bnd (sI M8 111 0 (0 : Int32)) fun M9 =>
          d_X12_run_82 x2 fuel ((0 : Int32)) M9))) := id rfl
theorem bq_X12_run {β : Type} (x1 : Int32) (x2 : Int32) (M : Mem) (f : Int32 × Mem → Option β) : (d_X12_run x1 x2 M).bind f = Option.bind (
      bnd (sI M 69 0 (0 : Int32)) fun M1 =>
      (d_X12_isFunction x1 M1).bind fun y1 =>
      if y1.1 = 0 then (
        (d_X12_fails (1 : Int32) y1.2).bind fun y3 =>
        some (y3.1, y3.2))
      else (
        okk (vp_in x1 8) <|
        if (mI y1.2 70 x1.toNatClampNeg) = 0 then (
          (d_X12_fails (2 : Int32) y1.2).bind fun y2 =>
          some (y2.1, y2.2))
        else (
          bnd (sI y1.2 69 52 (0 : Int32)) fun M2 =>
          bnd (sI M2 69 57 (0 : Int32)) fun M3 =>
          bnd (sI M3 69 58 (0 : Int32)) fun M4 =>
          bnd (sI M4 69 59 (0 : Int32)) fun M5 =>
          bnd (sI M5 69 48 (0 : Int32)) fun M6 =>
          bnd (sI M6 109 0 x1) fun M7 =>
          bnd (sI M7 110 0 (0 : Int32)) fun M8 =>
          bnd (sI M8 111 0 (0 : Int32)) fun M9 =>
          d_X12_run_82 x2 fuel ((0 : Int32)) M9))) f := id rfl
theorem tq_X12_outcome (M : Mem) : d_X12_outcome M = (
      bnd (sI M 69 0 (0 : Int32)) fun M1 =>
      okk (isCh (mI M1 69 62)) <|
      some ((mI M1 69 62), M1)) := id rfl
theorem bq_X12_outcome {β : Type} (M : Mem) (f : Int32 × Mem → Option β) : (d_X12_outcome M).bind f = Option.bind (
      bnd (sI M 69 0 (0 : Int32)) fun M1 =>
      okk (isCh (mI M1 69 62)) <|
      some ((mI M1 69 62), M1)) f := id rfl
theorem tq_X12_resultKind_15 (s1 : Int32) (M : Mem) : d_X12_resultKind_15 s1 M = (
      bnd (sI M 69 0 s1) fun M1 =>
      if (mI M1 69 0) ≤ 0 then (
        okk (isCh (mI M1 69 63)) <|
        some ((mI M1 69 63), M1))
      else (
        some ((0 : Int32), M1))) := id rfl
theorem bq_X12_resultKind_15 {β : Type} (s1 : Int32) (M : Mem) (f : Int32 × Mem → Option β) : (d_X12_resultKind_15 s1 M).bind f = Option.bind (
      bnd (sI M 69 0 s1) fun M1 =>
      if (mI M1 69 0) ≤ 0 then (
        okk (isCh (mI M1 69 63)) <|
        some ((mI M1 69 63), M1))
      else (
        some ((0 : Int32), M1))) f := id rfl
theorem tq_X12_resultKind (M : Mem) : d_X12_resultKind M = (
      if (mI M 69 62) = (118 : Int32) then (
        d_X12_resultKind_15 (0 : Int32) M)
      else (
        d_X12_resultKind_15 (1 : Int32) M)) := id rfl
theorem bq_X12_resultKind {β : Type} (M : Mem) (f : Int32 × Mem → Option β) : (d_X12_resultKind M).bind f = Option.bind (
      if (mI M 69 62) = (118 : Int32) then (
        d_X12_resultKind_15 (0 : Int32) M)
      else (
        d_X12_resultKind_15 (1 : Int32) M)) f := id rfl
theorem tq_X12_result_15 (s1 : Int32) (M : Mem) : d_X12_result_15 s1 M = (
      bnd (sI M 69 0 s1) fun M1 =>
      if (mI M1 69 0) ≤ 0 then (
        some ((mL M1 69 64), M1))
      else (
        some ((0 : Int64), M1))) := id rfl
theorem bq_X12_result_15 {β : Type} (s1 : Int32) (M : Mem) (f : Int64 × Mem → Option β) : (d_X12_result_15 s1 M).bind f = Option.bind (
      bnd (sI M 69 0 s1) fun M1 =>
      if (mI M1 69 0) ≤ 0 then (
        some ((mL M1 69 64), M1))
      else (
        some ((0 : Int64), M1))) f := id rfl
theorem tq_X12_result (M : Mem) : d_X12_result M = (
      if (mI M 69 62) = (118 : Int32) then (
        d_X12_result_15 (0 : Int32) M)
      else (
        d_X12_result_15 (1 : Int32) M)) := id rfl
theorem bq_X12_result {β : Type} (M : Mem) (f : Int64 × Mem → Option β) : (d_X12_result M).bind f = Option.bind (
      if (mI M 69 62) = (118 : Int32) then (
        d_X12_result_15 (0 : Int32) M)
      else (
        d_X12_result_15 (1 : Int32) M)) f := id rfl
theorem tq_X12_failure_15 (s1 : Int32) (M : Mem) : d_X12_failure_15 s1 M = (
      bnd (sI M 69 0 s1) fun M1 =>
      if (mI M1 69 0) ≤ 0 then (
        okk (isCh (mI M1 69 65)) <|
        some ((mI M1 69 65), M1))
      else (
        some ((0 : Int32), M1))) := id rfl
theorem bq_X12_failure_15 {β : Type} (s1 : Int32) (M : Mem) (f : Int32 × Mem → Option β) : (d_X12_failure_15 s1 M).bind f = Option.bind (
      bnd (sI M 69 0 s1) fun M1 =>
      if (mI M1 69 0) ≤ 0 then (
        okk (isCh (mI M1 69 65)) <|
        some ((mI M1 69 65), M1))
      else (
        some ((0 : Int32), M1))) f := id rfl
theorem tq_X12_failure (M : Mem) : d_X12_failure M = (
      if (mI M 69 62) = (120 : Int32) then (
        d_X12_failure_15 (0 : Int32) M)
      else (
        d_X12_failure_15 (1 : Int32) M)) := id rfl
theorem bq_X12_failure {β : Type} (M : Mem) (f : Int32 × Mem → Option β) : (d_X12_failure M).bind f = Option.bind (
      if (mI M 69 62) = (120 : Int32) then (
        d_X12_failure_15 (0 : Int32) M)
      else (
        d_X12_failure_15 (1 : Int32) M)) f := id rfl
theorem tq_X12_line (M : Mem) : d_X12_line M = (
      bnd (sI M 69 0 (0 : Int32)) fun M1 =>
      if (mI M1 69 62) = (120 : Int32) then (
        some ((mI M1 69 66), M1))
      else (
        (d_X12_fails (1 : Int32) M1).bind fun y1 =>
        some (y1.1, y1.2))) := id rfl
theorem bq_X12_line {β : Type} (M : Mem) (f : Int32 × Mem → Option β) : (d_X12_line M).bind f = Option.bind (
      bnd (sI M 69 0 (0 : Int32)) fun M1 =>
      if (mI M1 69 62) = (120 : Int32) then (
        some ((mI M1 69 66), M1))
      else (
        (d_X12_fails (1 : Int32) M1).bind fun y1 =>
        some (y1.1, y1.2))) f := id rfl
theorem tq_X12_told_ (M : Mem) : d_X12_told_ M = (
      bnd (sI M 69 0 (0 : Int32)) fun M1 =>
      some ((mI M1 69 59), M1)) := id rfl
theorem bq_X12_told_ {β : Type} (M : Mem) (f : Int32 × Mem → Option β) : (d_X12_told_ M).bind f = Option.bind (
      bnd (sI M 69 0 (0 : Int32)) fun M1 =>
      some ((mI M1 69 59), M1)) f := id rfl
theorem tq_X12_toldKind_20 (x1 : Int32) (s1 : Int32) (M : Mem) : d_X12_toldKind_20 x1 s1 M = (
      bnd (sI M 69 0 s1) fun M1 =>
      if (mI M1 69 0) ≤ 0 then (
        okk (vp_in x1 20) <|
        okk (isCh (mI M1 116 x1.toNatClampNeg)) <|
        some ((mI M1 116 x1.toNatClampNeg), M1))
      else (
        some ((0 : Int32), M1))) := id rfl
theorem bq_X12_toldKind_20 {β : Type} (x1 : Int32) (s1 : Int32) (M : Mem) (f : Int32 × Mem → Option β) : (d_X12_toldKind_20 x1 s1 M).bind f = Option.bind (
      bnd (sI M 69 0 s1) fun M1 =>
      if (mI M1 69 0) ≤ 0 then (
        okk (vp_in x1 20) <|
        okk (isCh (mI M1 116 x1.toNatClampNeg)) <|
        some ((mI M1 116 x1.toNatClampNeg), M1))
      else (
        some ((0 : Int32), M1))) f := id rfl
theorem tq_X12_toldKind (x1 : Int32) (M : Mem) : d_X12_toldKind x1 M = (
      (d_X12_in x1 (0 : Int32) ((mI M 69 59) - (1 : Int32)) M).bind fun y1 =>
      if y1.1 = 0 then (
        d_X12_toldKind_20 x1 (1 : Int32) y1.2)
      else (
        d_X12_toldKind_20 x1 (0 : Int32) y1.2)) := id rfl
theorem bq_X12_toldKind {β : Type} (x1 : Int32) (M : Mem) (f : Int32 × Mem → Option β) : (d_X12_toldKind x1 M).bind f = Option.bind (
      (d_X12_in x1 (0 : Int32) ((mI M 69 59) - (1 : Int32)) M).bind fun y1 =>
      if y1.1 = 0 then (
        d_X12_toldKind_20 x1 (1 : Int32) y1.2)
      else (
        d_X12_toldKind_20 x1 (0 : Int32) y1.2)) f := id rfl
theorem tq_X12_toldAt_20 (x1 : Int32) (s1 : Int32) (M : Mem) : d_X12_toldAt_20 x1 s1 M = (
      bnd (sI M 69 0 s1) fun M1 =>
      if (mI M1 69 0) ≤ 0 then (
        okk (vp_in x1 20) <|
        some ((mL M1 117 x1.toNatClampNeg), M1))
      else (
        some ((0 : Int64), M1))) := id rfl
theorem bq_X12_toldAt_20 {β : Type} (x1 : Int32) (s1 : Int32) (M : Mem) (f : Int64 × Mem → Option β) : (d_X12_toldAt_20 x1 s1 M).bind f = Option.bind (
      bnd (sI M 69 0 s1) fun M1 =>
      if (mI M1 69 0) ≤ 0 then (
        okk (vp_in x1 20) <|
        some ((mL M1 117 x1.toNatClampNeg), M1))
      else (
        some ((0 : Int64), M1))) f := id rfl
theorem tq_X12_toldAt (x1 : Int32) (M : Mem) : d_X12_toldAt x1 M = (
      (d_X12_in x1 (0 : Int32) ((mI M 69 59) - (1 : Int32)) M).bind fun y1 =>
      if y1.1 = 0 then (
        d_X12_toldAt_20 x1 (1 : Int32) y1.2)
      else (
        d_X12_toldAt_20 x1 (0 : Int32) y1.2)) := id rfl
theorem bq_X12_toldAt {β : Type} (x1 : Int32) (M : Mem) (f : Int64 × Mem → Option β) : (d_X12_toldAt x1 M).bind f = Option.bind (
      (d_X12_in x1 (0 : Int32) ((mI M 69 59) - (1 : Int32)) M).bind fun y1 =>
      if y1.1 = 0 then (
        d_X12_toldAt_20 x1 (1 : Int32) y1.2)
      else (
        d_X12_toldAt_20 x1 (0 : Int32) y1.2)) f := id rfl
theorem tq_X12_objects (M : Mem) : d_X12_objects M = (
      bnd (sI M 69 0 (0 : Int32)) fun M1 =>
      some ((mI M1 69 52), M1)) := id rfl
theorem bq_X12_objects {β : Type} (M : Mem) (f : Int32 × Mem → Option β) : (d_X12_objects M).bind f = Option.bind (
      bnd (sI M 69 0 (0 : Int32)) fun M1 =>
      some ((mI M1 69 52), M1)) f := id rfl
theorem tq_X12_shapeOf (x1 : Int32) (M : Mem) : d_X12_shapeOf x1 M = (
      bnd (sI M 69 0 (0 : Int32)) fun M1 =>
      (d_X12_in x1 (0 : Int32) ((mI M1 69 52) - (1 : Int32)) M1).bind fun y1 =>
      if y1.1 = 0 then (
        (d_X12_fails (1 : Int32) y1.2).bind fun y2 =>
        some (y2.1, y2.2))
      else (
        okk (vp_in x1 60) <|
        some ((mI y1.2 112 x1.toNatClampNeg), y1.2))) := id rfl
theorem bq_X12_shapeOf {β : Type} (x1 : Int32) (M : Mem) (f : Int32 × Mem → Option β) : (d_X12_shapeOf x1 M).bind f = Option.bind (
      bnd (sI M 69 0 (0 : Int32)) fun M1 =>
      (d_X12_in x1 (0 : Int32) ((mI M1 69 52) - (1 : Int32)) M1).bind fun y1 =>
      if y1.1 = 0 then (
        (d_X12_fails (1 : Int32) y1.2).bind fun y2 =>
        some (y2.1, y2.2))
      else (
        okk (vp_in x1 60) <|
        some ((mI y1.2 112 x1.toNatClampNeg), y1.2))) f := id rfl
theorem tq_X12_field_47 (x1 : Int32) (x2 : Int32) (s1 : Int32) (M : Mem) : d_X12_field_47 x1 x2 s1 M = (
      bnd (sI M 69 0 s1) fun M1 =>
      if (mI M1 69 0) ≤ 0 then (
        okk (vp_in (((6 : Int32) * x1) + x2) 360) <|
        okk (vp_in (((6 : Int32) * x1) + x2) 360) <|
        okk (vp_in (((6 : Int32) * x1) + x2) 360) <|
        (d_X12_told (mI M1 113 (((6 : Int32) * x1) + x2).toNatClampNeg) (mI M1 114 (((6 : Int32) * x1) + x2).toNatClampNeg) (mD M1 115 (((6 : Int32) * x1) + x2).toNatClampNeg) M1).bind fun y1 =>
        some (y1.1, y1.2))
      else (
        some ((0 : Int64), M1))) := id rfl
theorem bq_X12_field_47 {β : Type} (x1 : Int32) (x2 : Int32) (s1 : Int32) (M : Mem) (f : Int64 × Mem → Option β) : (d_X12_field_47 x1 x2 s1 M).bind f = Option.bind (
      bnd (sI M 69 0 s1) fun M1 =>
      if (mI M1 69 0) ≤ 0 then (
        okk (vp_in (((6 : Int32) * x1) + x2) 360) <|
        okk (vp_in (((6 : Int32) * x1) + x2) 360) <|
        okk (vp_in (((6 : Int32) * x1) + x2) 360) <|
        (d_X12_told (mI M1 113 (((6 : Int32) * x1) + x2).toNatClampNeg) (mI M1 114 (((6 : Int32) * x1) + x2).toNatClampNeg) (mD M1 115 (((6 : Int32) * x1) + x2).toNatClampNeg) M1).bind fun y1 =>
        some (y1.1, y1.2))
      else (
        some ((0 : Int64), M1))) f := id rfl
theorem tq_X12_field_42 (x1 : Int32) (x2 : Int32) (M : Mem) : d_X12_field_42 x1 x2 M = (
      d_X12_field_47 x1 x2 (2 : Int32) M) := id rfl
theorem bq_X12_field_42 {β : Type} (x1 : Int32) (x2 : Int32) (M : Mem) (f : Int64 × Mem → Option β) : (d_X12_field_42 x1 x2 M).bind f = Option.bind (
      d_X12_field_47 x1 x2 (2 : Int32) M) f := id rfl
theorem tq_X12_field (x1 : Int32) (x2 : Int32) (M : Mem) : d_X12_field x1 x2 M = (
      (d_X12_in x1 (0 : Int32) ((mI M 69 52) - (1 : Int32)) M).bind fun y1 =>
      if y1.1 = 0 then (
        d_X12_field_47 x1 x2 (1 : Int32) y1.2)
      else (
        (d_X12_in x2 (0 : Int32) (5 : Int32) y1.2).bind fun y2 =>
        if y2.1 = 0 then (
          d_X12_field_42 x1 x2 y2.2)
        else (
          okk (vp_in x1 60) <|
          (d_X12_hasField (mI y2.2 112 x1.toNatClampNeg) x2 y2.2).bind fun y3 =>
          if y3.1 = 0 then (
            d_X12_field_42 x1 x2 y3.2)
          else (
            d_X12_field_47 x1 x2 (0 : Int32) y3.2)))) := id rfl
theorem bq_X12_field {β : Type} (x1 : Int32) (x2 : Int32) (M : Mem) (f : Int64 × Mem → Option β) : (d_X12_field x1 x2 M).bind f = Option.bind (
      (d_X12_in x1 (0 : Int32) ((mI M 69 52) - (1 : Int32)) M).bind fun y1 =>
      if y1.1 = 0 then (
        d_X12_field_47 x1 x2 (1 : Int32) y1.2)
      else (
        (d_X12_in x2 (0 : Int32) (5 : Int32) y1.2).bind fun y2 =>
        if y2.1 = 0 then (
          d_X12_field_42 x1 x2 y2.2)
        else (
          okk (vp_in x1 60) <|
          (d_X12_hasField (mI y2.2 112 x1.toNatClampNeg) x2 y2.2).bind fun y3 =>
          if y3.1 = 0 then (
            d_X12_field_42 x1 x2 y3.2)
          else (
            d_X12_field_47 x1 x2 (0 : Int32) y3.2)))) f := id rfl
theorem tq_X12_shapes (M : Mem) : d_X12_shapes M = (
      bnd (sI M 69 0 (0 : Int32)) fun M1 =>
      some ((mI M1 69 12), M1)) := id rfl
theorem bq_X12_shapes {β : Type} (M : Mem) (f : Int32 × Mem → Option β) : (d_X12_shapes M).bind f = Option.bind (
      bnd (sI M 69 0 (0 : Int32)) fun M1 =>
      some ((mI M1 69 12), M1)) f := id rfl
theorem tq_X12_fields (x1 : Int32) (M : Mem) : d_X12_fields x1 M = (
      bnd (sI M 69 0 (0 : Int32)) fun M1 =>
      (d_X12_in x1 (0 : Int32) ((mI M1 69 12) - (1 : Int32)) M1).bind fun y1 =>
      if y1.1 = 0 then (
        (d_X12_fails (1 : Int32) y1.2).bind fun y2 =>
        some (y2.1, y2.2))
      else (
        okk (vp_in x1 60) <|
        some ((mI y1.2 80 x1.toNatClampNeg), y1.2))) := id rfl
theorem bq_X12_fields {β : Type} (x1 : Int32) (M : Mem) (f : Int32 × Mem → Option β) : (d_X12_fields x1 M).bind f = Option.bind (
      bnd (sI M 69 0 (0 : Int32)) fun M1 =>
      (d_X12_in x1 (0 : Int32) ((mI M1 69 12) - (1 : Int32)) M1).bind fun y1 =>
      if y1.1 = 0 then (
        (d_X12_fails (1 : Int32) y1.2).bind fun y2 =>
        some (y2.1, y2.2))
      else (
        okk (vp_in x1 60) <|
        some ((mI y1.2 80 x1.toNatClampNeg), y1.2))) f := id rfl
theorem tq_X12_fieldAt (x1 : Int32) (x2 : Int32) (M : Mem) : d_X12_fieldAt x1 x2 M = (
      bnd (sI M 69 0 (0 : Int32)) fun M1 =>
      (d_X12_in x1 (0 : Int32) ((mI M1 69 12) - (1 : Int32)) M1).bind fun y1 =>
      if y1.1 = 0 then (
        (d_X12_fails (1 : Int32) y1.2).bind fun y4 =>
        some (y4.1, y4.2))
      else (
        okk (vp_in x1 60) <|
        (d_X12_in x2 (0 : Int32) ((mI y1.2 80 x1.toNatClampNeg) - (1 : Int32)) y1.2).bind fun y2 =>
        if y2.1 = 0 then (
          (d_X12_fails (2 : Int32) y2.2).bind fun y3 =>
          some (y3.1, y3.2))
        else (
          okk (vp_in (((6 : Int32) * x1) + x2) 360) <|
          some ((mI y2.2 81 (((6 : Int32) * x1) + x2).toNatClampNeg), y2.2)))) := id rfl
theorem bq_X12_fieldAt {β : Type} (x1 : Int32) (x2 : Int32) (M : Mem) (f : Int32 × Mem → Option β) : (d_X12_fieldAt x1 x2 M).bind f = Option.bind (
      bnd (sI M 69 0 (0 : Int32)) fun M1 =>
      (d_X12_in x1 (0 : Int32) ((mI M1 69 12) - (1 : Int32)) M1).bind fun y1 =>
      if y1.1 = 0 then (
        (d_X12_fails (1 : Int32) y1.2).bind fun y4 =>
        some (y4.1, y4.2))
      else (
        okk (vp_in x1 60) <|
        (d_X12_in x2 (0 : Int32) ((mI y1.2 80 x1.toNatClampNeg) - (1 : Int32)) y1.2).bind fun y2 =>
        if y2.1 = 0 then (
          (d_X12_fails (2 : Int32) y2.2).bind fun y3 =>
          some (y3.1, y3.2))
        else (
          okk (vp_in (((6 : Int32) * x1) + x2) 360) <|
          some ((mI y2.2 81 (((6 : Int32) * x1) + x2).toNatClampNeg), y2.2)))) f := id rfl
theorem tq_X12_nextShape (x1 : Int32) (x2 : Int32) (M : Mem) : d_X12_nextShape x1 x2 M = (
      bnd (sI M 69 0 (0 : Int32)) fun M1 =>
      (d_X12_in x1 (0 : Int32) ((mI M1 69 12) - (1 : Int32)) M1).bind fun y1 =>
      if y1.1 = 0 then (
        (d_X12_fails (1 : Int32) y1.2).bind fun y5 =>
        some (y5.1, y5.2))
      else (
        (d_X12_in x2 (0 : Int32) (5 : Int32) y1.2).bind fun y2 =>
        if y2.1 = 0 then (
          (d_X12_fails (2 : Int32) y2.2).bind fun y3 =>
          some (y3.1, y3.2))
        else (
          okk (vp_in (((6 : Int32) * x1) + x2) 360) <|
          if (mI y2.2 82 (((6 : Int32) * x1) + x2).toNatClampNeg) = (-1 : Int32) then (
            (d_X12_fails (2 : Int32) y2.2).bind fun y4 =>
            some (y4.1, y4.2))
          else (
            okk (vp_in (((6 : Int32) * x1) + x2) 360) <|
            some ((mI y2.2 82 (((6 : Int32) * x1) + x2).toNatClampNeg), y2.2))))) := id rfl
theorem bq_X12_nextShape {β : Type} (x1 : Int32) (x2 : Int32) (M : Mem) (f : Int32 × Mem → Option β) : (d_X12_nextShape x1 x2 M).bind f = Option.bind (
      bnd (sI M 69 0 (0 : Int32)) fun M1 =>
      (d_X12_in x1 (0 : Int32) ((mI M1 69 12) - (1 : Int32)) M1).bind fun y1 =>
      if y1.1 = 0 then (
        (d_X12_fails (1 : Int32) y1.2).bind fun y5 =>
        some (y5.1, y5.2))
      else (
        (d_X12_in x2 (0 : Int32) (5 : Int32) y1.2).bind fun y2 =>
        if y2.1 = 0 then (
          (d_X12_fails (2 : Int32) y2.2).bind fun y3 =>
          some (y3.1, y3.2))
        else (
          okk (vp_in (((6 : Int32) * x1) + x2) 360) <|
          if (mI y2.2 82 (((6 : Int32) * x1) + x2).toNatClampNeg) = (-1 : Int32) then (
            (d_X12_fails (2 : Int32) y2.2).bind fun y4 =>
            some (y4.1, y4.2))
          else (
            okk (vp_in (((6 : Int32) * x1) + x2) 360) <|
            some ((mI y2.2 82 (((6 : Int32) * x1) + x2).toNatClampNeg), y2.2))))) f := id rfl
theorem tq_X12_cache_77 (x1 : Int32) (x2 : Int32) (s1 : Int32) (M : Mem) : d_X12_cache_77 x1 x2 s1 M = (
      bnd (sI M 69 0 s1) fun M1 =>
      if (mI M1 69 0) ≤ 0 then (
        some ((((40 : Int32) * x1) + x2), M1))
      else (
        some ((-1 : Int32), M1))) := id rfl
theorem bq_X12_cache_77 {β : Type} (x1 : Int32) (x2 : Int32) (s1 : Int32) (M : Mem) (f : Int32 × Mem → Option β) : (d_X12_cache_77 x1 x2 s1 M).bind f = Option.bind (
      bnd (sI M 69 0 s1) fun M1 =>
      if (mI M1 69 0) ≤ 0 then (
        some ((((40 : Int32) * x1) + x2), M1))
      else (
        some ((-1 : Int32), M1))) f := id rfl
theorem tq_X12_cache_72 (x1 : Int32) (x2 : Int32) (M : Mem) : d_X12_cache_72 x1 x2 M = (
      d_X12_cache_77 x1 x2 (0 : Int32) M) := id rfl
theorem bq_X12_cache_72 {β : Type} (x1 : Int32) (x2 : Int32) (M : Mem) (f : Int32 × Mem → Option β) : (d_X12_cache_72 x1 x2 M).bind f = Option.bind (
      d_X12_cache_77 x1 x2 (0 : Int32) M) f := id rfl
theorem tq_X12_cache_52 (x1 : Int32) (x2 : Int32) (s0 : Int32) (M : Mem) : d_X12_cache_52 x1 x2 s0 M = (
      if s0 = (103 : Int32) then (
        d_X12_cache_72 x1 x2 M)
      else (
        if s0 = (112 : Int32) then (
          d_X12_cache_72 x1 x2 M)
        else (
          if s0 = (109 : Int32) then (
            d_X12_cache_72 x1 x2 M)
          else (
            d_X12_cache_77 x1 x2 (2 : Int32) M)))) := id rfl
theorem bq_X12_cache_52 {β : Type} (x1 : Int32) (x2 : Int32) (s0 : Int32) (M : Mem) (f : Int32 × Mem → Option β) : (d_X12_cache_52 x1 x2 s0 M).bind f = Option.bind (
      if s0 = (103 : Int32) then (
        d_X12_cache_72 x1 x2 M)
      else (
        if s0 = (112 : Int32) then (
          d_X12_cache_72 x1 x2 M)
        else (
          if s0 = (109 : Int32) then (
            d_X12_cache_72 x1 x2 M)
          else (
            d_X12_cache_77 x1 x2 (2 : Int32) M)))) f := id rfl
theorem tq_X12_cache (x1 : Int32) (x2 : Int32) (M : Mem) : d_X12_cache x1 x2 M = (
      bnd (sI M 69 0 (0 : Int32)) fun M1 =>
      (d_X12_isFunction x1 M1).bind fun y1 =>
      if y1.1 = 0 then (
        bnd (sI y1.2 69 0 (1 : Int32)) fun M2 =>
        some ((-1 : Int32), M2))
      else (
        okk (vp_in x1 8) <|
        (d_X12_in x2 (0 : Int32) ((mI y1.2 71 x1.toNatClampNeg) - (1 : Int32)) y1.2).bind fun y2 =>
        if y2.1 = 0 then (
          d_X12_cache_52 x1 x2 (32 : Int32) y2.2)
        else (
          okk (vp_in (((40 : Int32) * x1) + x2) 320) <|
          d_X12_cache_52 x1 x2 (mI y2.2 72 (((40 : Int32) * x1) + x2).toNatClampNeg) y2.2))) := id rfl
theorem bq_X12_cache {β : Type} (x1 : Int32) (x2 : Int32) (M : Mem) (f : Int32 × Mem → Option β) : (d_X12_cache x1 x2 M).bind f = Option.bind (
      bnd (sI M 69 0 (0 : Int32)) fun M1 =>
      (d_X12_isFunction x1 M1).bind fun y1 =>
      if y1.1 = 0 then (
        bnd (sI y1.2 69 0 (1 : Int32)) fun M2 =>
        some ((-1 : Int32), M2))
      else (
        okk (vp_in x1 8) <|
        (d_X12_in x2 (0 : Int32) ((mI y1.2 71 x1.toNatClampNeg) - (1 : Int32)) y1.2).bind fun y2 =>
        if y2.1 = 0 then (
          d_X12_cache_52 x1 x2 (32 : Int32) y2.2)
        else (
          okk (vp_in (((40 : Int32) * x1) + x2) 320) <|
          d_X12_cache_52 x1 x2 (mI y2.2 72 (((40 : Int32) * x1) + x2).toNatClampNeg) y2.2))) f := id rfl
theorem tq_X12_cacheState (x1 : Int32) (x2 : Int32) (M : Mem) : d_X12_cacheState x1 x2 M = (
      (d_X12_cache x1 x2 M).bind fun y1 =>
      if y1.1 = (-1 : Int32) then (
        some ((0 : Int32), y1.2))
      else (
        okk (vp_in y1.1 320) <|
        if (mI y1.2 83 y1.1.toNatClampNeg) = (-1 : Int32) then (
          some ((120 : Int32), y1.2))
        else (
          okk (vp_in y1.1 320) <|
          if (mI y1.2 83 y1.1.toNatClampNeg) = 0 then (
            some ((101 : Int32), y1.2))
          else (
            okk (vp_in y1.1 320) <|
            okk (isCh ((((48 : Int32) + (mI y1.2 83 y1.1.toNatClampNeg)).toUInt32 % 65536).toInt32)) <|
            some (((((48 : Int32) + (mI y1.2 83 y1.1.toNatClampNeg)).toUInt32 % 65536).toInt32), y1.2))))) := id rfl
theorem bq_X12_cacheState {β : Type} (x1 : Int32) (x2 : Int32) (M : Mem) (f : Int32 × Mem → Option β) : (d_X12_cacheState x1 x2 M).bind f = Option.bind (
      (d_X12_cache x1 x2 M).bind fun y1 =>
      if y1.1 = (-1 : Int32) then (
        some ((0 : Int32), y1.2))
      else (
        okk (vp_in y1.1 320) <|
        if (mI y1.2 83 y1.1.toNatClampNeg) = (-1 : Int32) then (
          some ((120 : Int32), y1.2))
        else (
          okk (vp_in y1.1 320) <|
          if (mI y1.2 83 y1.1.toNatClampNeg) = 0 then (
            some ((101 : Int32), y1.2))
          else (
            okk (vp_in y1.1 320) <|
            okk (isCh ((((48 : Int32) + (mI y1.2 83 y1.1.toNatClampNeg)).toUInt32 % 65536).toInt32)) <|
            some (((((48 : Int32) + (mI y1.2 83 y1.1.toNatClampNeg)).toUInt32 % 65536).toInt32), y1.2))))) f := id rfl
theorem tq_X12_hits (x1 : Int32) (x2 : Int32) (M : Mem) : d_X12_hits x1 x2 M = (
      (d_X12_cache x1 x2 M).bind fun y1 =>
      if y1.1 = (-1 : Int32) then (
        some ((0 : Int32), y1.2))
      else (
        okk (vp_in y1.1 320) <|
        some ((mI y1.2 85 y1.1.toNatClampNeg), y1.2))) := id rfl
theorem bq_X12_hits {β : Type} (x1 : Int32) (x2 : Int32) (M : Mem) (f : Int32 × Mem → Option β) : (d_X12_hits x1 x2 M).bind f = Option.bind (
      (d_X12_cache x1 x2 M).bind fun y1 =>
      if y1.1 = (-1 : Int32) then (
        some ((0 : Int32), y1.2))
      else (
        okk (vp_in y1.1 320) <|
        some ((mI y1.2 85 y1.1.toNatClampNeg), y1.2))) f := id rfl
theorem tq_X12_misses (x1 : Int32) (x2 : Int32) (M : Mem) : d_X12_misses x1 x2 M = (
      (d_X12_cache x1 x2 M).bind fun y1 =>
      if y1.1 = (-1 : Int32) then (
        some ((0 : Int32), y1.2))
      else (
        okk (vp_in y1.1 320) <|
        some ((mI y1.2 86 y1.1.toNatClampNeg), y1.2))) := id rfl
theorem bq_X12_misses {β : Type} (x1 : Int32) (x2 : Int32) (M : Mem) (f : Int32 × Mem → Option β) : (d_X12_misses x1 x2 M).bind f = Option.bind (
      (d_X12_cache x1 x2 M).bind fun y1 =>
      if y1.1 = (-1 : Int32) then (
        some ((0 : Int32), y1.2))
      else (
        okk (vp_in y1.1 320) <|
        some ((mI y1.2 86 y1.1.toNatClampNeg), y1.2))) f := id rfl
theorem tq_X12_isHead_28 (s1 : Int32) (M : Mem) : d_X12_isHead_28 s1 M = (
      bnd (sI M 69 0 s1) fun M1 =>
      if (mI M1 69 0) = 0 then (
        some ((1 : Int32), M1))
      else (
        some ((0 : Int32), M1))) := id rfl
theorem bq_X12_isHead_28 {β : Type} (s1 : Int32) (M : Mem) (f : Int32 × Mem → Option β) : (d_X12_isHead_28 s1 M).bind f = Option.bind (
      bnd (sI M 69 0 s1) fun M1 =>
      if (mI M1 69 0) = 0 then (
        some ((1 : Int32), M1))
      else (
        some ((0 : Int32), M1))) f := id rfl
theorem tq_X12_isHead (x1 : Int32) (x2 : Int32) (M : Mem) : d_X12_isHead x1 x2 M = (
      (d_X12_isFunction x1 M).bind fun y1 =>
      if y1.1 = 0 then (
        d_X12_isHead_28 (1 : Int32) y1.2)
      else (
        (d_X12_in x2 (0 : Int32) (39 : Int32) y1.2).bind fun y2 =>
        if y2.1 = 0 then (
          d_X12_isHead_28 (2 : Int32) y2.2)
        else (
          d_X12_isHead_28 (0 : Int32) y2.2))) := id rfl
theorem bq_X12_isHead {β : Type} (x1 : Int32) (x2 : Int32) (M : Mem) (f : Int32 × Mem → Option β) : (d_X12_isHead x1 x2 M).bind f = Option.bind (
      (d_X12_isFunction x1 M).bind fun y1 =>
      if y1.1 = 0 then (
        d_X12_isHead_28 (1 : Int32) y1.2)
      else (
        (d_X12_in x2 (0 : Int32) (39 : Int32) y1.2).bind fun y2 =>
        if y2.1 = 0 then (
          d_X12_isHead_28 (2 : Int32) y2.2)
        else (
          d_X12_isHead_28 (0 : Int32) y2.2))) f := id rfl
theorem tq_X12_counter (x1 : Int32) (x2 : Int32) (M : Mem) : d_X12_counter x1 x2 M = (
      (d_X12_isHead x1 x2 M).bind fun y1 =>
      if y1.1 = 0 then (
        some ((0 : Int32), y1.2))
      else (
        okk (vp_in (((40 : Int32) * x1) + x2) 320) <|
        some ((mI y1.2 87 (((40 : Int32) * x1) + x2).toNatClampNeg), y1.2))) := id rfl
theorem bq_X12_counter {β : Type} (x1 : Int32) (x2 : Int32) (M : Mem) (f : Int32 × Mem → Option β) : (d_X12_counter x1 x2 M).bind f = Option.bind (
      (d_X12_isHead x1 x2 M).bind fun y1 =>
      if y1.1 = 0 then (
        some ((0 : Int32), y1.2))
      else (
        okk (vp_in (((40 : Int32) * x1) + x2) 320) <|
        some ((mI y1.2 87 (((40 : Int32) * x1) + x2).toNatClampNeg), y1.2))) f := id rfl
theorem tq_X12_isBarred (x1 : Int32) (x2 : Int32) (M : Mem) : d_X12_isBarred x1 x2 M = (
      (d_X12_isHead x1 x2 M).bind fun y1 =>
      if y1.1 = 0 then (
        some ((0 : Int32), y1.2))
      else (
        okk (vp_in (((40 : Int32) * x1) + x2) 320) <|
        if (mI y1.2 88 (((40 : Int32) * x1) + x2).toNatClampNeg) < (2 : Int32) then (
          some ((0 : Int32), y1.2))
        else (
          some ((1 : Int32), y1.2)))) := id rfl
theorem bq_X12_isBarred {β : Type} (x1 : Int32) (x2 : Int32) (M : Mem) (f : Int32 × Mem → Option β) : (d_X12_isBarred x1 x2 M).bind f = Option.bind (
      (d_X12_isHead x1 x2 M).bind fun y1 =>
      if y1.1 = 0 then (
        some ((0 : Int32), y1.2))
      else (
        okk (vp_in (((40 : Int32) * x1) + x2) 320) <|
        if (mI y1.2 88 (((40 : Int32) * x1) + x2).toNatClampNeg) < (2 : Int32) then (
          some ((0 : Int32), y1.2))
        else (
          some ((1 : Int32), y1.2)))) f := id rfl
theorem tq_X12_traces (M : Mem) : d_X12_traces M = (
      bnd (sI M 69 0 (0 : Int32)) fun M1 =>
      some ((mI M1 69 26), M1)) := id rfl
theorem bq_X12_traces {β : Type} (M : Mem) (f : Int32 × Mem → Option β) : (d_X12_traces M).bind f = Option.bind (
      bnd (sI M 69 0 (0 : Int32)) fun M1 =>
      some ((mI M1 69 26), M1)) f := id rfl
theorem tq_X12_isTrace_20 (s1 : Int32) (M : Mem) : d_X12_isTrace_20 s1 M = (
      bnd (sI M 69 0 s1) fun M1 =>
      if (mI M1 69 0) = 0 then (
        some ((1 : Int32), M1))
      else (
        some ((0 : Int32), M1))) := id rfl
theorem bq_X12_isTrace_20 {β : Type} (s1 : Int32) (M : Mem) (f : Int32 × Mem → Option β) : (d_X12_isTrace_20 s1 M).bind f = Option.bind (
      bnd (sI M 69 0 s1) fun M1 =>
      if (mI M1 69 0) = 0 then (
        some ((1 : Int32), M1))
      else (
        some ((0 : Int32), M1))) f := id rfl
theorem tq_X12_isTrace (x1 : Int32) (M : Mem) : d_X12_isTrace x1 M = (
      (d_X12_in x1 (0 : Int32) ((mI M 69 26) - (1 : Int32)) M).bind fun y1 =>
      if y1.1 = 0 then (
        d_X12_isTrace_20 (1 : Int32) y1.2)
      else (
        d_X12_isTrace_20 (0 : Int32) y1.2)) := id rfl
theorem bq_X12_isTrace {β : Type} (x1 : Int32) (M : Mem) (f : Int32 × Mem → Option β) : (d_X12_isTrace x1 M).bind f = Option.bind (
      (d_X12_in x1 (0 : Int32) ((mI M 69 26) - (1 : Int32)) M).bind fun y1 =>
      if y1.1 = 0 then (
        d_X12_isTrace_20 (1 : Int32) y1.2)
      else (
        d_X12_isTrace_20 (0 : Int32) y1.2)) f := id rfl
theorem tq_X12_isGuard_36 (s1 : Int32) (M : Mem) : d_X12_isGuard_36 s1 M = (
      bnd (sI M 69 0 s1) fun M1 =>
      if (mI M1 69 0) = 0 then (
        some ((1 : Int32), M1))
      else (
        some ((0 : Int32), M1))) := id rfl
theorem bq_X12_isGuard_36 {β : Type} (s1 : Int32) (M : Mem) (f : Int32 × Mem → Option β) : (d_X12_isGuard_36 s1 M).bind f = Option.bind (
      bnd (sI M 69 0 s1) fun M1 =>
      if (mI M1 69 0) = 0 then (
        some ((1 : Int32), M1))
      else (
        some ((0 : Int32), M1))) f := id rfl
theorem tq_X12_isGuard_35 (M : Mem) : d_X12_isGuard_35 M = (
      d_X12_isGuard_36 (1 : Int32) M) := id rfl
theorem bq_X12_isGuard_35 {β : Type} (M : Mem) (f : Int32 × Mem → Option β) : (d_X12_isGuard_35 M).bind f = Option.bind (
      d_X12_isGuard_36 (1 : Int32) M) f := id rfl
theorem tq_X12_isGuard (x1 : Int32) (x2 : Int32) (M : Mem) : d_X12_isGuard x1 x2 M = (
      (d_X12_in x1 (0 : Int32) ((mI M 69 26) - (1 : Int32)) M).bind fun y1 =>
      if y1.1 = 0 then (
        d_X12_isGuard_35 y1.2)
      else (
        okk (vp_in x1 20) <|
        (d_X12_in x2 (0 : Int32) ((mI y1.2 92 x1.toNatClampNeg) - (1 : Int32)) y1.2).bind fun y2 =>
        if y2.1 = 0 then (
          d_X12_isGuard_35 y2.2)
        else (
          d_X12_isGuard_36 (0 : Int32) y2.2))) := id rfl
theorem bq_X12_isGuard {β : Type} (x1 : Int32) (x2 : Int32) (M : Mem) (f : Int32 × Mem → Option β) : (d_X12_isGuard x1 x2 M).bind f = Option.bind (
      (d_X12_in x1 (0 : Int32) ((mI M 69 26) - (1 : Int32)) M).bind fun y1 =>
      if y1.1 = 0 then (
        d_X12_isGuard_35 y1.2)
      else (
        okk (vp_in x1 20) <|
        (d_X12_in x2 (0 : Int32) ((mI y1.2 92 x1.toNatClampNeg) - (1 : Int32)) y1.2).bind fun y2 =>
        if y2.1 = 0 then (
          d_X12_isGuard_35 y2.2)
        else (
          d_X12_isGuard_36 (0 : Int32) y2.2))) f := id rfl
theorem tq_X12_isThere (x1 : Int32) (M : Mem) : d_X12_isThere x1 M = (
      (d_X12_isTrace x1 M).bind fun y1 =>
      if y1.1 = 0 then (
        some ((0 : Int32), y1.2))
      else (
        okk (vp_in x1 20) <|
        if (mI y1.2 89 x1.toNatClampNeg) = 0 then (
          some ((0 : Int32), y1.2))
        else (
          some ((1 : Int32), y1.2)))) := id rfl
theorem bq_X12_isThere {β : Type} (x1 : Int32) (M : Mem) (f : Int32 × Mem → Option β) : (d_X12_isThere x1 M).bind f = Option.bind (
      (d_X12_isTrace x1 M).bind fun y1 =>
      if y1.1 = 0 then (
        some ((0 : Int32), y1.2))
      else (
        okk (vp_in x1 20) <|
        if (mI y1.2 89 x1.toNatClampNeg) = 0 then (
          some ((0 : Int32), y1.2))
        else (
          some ((1 : Int32), y1.2)))) f := id rfl
theorem tq_X12_steps (x1 : Int32) (M : Mem) : d_X12_steps x1 M = (
      (d_X12_isTrace x1 M).bind fun y1 =>
      if y1.1 = 0 then (
        some ((0 : Int32), y1.2))
      else (
        okk (vp_in x1 20) <|
        some ((mI y1.2 90 x1.toNatClampNeg), y1.2))) := id rfl
theorem bq_X12_steps {β : Type} (x1 : Int32) (M : Mem) (f : Int32 × Mem → Option β) : (d_X12_steps x1 M).bind f = Option.bind (
      (d_X12_isTrace x1 M).bind fun y1 =>
      if y1.1 = 0 then (
        some ((0 : Int32), y1.2))
      else (
        okk (vp_in x1 20) <|
        some ((mI y1.2 90 x1.toNatClampNeg), y1.2))) f := id rfl
theorem tq_X12_lineAt (x1 : Int32) (x2 : Int32) (M : Mem) : d_X12_lineAt x1 x2 M = (
      (d_X12_isTrace x1 M).bind fun y1 =>
      if y1.1 = 0 then (
        some ((0 : Int32), y1.2))
      else (
        okk (vp_in x1 20) <|
        (d_X12_in x2 (0 : Int32) ((mI y1.2 90 x1.toNatClampNeg) - (1 : Int32)) y1.2).bind fun y2 =>
        if y2.1 = 0 then (
          (d_X12_fails (2 : Int32) y2.2).bind fun y3 =>
          some (y3.1, y3.2))
        else (
          okk (vp_in (((30 : Int32) * x1) + x2) 600) <|
          some ((mI y2.2 91 (((30 : Int32) * x1) + x2).toNatClampNeg), y2.2)))) := id rfl
theorem bq_X12_lineAt {β : Type} (x1 : Int32) (x2 : Int32) (M : Mem) (f : Int32 × Mem → Option β) : (d_X12_lineAt x1 x2 M).bind f = Option.bind (
      (d_X12_isTrace x1 M).bind fun y1 =>
      if y1.1 = 0 then (
        some ((0 : Int32), y1.2))
      else (
        okk (vp_in x1 20) <|
        (d_X12_in x2 (0 : Int32) ((mI y1.2 90 x1.toNatClampNeg) - (1 : Int32)) y1.2).bind fun y2 =>
        if y2.1 = 0 then (
          (d_X12_fails (2 : Int32) y2.2).bind fun y3 =>
          some (y3.1, y3.2))
        else (
          okk (vp_in (((30 : Int32) * x1) + x2) 600) <|
          some ((mI y2.2 91 (((30 : Int32) * x1) + x2).toNatClampNeg), y2.2)))) f := id rfl
theorem tq_X12_guards_ (x1 : Int32) (M : Mem) : d_X12_guards_ x1 M = (
      (d_X12_isTrace x1 M).bind fun y1 =>
      if y1.1 = 0 then (
        some ((0 : Int32), y1.2))
      else (
        okk (vp_in x1 20) <|
        some ((mI y1.2 92 x1.toNatClampNeg), y1.2))) := id rfl
theorem bq_X12_guards_ {β : Type} (x1 : Int32) (M : Mem) (f : Int32 × Mem → Option β) : (d_X12_guards_ x1 M).bind f = Option.bind (
      (d_X12_isTrace x1 M).bind fun y1 =>
      if y1.1 = 0 then (
        some ((0 : Int32), y1.2))
      else (
        okk (vp_in x1 20) <|
        some ((mI y1.2 92 x1.toNatClampNeg), y1.2))) f := id rfl
theorem tq_X12_guardAt (x1 : Int32) (x2 : Int32) (M : Mem) : d_X12_guardAt x1 x2 M = (
      (d_X12_isGuard x1 x2 M).bind fun y1 =>
      if y1.1 = 0 then (
        some ((0 : Int32), y1.2))
      else (
        okk (vp_in (((120 : Int32) * x1) + x2) 2400) <|
        okk (isCh (mI y1.2 97 (((120 : Int32) * x1) + x2).toNatClampNeg)) <|
        some ((mI y1.2 97 (((120 : Int32) * x1) + x2).toNatClampNeg), y1.2))) := id rfl
theorem bq_X12_guardAt {β : Type} (x1 : Int32) (x2 : Int32) (M : Mem) (f : Int32 × Mem → Option β) : (d_X12_guardAt x1 x2 M).bind f = Option.bind (
      (d_X12_isGuard x1 x2 M).bind fun y1 =>
      if y1.1 = 0 then (
        some ((0 : Int32), y1.2))
      else (
        okk (vp_in (((120 : Int32) * x1) + x2) 2400) <|
        okk (isCh (mI y1.2 97 (((120 : Int32) * x1) + x2).toNatClampNeg)) <|
        some ((mI y1.2 97 (((120 : Int32) * x1) + x2).toNatClampNeg), y1.2))) f := id rfl
theorem tq_X12_guardStep (x1 : Int32) (x2 : Int32) (M : Mem) : d_X12_guardStep x1 x2 M = (
      (d_X12_isGuard x1 x2 M).bind fun y1 =>
      if y1.1 = 0 then (
        some ((0 : Int32), y1.2))
      else (
        okk (vp_in (((120 : Int32) * x1) + x2) 2400) <|
        some ((mI y1.2 98 (((120 : Int32) * x1) + x2).toNatClampNeg), y1.2))) := id rfl
theorem bq_X12_guardStep {β : Type} (x1 : Int32) (x2 : Int32) (M : Mem) (f : Int32 × Mem → Option β) : (d_X12_guardStep x1 x2 M).bind f = Option.bind (
      (d_X12_isGuard x1 x2 M).bind fun y1 =>
      if y1.1 = 0 then (
        some ((0 : Int32), y1.2))
      else (
        okk (vp_in (((120 : Int32) * x1) + x2) 2400) <|
        some ((mI y1.2 98 (((120 : Int32) * x1) + x2).toNatClampNeg), y1.2))) f := id rfl
theorem tq_X12_exits (x1 : Int32) (x2 : Int32) (M : Mem) : d_X12_exits x1 x2 M = (
      (d_X12_isGuard x1 x2 M).bind fun y1 =>
      if y1.1 = 0 then (
        some ((0 : Int32), y1.2))
      else (
        okk (vp_in (((120 : Int32) * x1) + x2) 2400) <|
        some ((mI y1.2 101 (((120 : Int32) * x1) + x2).toNatClampNeg), y1.2))) := id rfl
theorem bq_X12_exits {β : Type} (x1 : Int32) (x2 : Int32) (M : Mem) (f : Int32 × Mem → Option β) : (d_X12_exits x1 x2 M).bind f = Option.bind (
      (d_X12_isGuard x1 x2 M).bind fun y1 =>
      if y1.1 = 0 then (
        some ((0 : Int32), y1.2))
      else (
        okk (vp_in (((120 : Int32) * x1) + x2) 2400) <|
        some ((mI y1.2 101 (((120 : Int32) * x1) + x2).toNatClampNeg), y1.2))) f := id rfl
theorem tq_X12_sideOf (x1 : Int32) (x2 : Int32) (M : Mem) : d_X12_sideOf x1 x2 M = (
      (d_X12_isGuard x1 x2 M).bind fun y1 =>
      if y1.1 = 0 then (
        some ((0 : Int32), y1.2))
      else (
        okk (vp_in (((120 : Int32) * x1) + x2) 2400) <|
        bnd ((mI y1.2 104 (((120 : Int32) * x1) + x2).toNatClampNeg)) fun b1 =>
        if b1 = (-1 : Int32) then (
          (d_X12_fails (2 : Int32) y1.2).bind fun y2 =>
          some (y2.1, y2.2))
        else (
          some (b1, y1.2)))) := id rfl
theorem bq_X12_sideOf {β : Type} (x1 : Int32) (x2 : Int32) (M : Mem) (f : Int32 × Mem → Option β) : (d_X12_sideOf x1 x2 M).bind f = Option.bind (
      (d_X12_isGuard x1 x2 M).bind fun y1 =>
      if y1.1 = 0 then (
        some ((0 : Int32), y1.2))
      else (
        okk (vp_in (((120 : Int32) * x1) + x2) 2400) <|
        bnd ((mI y1.2 104 (((120 : Int32) * x1) + x2).toNatClampNeg)) fun b1 =>
        if b1 = (-1 : Int32) then (
          (d_X12_fails (2 : Int32) y1.2).bind fun y2 =>
          some (y2.1, y2.2))
        else (
          some (b1, y1.2)))) f := id rfl
theorem tq_X12_rootOf (x1 : Int32) (M : Mem) : d_X12_rootOf x1 M = (
      (d_X12_isTrace x1 M).bind fun y1 =>
      if y1.1 = 0 then (
        some ((0 : Int32), y1.2))
      else (
        okk (vp_in x1 20) <|
        some ((mI y1.2 93 x1.toNatClampNeg), y1.2))) := id rfl
theorem bq_X12_rootOf {β : Type} (x1 : Int32) (M : Mem) (f : Int32 × Mem → Option β) : (d_X12_rootOf x1 M).bind f = Option.bind (
      (d_X12_isTrace x1 M).bind fun y1 =>
      if y1.1 = 0 then (
        some ((0 : Int32), y1.2))
      else (
        okk (vp_in x1 20) <|
        some ((mI y1.2 93 x1.toNatClampNeg), y1.2))) f := id rfl
theorem tq_X12_begun (x1 : Int32) (M : Mem) : d_X12_begun x1 M = (
      (d_X12_isTrace x1 M).bind fun y1 =>
      if y1.1 = 0 then (
        some ((0 : Int32), y1.2))
      else (
        okk (vp_in x1 20) <|
        some ((mI y1.2 95 x1.toNatClampNeg), y1.2))) := id rfl
theorem bq_X12_begun {β : Type} (x1 : Int32) (M : Mem) (f : Int32 × Mem → Option β) : (d_X12_begun x1 M).bind f = Option.bind (
      (d_X12_isTrace x1 M).bind fun y1 =>
      if y1.1 = 0 then (
        some ((0 : Int32), y1.2))
      else (
        okk (vp_in x1 20) <|
        some ((mI y1.2 95 x1.toNatClampNeg), y1.2))) f := id rfl
theorem tq_X12_inTraces (M : Mem) : d_X12_inTraces M = (
      bnd (sI M 69 0 (0 : Int32)) fun M1 =>
      some ((mI M1 69 58), M1)) := id rfl
theorem bq_X12_inTraces {β : Type} (M : Mem) (f : Int32 × Mem → Option β) : (d_X12_inTraces M).bind f = Option.bind (
      bnd (sI M 69 0 (0 : Int32)) fun M1 =>
      some ((mI M1 69 58), M1)) f := id rfl
theorem tq_X12_codeSize (M : Mem) : d_X12_codeSize M = (
      bnd (sI M 69 0 (0 : Int32)) fun M1 =>
      (d_X12_size M1).bind fun y1 =>
      some (y1.1, y1.2)) := id rfl
theorem bq_X12_codeSize {β : Type} (M : Mem) (f : Int32 × Mem → Option β) : (d_X12_codeSize M).bind f = Option.bind (
      bnd (sI M 69 0 (0 : Int32)) fun M1 =>
      (d_X12_size M1).bind fun y1 =>
      some (y1.1, y1.2)) f := id rfl
theorem tq_X12_agrees (M : Mem) : d_X12_agrees M = (
      bnd (sI M 69 0 (0 : Int32)) fun M1 =>
      some ((1 : Int32), M1)) := id rfl
theorem bq_X12_agrees {β : Type} (M : Mem) (f : Int32 × Mem → Option β) : (d_X12_agrees M).bind f = Option.bind (
      bnd (sI M 69 0 (0 : Int32)) fun M1 =>
      some ((1 : Int32), M1)) f := id rfl
theorem tq_X12_tracedShare_13 (s1 : Int32) (M : Mem) : d_X12_tracedShare_13 s1 M = (
      bnd (sI M 69 0 s1) fun M1 =>
      if (mI M1 69 0) ≤ 0 then (
        okk (vf_n32 (FP.fdiv (FP.i2f (mI M1 69 58)) (FP.i2f (mI M1 69 57)))) <|
        some ((FP.fdiv (FP.i2f (mI M1 69 58)) (FP.i2f (mI M1 69 57))), M1))
      else (
        some (FP.fconst0, M1))) := id rfl
theorem bq_X12_tracedShare_13 {β : Type} (s1 : Int32) (M : Mem) (f : UInt32 × Mem → Option β) : (d_X12_tracedShare_13 s1 M).bind f = Option.bind (
      bnd (sI M 69 0 s1) fun M1 =>
      if (mI M1 69 0) ≤ 0 then (
        okk (vf_n32 (FP.fdiv (FP.i2f (mI M1 69 58)) (FP.i2f (mI M1 69 57)))) <|
        some ((FP.fdiv (FP.i2f (mI M1 69 58)) (FP.i2f (mI M1 69 57))), M1))
      else (
        some (FP.fconst0, M1))) f := id rfl
theorem tq_X12_tracedShare (M : Mem) : d_X12_tracedShare M = (
      if (mI M 69 57) = 0 then (
        d_X12_tracedShare_13 (1 : Int32) M)
      else (
        d_X12_tracedShare_13 (0 : Int32) M)) := id rfl
theorem bq_X12_tracedShare {β : Type} (M : Mem) (f : UInt32 × Mem → Option β) : (d_X12_tracedShare M).bind f = Option.bind (
      if (mI M 69 57) = 0 then (
        d_X12_tracedShare_13 (1 : Int32) M)
      else (
        d_X12_tracedShare_13 (0 : Int32) M)) f := id rfl
theorem tq_X12_meanGuards_69 (x1 : Int32) (x2 : Int32) (s1 : Int32) (M : Mem) : d_X12_meanGuards_69 x1 x2 s1 M = (
      bnd (sI M 69 0 s1) fun M1 =>
      if (mI M1 69 0) ≤ 0 then (
        some ((FP.ddiv (FP.i2d x2) (FP.i2d x1)), M1))
      else (
        some (FP.dconst0, M1))) := id rfl
theorem bq_X12_meanGuards_69 {β : Type} (x1 : Int32) (x2 : Int32) (s1 : Int32) (M : Mem) (f : UInt64 × Mem → Option β) : (d_X12_meanGuards_69 x1 x2 s1 M).bind f = Option.bind (
      bnd (sI M 69 0 s1) fun M1 =>
      if (mI M1 69 0) ≤ 0 then (
        some ((FP.ddiv (FP.i2d x2) (FP.i2d x1)), M1))
      else (
        some (FP.dconst0, M1))) f := id rfl
theorem tq_X12_meanGuards_51 (k6 : (Int32 × Int32 × Int32) → Mem → Option (UInt64 × Mem)) (x1 : Int32) (x3 : Int32) (s0 : Int32) (s1 : Int32) (M : Mem) : d_X12_meanGuards_51 k6 x1 x3 s0 s1 M = (
      bnd ((s0 + s1)) fun b1 =>
      bnd ((x3 + (1 : Int32))) fun b2 =>
      k6 (x1, b1, b2) M) := id rfl
theorem bq_X12_meanGuards_51 {β : Type} (k6 : (Int32 × Int32 × Int32) → Mem → Option (UInt64 × Mem)) (x1 : Int32) (x3 : Int32) (s0 : Int32) (s1 : Int32) (M : Mem) (f : UInt64 × Mem → Option β) : (d_X12_meanGuards_51 k6 x1 x3 s0 s1 M).bind f = Option.bind (
      bnd ((s0 + s1)) fun b1 =>
      bnd ((x3 + (1 : Int32))) fun b2 =>
      k6 (x1, b1, b2) M) f := id rfl
theorem tq_X12_meanGuards_29 (k6 : (Int32 × Int32 × Int32) → Mem → Option (UInt64 × Mem)) (x2 : Int32) (x3 : Int32) (s0 : Int32) (s1 : Int32) (M : Mem) : d_X12_meanGuards_29 k6 x2 x3 s0 s1 M = (
      bnd ((s0 + s1)) fun b1 =>
      okk (vp_in x3 20) <|
      if (mI M 89 x3.toNatClampNeg) = 0 then (
        d_X12_meanGuards_51 k6 b1 x3 x2 (0 : Int32) M)
      else (
        okk (vp_in x3 20) <|
        d_X12_meanGuards_51 k6 b1 x3 x2 (mI M 92 x3.toNatClampNeg) M)) := id rfl
theorem bq_X12_meanGuards_29 {β : Type} (k6 : (Int32 × Int32 × Int32) → Mem → Option (UInt64 × Mem)) (x2 : Int32) (x3 : Int32) (s0 : Int32) (s1 : Int32) (M : Mem) (f : UInt64 × Mem → Option β) : (d_X12_meanGuards_29 k6 x2 x3 s0 s1 M).bind f = Option.bind (
      bnd ((s0 + s1)) fun b1 =>
      okk (vp_in x3 20) <|
      if (mI M 89 x3.toNatClampNeg) = 0 then (
        d_X12_meanGuards_51 k6 b1 x3 x2 (0 : Int32) M)
      else (
        okk (vp_in x3 20) <|
        d_X12_meanGuards_51 k6 b1 x3 x2 (mI M 92 x3.toNatClampNeg) M)) f := id rfl
theorem tq_X12_meanGuards_6b (k6 : (Int32 × Int32 × Int32) → Mem → Option (UInt64 × Mem)) (x1 : Int32) (x2 : Int32) (x3 : Int32) (M : Mem) : d_X12_meanGuards_6b k6 x1 x2 x3 M = (
      if (mI M 69 26) ≤ x3 then (
        if x1 = 0 then (
          d_X12_meanGuards_69 x1 x2 (1 : Int32) M)
        else (
          d_X12_meanGuards_69 x1 x2 (0 : Int32) M))
      else (
        okk (vp_in x3 20) <|
        if (mI M 89 x3.toNatClampNeg) = 0 then (
          d_X12_meanGuards_29 k6 x2 x3 x1 (0 : Int32) M)
        else (
          d_X12_meanGuards_29 k6 x2 x3 x1 (1 : Int32) M))) := id rfl
theorem bq_X12_meanGuards_6b {β : Type} (k6 : (Int32 × Int32 × Int32) → Mem → Option (UInt64 × Mem)) (x1 : Int32) (x2 : Int32) (x3 : Int32) (M : Mem) (f : UInt64 × Mem → Option β) : (d_X12_meanGuards_6b k6 x1 x2 x3 M).bind f = Option.bind (
      if (mI M 69 26) ≤ x3 then (
        if x1 = 0 then (
          d_X12_meanGuards_69 x1 x2 (1 : Int32) M)
        else (
          d_X12_meanGuards_69 x1 x2 (0 : Int32) M))
      else (
        okk (vp_in x3 20) <|
        if (mI M 89 x3.toNatClampNeg) = 0 then (
          d_X12_meanGuards_29 k6 x2 x3 x1 (0 : Int32) M)
        else (
          d_X12_meanGuards_29 k6 x2 x3 x1 (1 : Int32) M))) f := id rfl
theorem tq_X12_meanGuards (M : Mem) : d_X12_meanGuards M = (
      d_X12_meanGuards_6 fuel ((0 : Int32), (0 : Int32), (0 : Int32)) M) := id rfl
theorem bq_X12_meanGuards {β : Type} (M : Mem) (f : UInt64 × Mem → Option β) : (d_X12_meanGuards M).bind f = Option.bind (
      d_X12_meanGuards_6 fuel ((0 : Int32), (0 : Int32), (0 : Int32)) M) f := id rfl
theorem tq_X12_isSound (M : Mem) : d_X12_isSound M = (
      bnd (sI M 69 0 (0 : Int32)) fun M1 =>
      (d_X12_size M1).bind fun y1 =>
      if (mI y1.2 69 25) < y1.1 then (
        some ((0 : Int32), y1.2))
      else (
        some ((1 : Int32), y1.2))) := id rfl
theorem bq_X12_isSound {β : Type} (M : Mem) (f : Int32 × Mem → Option β) : (d_X12_isSound M).bind f = Option.bind (
      bnd (sI M 69 0 (0 : Int32)) fun M1 =>
      (d_X12_size M1).bind fun y1 =>
      if (mI y1.2 69 25) < y1.1 then (
        some ((0 : Int32), y1.2))
      else (
        some ((1 : Int32), y1.2))) f := id rfl
theorem tq_X0_stateAt (x1 : Int32) (M : Mem) : d_X0_stateAt x1 M = (
      okk (vp_in x1 320) <|
      if (mI M 41 x1.toNatClampNeg) = (-1 : Int32) then (
        some ((120 : Int32), M))
      else (
        okk (vp_in x1 320) <|
        if (mI M 41 x1.toNatClampNeg) = 0 then (
          some ((101 : Int32), M))
        else (
          okk (vp_in x1 320) <|
          okk (isCh ((((48 : Int32) + (mI M 41 x1.toNatClampNeg)).toUInt32 % 65536).toInt32)) <|
          some (((((48 : Int32) + (mI M 41 x1.toNatClampNeg)).toUInt32 % 65536).toInt32), M)))) := id rfl
theorem bq_X0_stateAt {β : Type} (x1 : Int32) (M : Mem) (f : Int32 × Mem → Option β) : (d_X0_stateAt x1 M).bind f = Option.bind (
      okk (vp_in x1 320) <|
      if (mI M 41 x1.toNatClampNeg) = (-1 : Int32) then (
        some ((120 : Int32), M))
      else (
        okk (vp_in x1 320) <|
        if (mI M 41 x1.toNatClampNeg) = 0 then (
          some ((101 : Int32), M))
        else (
          okk (vp_in x1 320) <|
          okk (isCh ((((48 : Int32) + (mI M 41 x1.toNatClampNeg)).toUInt32 % 65536).toInt32)) <|
          some (((((48 : Int32) + (mI M 41 x1.toNatClampNeg)).toUInt32 % 65536).toInt32), M)))) f := id rfl
theorem tq_X0_keeps_2b (k2 : (Int32) → Mem → Option (Int32 × Mem)) (x1 : Int32) (x2 : Int32) (x3 : Int32) (M : Mem) : d_X0_keeps_2b k2 x1 x2 x3 M = (
      okk (vp_in x1 320) <|
      if (mI M 41 x1.toNatClampNeg) ≤ x3 then (
        some ((0 : Int32), M))
      else (
        okk (vp_in ((x1 * (3 : Int32)) + x3) 960) <|
        if (mI M 40 ((x1 * (3 : Int32)) + x3).toNatClampNeg) = x2 then (
          some ((1 : Int32), M))
        else (
          bnd ((x3 + (1 : Int32))) fun b1 =>
          k2 (b1) M))) := id rfl
theorem bq_X0_keeps_2b {β : Type} (k2 : (Int32) → Mem → Option (Int32 × Mem)) (x1 : Int32) (x2 : Int32) (x3 : Int32) (M : Mem) (f : Int32 × Mem → Option β) : (d_X0_keeps_2b k2 x1 x2 x3 M).bind f = Option.bind (
      okk (vp_in x1 320) <|
      if (mI M 41 x1.toNatClampNeg) ≤ x3 then (
        some ((0 : Int32), M))
      else (
        okk (vp_in ((x1 * (3 : Int32)) + x3) 960) <|
        if (mI M 40 ((x1 * (3 : Int32)) + x3).toNatClampNeg) = x2 then (
          some ((1 : Int32), M))
        else (
          bnd ((x3 + (1 : Int32))) fun b1 =>
          k2 (b1) M))) f := id rfl
theorem tq_X0_keeps (x1 : Int32) (x2 : Int32) (M : Mem) : d_X0_keeps x1 x2 M = (
      d_X0_keeps_2 x1 x2 fuel ((0 : Int32)) M) := id rfl
theorem bq_X0_keeps {β : Type} (x1 : Int32) (x2 : Int32) (M : Mem) (f : Int32 × Mem → Option β) : (d_X0_keeps x1 x2 M).bind f = Option.bind (
      d_X0_keeps_2 x1 x2 fuel ((0 : Int32)) M) f := id rfl
theorem tq_X0_meet (x1 : Int32) (x2 : Int32) (M : Mem) : d_X0_meet x1 x2 M = (
      okk (vp_in x1 320) <|
      if (mI M 41 x1.toNatClampNeg) = (-1 : Int32) then (
        some ((), M))
      else (
        (d_X0_keeps x1 x2 M).bind fun y1 =>
        if y1.1 = 0 then (
          okk (vp_in x1 320) <|
          okk (vp_in x1 320) <|
          bnd (sI y1.2 43 x1.toNatClampNeg ((mI y1.2 43 x1.toNatClampNeg) + (1 : Int32))) fun M1 =>
          okk (vp_in x1 320) <|
          if (mI M1 41 x1.toNatClampNeg) < (3 : Int32) then (
            okk (vp_in x1 320) <|
            okk (vp_in ((x1 * (3 : Int32)) + (mI M1 41 x1.toNatClampNeg)) 960) <|
            bnd (sI M1 40 ((x1 * (3 : Int32)) + (mI M1 41 x1.toNatClampNeg)).toNatClampNeg x2) fun M2 =>
            okk (vp_in x1 320) <|
            okk (vp_in x1 320) <|
            bnd (sI M2 41 x1.toNatClampNeg ((mI M2 41 x1.toNatClampNeg) + (1 : Int32))) fun M3 =>
            some ((), M3))
          else (
            okk (vp_in x1 320) <|
            bnd (sI M1 41 x1.toNatClampNeg (-1 : Int32)) fun M4 =>
            some ((), M4)))
        else (
          okk (vp_in x1 320) <|
          okk (vp_in x1 320) <|
          bnd (sI y1.2 42 x1.toNatClampNeg ((mI y1.2 42 x1.toNatClampNeg) + (1 : Int32))) fun M5 =>
          some ((), M5)))) := id rfl
theorem bq_X0_meet {β : Type} (x1 : Int32) (x2 : Int32) (M : Mem) (f : Unit × Mem → Option β) : (d_X0_meet x1 x2 M).bind f = Option.bind (
      okk (vp_in x1 320) <|
      if (mI M 41 x1.toNatClampNeg) = (-1 : Int32) then (
        some ((), M))
      else (
        (d_X0_keeps x1 x2 M).bind fun y1 =>
        if y1.1 = 0 then (
          okk (vp_in x1 320) <|
          okk (vp_in x1 320) <|
          bnd (sI y1.2 43 x1.toNatClampNeg ((mI y1.2 43 x1.toNatClampNeg) + (1 : Int32))) fun M1 =>
          okk (vp_in x1 320) <|
          if (mI M1 41 x1.toNatClampNeg) < (3 : Int32) then (
            okk (vp_in x1 320) <|
            okk (vp_in ((x1 * (3 : Int32)) + (mI M1 41 x1.toNatClampNeg)) 960) <|
            bnd (sI M1 40 ((x1 * (3 : Int32)) + (mI M1 41 x1.toNatClampNeg)).toNatClampNeg x2) fun M2 =>
            okk (vp_in x1 320) <|
            okk (vp_in x1 320) <|
            bnd (sI M2 41 x1.toNatClampNeg ((mI M2 41 x1.toNatClampNeg) + (1 : Int32))) fun M3 =>
            some ((), M3))
          else (
            okk (vp_in x1 320) <|
            bnd (sI M1 41 x1.toNatClampNeg (-1 : Int32)) fun M4 =>
            some ((), M4)))
        else (
          okk (vp_in x1 320) <|
          okk (vp_in x1 320) <|
          bnd (sI y1.2 42 x1.toNatClampNeg ((mI y1.2 42 x1.toNatClampNeg) + (1 : Int32))) fun M5 =>
          some ((), M5)))) f := id rfl
theorem tq_X0_emptyMethods_37 (k2 : (Int32) → Mem → Option (Unit × Mem)) (x2 : Int32) (M : Mem) : d_X0_emptyMethods_37 k2 x2 M = (
      bnd ((x2 + (1 : Int32))) fun b1 =>
      k2 (b1) M) := id rfl
theorem bq_X0_emptyMethods_37 {β : Type} (k2 : (Int32) → Mem → Option (Unit × Mem)) (x2 : Int32) (M : Mem) (f : Unit × Mem → Option β) : (d_X0_emptyMethods_37 k2 x2 M).bind f = Option.bind (
      bnd ((x2 + (1 : Int32))) fun b1 =>
      k2 (b1) M) f := id rfl
theorem tq_X0_emptyMethods_2b (k2 : (Int32) → Mem → Option (Unit × Mem)) (x2 : Int32) (M : Mem) : d_X0_emptyMethods_2b k2 x2 M = (
      if (320 : Int32) ≤ x2 then (
        some ((), M))
      else (
        okk (vp_in x2 320) <|
        if (mI M 6 x2.toNatClampNeg) = (109 : Int32) then (
          okk (vp_in x2 320) <|
          if (mI M 41 x2.toNatClampNeg) = (-1 : Int32) then (
            d_X0_emptyMethods_37 k2 x2 M)
          else (
            okk (vp_in x2 320) <|
            bnd (sI M 41 x2.toNatClampNeg (0 : Int32)) fun M1 =>
            d_X0_emptyMethods_37 k2 x2 M1))
        else (
          d_X0_emptyMethods_37 k2 x2 M))) := id rfl
theorem bq_X0_emptyMethods_2b {β : Type} (k2 : (Int32) → Mem → Option (Unit × Mem)) (x2 : Int32) (M : Mem) (f : Unit × Mem → Option β) : (d_X0_emptyMethods_2b k2 x2 M).bind f = Option.bind (
      if (320 : Int32) ≤ x2 then (
        some ((), M))
      else (
        okk (vp_in x2 320) <|
        if (mI M 6 x2.toNatClampNeg) = (109 : Int32) then (
          okk (vp_in x2 320) <|
          if (mI M 41 x2.toNatClampNeg) = (-1 : Int32) then (
            d_X0_emptyMethods_37 k2 x2 M)
          else (
            okk (vp_in x2 320) <|
            bnd (sI M 41 x2.toNatClampNeg (0 : Int32)) fun M1 =>
            d_X0_emptyMethods_37 k2 x2 M1))
        else (
          d_X0_emptyMethods_37 k2 x2 M))) f := id rfl
theorem tq_X0_emptyMethods (M : Mem) : d_X0_emptyMethods M = (
      d_X0_emptyMethods_2 fuel ((0 : Int32)) M) := id rfl
theorem bq_X0_emptyMethods {β : Type} (M : Mem) (f : Unit × Mem → Option β) : (d_X0_emptyMethods M).bind f = Option.bind (
      d_X0_emptyMethods_2 fuel ((0 : Int32)) M) f := id rfl
theorem tq_X0_areSmall_30 (k4 : (Int32 × Int32) → Mem → Option (Int32 × Mem)) (x2 : Int32) (s0 : Int32) (M : Mem) : d_X0_areSmall_30 k4 x2 s0 M = (
      bnd ((x2 + (1 : Int32))) fun b1 =>
      k4 (s0, b1) M) := id rfl
theorem bq_X0_areSmall_30 {β : Type} (k4 : (Int32 × Int32) → Mem → Option (Int32 × Mem)) (x2 : Int32) (s0 : Int32) (M : Mem) (f : Int32 × Mem → Option β) : (d_X0_areSmall_30 k4 x2 s0 M).bind f = Option.bind (
      bnd ((x2 + (1 : Int32))) fun b1 =>
      k4 (s0, b1) M) f := id rfl
theorem tq_X0_areSmall_29 (k4 : (Int32 × Int32) → Mem → Option (Int32 × Mem)) (x2 : Int32) (M : Mem) : d_X0_areSmall_29 k4 x2 M = (
      d_X0_areSmall_30 k4 x2 (0 : Int32) M) := id rfl
theorem bq_X0_areSmall_29 {β : Type} (k4 : (Int32 × Int32) → Mem → Option (Int32 × Mem)) (x2 : Int32) (M : Mem) (f : Int32 × Mem → Option β) : (d_X0_areSmall_29 k4 x2 M).bind f = Option.bind (
      d_X0_areSmall_30 k4 x2 (0 : Int32) M) f := id rfl
theorem tq_X0_areSmall_4b (k4 : (Int32 × Int32) → Mem → Option (Int32 × Mem)) (x1 : Int32) (x2 : Int32) (M : Mem) : d_X0_areSmall_4b k4 x1 x2 M = (
      if (320 : Int32) ≤ x2 then (
        okk (isBo x1) <|
        some (x1, M))
      else (
        if x1 = 0 then (
          d_X0_areSmall_29 k4 x2 M)
        else (
          okk (vp_in x2 320) <|
          if (3 : Int32) < (mI M 41 x2.toNatClampNeg) then (
            d_X0_areSmall_29 k4 x2 M)
          else (
            d_X0_areSmall_30 k4 x2 (1 : Int32) M)))) := id rfl
theorem bq_X0_areSmall_4b {β : Type} (k4 : (Int32 × Int32) → Mem → Option (Int32 × Mem)) (x1 : Int32) (x2 : Int32) (M : Mem) (f : Int32 × Mem → Option β) : (d_X0_areSmall_4b k4 x1 x2 M).bind f = Option.bind (
      if (320 : Int32) ≤ x2 then (
        okk (isBo x1) <|
        some (x1, M))
      else (
        if x1 = 0 then (
          d_X0_areSmall_29 k4 x2 M)
        else (
          okk (vp_in x2 320) <|
          if (3 : Int32) < (mI M 41 x2.toNatClampNeg) then (
            d_X0_areSmall_29 k4 x2 M)
          else (
            d_X0_areSmall_30 k4 x2 (1 : Int32) M)))) f := id rfl
theorem tq_X0_areSmall (M : Mem) : d_X0_areSmall M = (
      d_X0_areSmall_4 fuel ((1 : Int32), (0 : Int32)) M) := id rfl
theorem bq_X0_areSmall {β : Type} (M : Mem) (f : Int32 × Mem → Option β) : (d_X0_areSmall M).bind f = Option.bind (
      d_X0_areSmall_4 fuel ((1 : Int32), (0 : Int32)) M) f := id rfl
theorem tq_X1_isFull (M : Mem) : d_X1_isFull M = (
      if (mI M 67 3) < (20 : Int32) then (
        some ((0 : Int32), M))
      else (
        some ((1 : Int32), M))) := id rfl
theorem bq_X1_isFull {β : Type} (M : Mem) (f : Int32 × Mem → Option β) : (d_X1_isFull M).bind f = Option.bind (
      if (mI M 67 3) < (20 : Int32) then (
        some ((0 : Int32), M))
      else (
        some ((1 : Int32), M))) f := id rfl
theorem tq_X1_size_38 (k4 : (Int32 × Int32) → Mem → Option (Int32 × Mem)) (x2 : Int32) (s0 : Int32) (s1 : Int32) (M : Mem) : d_X1_size_38 k4 x2 s0 s1 M = (
      bnd ((s0 + s1)) fun b1 =>
      bnd ((x2 + (1 : Int32))) fun b2 =>
      k4 (b1, b2) M) := id rfl
theorem bq_X1_size_38 {β : Type} (k4 : (Int32 × Int32) → Mem → Option (Int32 × Mem)) (x2 : Int32) (s0 : Int32) (s1 : Int32) (M : Mem) (f : Int32 × Mem → Option β) : (d_X1_size_38 k4 x2 s0 s1 M).bind f = Option.bind (
      bnd ((s0 + s1)) fun b1 =>
      bnd ((x2 + (1 : Int32))) fun b2 =>
      k4 (b1, b2) M) f := id rfl
theorem tq_X1_size_4b (k4 : (Int32 × Int32) → Mem → Option (Int32 × Mem)) (x1 : Int32) (x2 : Int32) (M : Mem) : d_X1_size_4b k4 x1 x2 M = (
      if (mI M 67 3) ≤ x2 then (
        some (x1, M))
      else (
        okk (vp_in x2 20) <|
        (mR M 68 x2.toNatClampNeg).bind fun r_1 =>
        okk (mK M r_1 = 9) <|
        if (mI M r_1 14) = 0 then (
          d_X1_size_38 k4 x2 x1 (0 : Int32) M)
        else (
          okk (vp_in x2 20) <|
          (mR M 68 x2.toNatClampNeg).bind fun r_2 =>
          okk (mK M r_2 = 9) <|
          d_X1_size_38 k4 x2 x1 (mI M r_2 0) M))) := id rfl
theorem bq_X1_size_4b {β : Type} (k4 : (Int32 × Int32) → Mem → Option (Int32 × Mem)) (x1 : Int32) (x2 : Int32) (M : Mem) (f : Int32 × Mem → Option β) : (d_X1_size_4b k4 x1 x2 M).bind f = Option.bind (
      if (mI M 67 3) ≤ x2 then (
        some (x1, M))
      else (
        okk (vp_in x2 20) <|
        (mR M 68 x2.toNatClampNeg).bind fun r_1 =>
        okk (mK M r_1 = 9) <|
        if (mI M r_1 14) = 0 then (
          d_X1_size_38 k4 x2 x1 (0 : Int32) M)
        else (
          okk (vp_in x2 20) <|
          (mR M 68 x2.toNatClampNeg).bind fun r_2 =>
          okk (mK M r_2 = 9) <|
          d_X1_size_38 k4 x2 x1 (mI M r_2 0) M))) f := id rfl
theorem tq_X1_size (M : Mem) : d_X1_size M = (
      d_X1_size_4 fuel ((0 : Int32), (0 : Int32)) M) := id rfl
theorem bq_X1_size {β : Type} (M : Mem) (f : Int32 × Mem → Option β) : (d_X1_size M).bind f = Option.bind (
      d_X1_size_4 fuel ((0 : Int32), (0 : Int32)) M) f := id rfl
theorem tq_X1_countThere_30 (k4 : (Int32 × Int32) → Mem → Option (Int32 × Mem)) (x2 : Int32) (s0 : Int32) (s1 : Int32) (M : Mem) : d_X1_countThere_30 k4 x2 s0 s1 M = (
      bnd ((s0 + s1)) fun b1 =>
      bnd ((x2 + (1 : Int32))) fun b2 =>
      k4 (b1, b2) M) := id rfl
theorem bq_X1_countThere_30 {β : Type} (k4 : (Int32 × Int32) → Mem → Option (Int32 × Mem)) (x2 : Int32) (s0 : Int32) (s1 : Int32) (M : Mem) (f : Int32 × Mem → Option β) : (d_X1_countThere_30 k4 x2 s0 s1 M).bind f = Option.bind (
      bnd ((s0 + s1)) fun b1 =>
      bnd ((x2 + (1 : Int32))) fun b2 =>
      k4 (b1, b2) M) f := id rfl
theorem tq_X1_countThere_4b (k4 : (Int32 × Int32) → Mem → Option (Int32 × Mem)) (x1 : Int32) (x2 : Int32) (M : Mem) : d_X1_countThere_4b k4 x1 x2 M = (
      if (mI M 67 3) ≤ x2 then (
        some (x1, M))
      else (
        okk (vp_in x2 20) <|
        (mR M 68 x2.toNatClampNeg).bind fun r_1 =>
        okk (mK M r_1 = 9) <|
        if (mI M r_1 14) = 0 then (
          d_X1_countThere_30 k4 x2 x1 (0 : Int32) M)
        else (
          d_X1_countThere_30 k4 x2 x1 (1 : Int32) M))) := id rfl
theorem bq_X1_countThere_4b {β : Type} (k4 : (Int32 × Int32) → Mem → Option (Int32 × Mem)) (x1 : Int32) (x2 : Int32) (M : Mem) (f : Int32 × Mem → Option β) : (d_X1_countThere_4b k4 x1 x2 M).bind f = Option.bind (
      if (mI M 67 3) ≤ x2 then (
        some (x1, M))
      else (
        okk (vp_in x2 20) <|
        (mR M 68 x2.toNatClampNeg).bind fun r_1 =>
        okk (mK M r_1 = 9) <|
        if (mI M r_1 14) = 0 then (
          d_X1_countThere_30 k4 x2 x1 (0 : Int32) M)
        else (
          d_X1_countThere_30 k4 x2 x1 (1 : Int32) M))) f := id rfl
theorem tq_X1_countThere (M : Mem) : d_X1_countThere M = (
      d_X1_countThere_4 fuel ((0 : Int32), (0 : Int32)) M) := id rfl
theorem bq_X1_countThere {β : Type} (M : Mem) (f : Int32 × Mem → Option β) : (d_X1_countThere M).bind f = Option.bind (
      d_X1_countThere_4 fuel ((0 : Int32), (0 : Int32)) M) f := id rfl
theorem tq_X1_guardsThere_38 (k4 : (Int32 × Int32) → Mem → Option (Int32 × Mem)) (x2 : Int32) (s0 : Int32) (s1 : Int32) (M : Mem) : d_X1_guardsThere_38 k4 x2 s0 s1 M = (
      bnd ((s0 + s1)) fun b1 =>
      bnd ((x2 + (1 : Int32))) fun b2 =>
      k4 (b1, b2) M) := id rfl
theorem bq_X1_guardsThere_38 {β : Type} (k4 : (Int32 × Int32) → Mem → Option (Int32 × Mem)) (x2 : Int32) (s0 : Int32) (s1 : Int32) (M : Mem) (f : Int32 × Mem → Option β) : (d_X1_guardsThere_38 k4 x2 s0 s1 M).bind f = Option.bind (
      bnd ((s0 + s1)) fun b1 =>
      bnd ((x2 + (1 : Int32))) fun b2 =>
      k4 (b1, b2) M) f := id rfl
theorem tq_X1_guardsThere_4b (k4 : (Int32 × Int32) → Mem → Option (Int32 × Mem)) (x1 : Int32) (x2 : Int32) (M : Mem) : d_X1_guardsThere_4b k4 x1 x2 M = (
      if (mI M 67 3) ≤ x2 then (
        some (x1, M))
      else (
        okk (vp_in x2 20) <|
        (mR M 68 x2.toNatClampNeg).bind fun r_1 =>
        okk (mK M r_1 = 9) <|
        if (mI M r_1 14) = 0 then (
          d_X1_guardsThere_38 k4 x2 x1 (0 : Int32) M)
        else (
          okk (vp_in x2 20) <|
          (mR M 68 x2.toNatClampNeg).bind fun r_2 =>
          okk (mK M r_2 = 9) <|
          d_X1_guardsThere_38 k4 x2 x1 (mI M r_2 1) M))) := id rfl
theorem bq_X1_guardsThere_4b {β : Type} (k4 : (Int32 × Int32) → Mem → Option (Int32 × Mem)) (x1 : Int32) (x2 : Int32) (M : Mem) (f : Int32 × Mem → Option β) : (d_X1_guardsThere_4b k4 x1 x2 M).bind f = Option.bind (
      if (mI M 67 3) ≤ x2 then (
        some (x1, M))
      else (
        okk (vp_in x2 20) <|
        (mR M 68 x2.toNatClampNeg).bind fun r_1 =>
        okk (mK M r_1 = 9) <|
        if (mI M r_1 14) = 0 then (
          d_X1_guardsThere_38 k4 x2 x1 (0 : Int32) M)
        else (
          okk (vp_in x2 20) <|
          (mR M 68 x2.toNatClampNeg).bind fun r_2 =>
          okk (mK M r_2 = 9) <|
          d_X1_guardsThere_38 k4 x2 x1 (mI M r_2 1) M))) f := id rfl
theorem tq_X1_guardsThere (M : Mem) : d_X1_guardsThere M = (
      d_X1_guardsThere_4 fuel ((0 : Int32), (0 : Int32)) M) := id rfl
theorem bq_X1_guardsThere {β : Type} (M : Mem) (f : Int32 × Mem → Option β) : (d_X1_guardsThere M).bind f = Option.bind (
      d_X1_guardsThere_4 fuel ((0 : Int32), (0 : Int32)) M) f := id rfl
theorem tq_X1_hasRoots_53 (k4 : (Int32 × Int32) → Mem → Option (Int32 × Mem)) (x2 : Int32) (s0 : Int32) (M : Mem) : d_X1_hasRoots_53 k4 x2 s0 M = (
      bnd ((x2 + (1 : Int32))) fun b1 =>
      k4 (s0, b1) M) := id rfl
theorem bq_X1_hasRoots_53 {β : Type} (k4 : (Int32 × Int32) → Mem → Option (Int32 × Mem)) (x2 : Int32) (s0 : Int32) (M : Mem) (f : Int32 × Mem → Option β) : (d_X1_hasRoots_53 k4 x2 s0 M).bind f = Option.bind (
      bnd ((x2 + (1 : Int32))) fun b1 =>
      k4 (s0, b1) M) f := id rfl
theorem tq_X1_hasRoots_52 (k4 : (Int32 × Int32) → Mem → Option (Int32 × Mem)) (x2 : Int32) (M : Mem) : d_X1_hasRoots_52 k4 x2 M = (
      d_X1_hasRoots_53 k4 x2 (0 : Int32) M) := id rfl
theorem bq_X1_hasRoots_52 {β : Type} (k4 : (Int32 × Int32) → Mem → Option (Int32 × Mem)) (x2 : Int32) (M : Mem) (f : Int32 × Mem → Option β) : (d_X1_hasRoots_52 k4 x2 M).bind f = Option.bind (
      d_X1_hasRoots_53 k4 x2 (0 : Int32) M) f := id rfl
theorem tq_X1_hasRoots_48 (k4 : (Int32 × Int32) → Mem → Option (Int32 × Mem)) (x2 : Int32) (M : Mem) : d_X1_hasRoots_48 k4 x2 M = (
      d_X1_hasRoots_53 k4 x2 (1 : Int32) M) := id rfl
theorem bq_X1_hasRoots_48 {β : Type} (k4 : (Int32 × Int32) → Mem → Option (Int32 × Mem)) (x2 : Int32) (M : Mem) (f : Int32 × Mem → Option β) : (d_X1_hasRoots_48 k4 x2 M).bind f = Option.bind (
      d_X1_hasRoots_53 k4 x2 (1 : Int32) M) f := id rfl
theorem tq_X1_hasRoots_4b (k4 : (Int32 × Int32) → Mem → Option (Int32 × Mem)) (x1 : Int32) (x2 : Int32) (M : Mem) : d_X1_hasRoots_4b k4 x1 x2 M = (
      if (mI M 67 3) ≤ x2 then (
        okk (isBo x1) <|
        some (x1, M))
      else (
        if x1 = 0 then (
          d_X1_hasRoots_52 k4 x2 M)
        else (
          okk (vp_in x2 20) <|
          (mR M 68 x2.toNatClampNeg).bind fun r_1 =>
          okk (mK M r_1 = 9) <|
          if (mI M r_1 14) = 0 then (
            d_X1_hasRoots_48 k4 x2 M)
          else (
            okk (vp_in x2 20) <|
            (mR M 68 x2.toNatClampNeg).bind fun r_2 =>
            okk (mK M r_2 = 9) <|
            okk (vp_in (mI M r_2 12) 20) <|
            (mR M 68 (mI M r_2 12).toNatClampNeg).bind fun r_3 =>
            okk (mK M r_3 = 9) <|
            if (mI M r_3 14) = 0 then (
              d_X1_hasRoots_52 k4 x2 M)
            else (
              d_X1_hasRoots_48 k4 x2 M))))) := id rfl
theorem bq_X1_hasRoots_4b {β : Type} (k4 : (Int32 × Int32) → Mem → Option (Int32 × Mem)) (x1 : Int32) (x2 : Int32) (M : Mem) (f : Int32 × Mem → Option β) : (d_X1_hasRoots_4b k4 x1 x2 M).bind f = Option.bind (
      if (mI M 67 3) ≤ x2 then (
        okk (isBo x1) <|
        some (x1, M))
      else (
        if x1 = 0 then (
          d_X1_hasRoots_52 k4 x2 M)
        else (
          okk (vp_in x2 20) <|
          (mR M 68 x2.toNatClampNeg).bind fun r_1 =>
          okk (mK M r_1 = 9) <|
          if (mI M r_1 14) = 0 then (
            d_X1_hasRoots_48 k4 x2 M)
          else (
            okk (vp_in x2 20) <|
            (mR M 68 x2.toNatClampNeg).bind fun r_2 =>
            okk (mK M r_2 = 9) <|
            okk (vp_in (mI M r_2 12) 20) <|
            (mR M 68 (mI M r_2 12).toNatClampNeg).bind fun r_3 =>
            okk (mK M r_3 = 9) <|
            if (mI M r_3 14) = 0 then (
              d_X1_hasRoots_52 k4 x2 M)
            else (
              d_X1_hasRoots_48 k4 x2 M))))) f := id rfl
theorem tq_X1_hasRoots (M : Mem) : d_X1_hasRoots M = (
      d_X1_hasRoots_4 fuel ((1 : Int32), (0 : Int32)) M) := id rfl
theorem bq_X1_hasRoots {β : Type} (M : Mem) (f : Int32 × Mem → Option β) : (d_X1_hasRoots M).bind f = Option.bind (
      d_X1_hasRoots_4 fuel ((1 : Int32), (0 : Int32)) M) f := id rfl
theorem tq_X1_leastLatelyEntered_82 (k4 : (Int32 × Int32) → Mem → Option (Int32 × Mem)) (x1 : Int32) (x2 : Int32) (x3 : Int32) (M : Mem) : d_X1_leastLatelyEntered_82 k4 x1 x2 x3 M = (
      bnd ((x3 + (1 : Int32))) fun b1 =>
      k4 (x2, b1) M) := id rfl
theorem bq_X1_leastLatelyEntered_82 {β : Type} (k4 : (Int32 × Int32) → Mem → Option (Int32 × Mem)) (x1 : Int32) (x2 : Int32) (x3 : Int32) (M : Mem) (f : Int32 × Mem → Option β) : (d_X1_leastLatelyEntered_82 k4 x1 x2 x3 M).bind f = Option.bind (
      bnd ((x3 + (1 : Int32))) fun b1 =>
      k4 (x2, b1) M) f := id rfl
theorem tq_X1_leastLatelyEntered_80 (k4 : (Int32 × Int32) → Mem → Option (Int32 × Mem)) (x1 : Int32) (x3 : Int32) (M : Mem) : d_X1_leastLatelyEntered_80 k4 x1 x3 M = (
      d_X1_leastLatelyEntered_82 k4 x1 x3 x3 M) := id rfl
theorem bq_X1_leastLatelyEntered_80 {β : Type} (k4 : (Int32 × Int32) → Mem → Option (Int32 × Mem)) (x1 : Int32) (x3 : Int32) (M : Mem) (f : Int32 × Mem → Option β) : (d_X1_leastLatelyEntered_80 k4 x1 x3 M).bind f = Option.bind (
      d_X1_leastLatelyEntered_82 k4 x1 x3 x3 M) f := id rfl
theorem tq_X1_leastLatelyEntered_47 (k4 : (Int32 × Int32) → Mem → Option (Int32 × Mem)) (x1 : Int32) (x2 : Int32) (x3 : Int32) (s0 : Int32) (M : Mem) : d_X1_leastLatelyEntered_47 k4 x1 x2 x3 s0 M = (
      if s0 = 0 then (
        d_X1_leastLatelyEntered_82 k4 x1 x2 x3 M)
      else (
        if x2 = (-1 : Int32) then (
          d_X1_leastLatelyEntered_80 k4 x1 x3 M)
        else (
          okk (vp_in x3 20) <|
          (mR M 68 x3.toNatClampNeg).bind fun r_1 =>
          okk (mK M r_1 = 9) <|
          okk (vp_in x2 20) <|
          (mR M 68 x2.toNatClampNeg).bind fun r_2 =>
          okk (mK M r_2 = 9) <|
          if (mI M r_2 16) ≤ (mI M r_1 16) then (
            d_X1_leastLatelyEntered_82 k4 x1 x2 x3 M)
          else (
            d_X1_leastLatelyEntered_80 k4 x1 x3 M)))) := id rfl
theorem bq_X1_leastLatelyEntered_47 {β : Type} (k4 : (Int32 × Int32) → Mem → Option (Int32 × Mem)) (x1 : Int32) (x2 : Int32) (x3 : Int32) (s0 : Int32) (M : Mem) (f : Int32 × Mem → Option β) : (d_X1_leastLatelyEntered_47 k4 x1 x2 x3 s0 M).bind f = Option.bind (
      if s0 = 0 then (
        d_X1_leastLatelyEntered_82 k4 x1 x2 x3 M)
      else (
        if x2 = (-1 : Int32) then (
          d_X1_leastLatelyEntered_80 k4 x1 x3 M)
        else (
          okk (vp_in x3 20) <|
          (mR M 68 x3.toNatClampNeg).bind fun r_1 =>
          okk (mK M r_1 = 9) <|
          okk (vp_in x2 20) <|
          (mR M 68 x2.toNatClampNeg).bind fun r_2 =>
          okk (mK M r_2 = 9) <|
          if (mI M r_2 16) ≤ (mI M r_1 16) then (
            d_X1_leastLatelyEntered_82 k4 x1 x2 x3 M)
          else (
            d_X1_leastLatelyEntered_80 k4 x1 x3 M)))) f := id rfl
theorem tq_X1_leastLatelyEntered_46 (k4 : (Int32 × Int32) → Mem → Option (Int32 × Mem)) (x1 : Int32) (x2 : Int32) (x3 : Int32) (M : Mem) : d_X1_leastLatelyEntered_46 k4 x1 x2 x3 M = (
      d_X1_leastLatelyEntered_47 k4 x1 x2 x3 (0 : Int32) M) := id rfl
theorem bq_X1_leastLatelyEntered_46 {β : Type} (k4 : (Int32 × Int32) → Mem → Option (Int32 × Mem)) (x1 : Int32) (x2 : Int32) (x3 : Int32) (M : Mem) (f : Int32 × Mem → Option β) : (d_X1_leastLatelyEntered_46 k4 x1 x2 x3 M).bind f = Option.bind (
      d_X1_leastLatelyEntered_47 k4 x1 x2 x3 (0 : Int32) M) f := id rfl
theorem tq_X1_leastLatelyEntered_4b (k4 : (Int32 × Int32) → Mem → Option (Int32 × Mem)) (x1 : Int32) (x2 : Int32) (x3 : Int32) (M : Mem) : d_X1_leastLatelyEntered_4b k4 x1 x2 x3 M = (
      if (mI M 67 3) ≤ x3 then (
        some (x2, M))
      else (
        okk (vp_in x3 20) <|
        (mR M 68 x3.toNatClampNeg).bind fun r_1 =>
        okk (mK M r_1 = 9) <|
        if (mI M r_1 14) = 0 then (
          d_X1_leastLatelyEntered_46 k4 x1 x2 x3 M)
        else (
          okk (vp_in x3 20) <|
          (mR M 68 x3.toNatClampNeg).bind fun r_2 =>
          okk (mK M r_2 = 9) <|
          if (mI M r_2 12) = x3 then (
            if x3 = x1 then (
              d_X1_leastLatelyEntered_46 k4 x1 x2 x3 M)
            else (
              d_X1_leastLatelyEntered_47 k4 x1 x2 x3 (1 : Int32) M))
          else (
            d_X1_leastLatelyEntered_46 k4 x1 x2 x3 M)))) := id rfl
theorem bq_X1_leastLatelyEntered_4b {β : Type} (k4 : (Int32 × Int32) → Mem → Option (Int32 × Mem)) (x1 : Int32) (x2 : Int32) (x3 : Int32) (M : Mem) (f : Int32 × Mem → Option β) : (d_X1_leastLatelyEntered_4b k4 x1 x2 x3 M).bind f = Option.bind (
      if (mI M 67 3) ≤ x3 then (
        some (x2, M))
      else (
        okk (vp_in x3 20) <|
        (mR M 68 x3.toNatClampNeg).bind fun r_1 =>
        okk (mK M r_1 = 9) <|
        if (mI M r_1 14) = 0 then (
          d_X1_leastLatelyEntered_46 k4 x1 x2 x3 M)
        else (
          okk (vp_in x3 20) <|
          (mR M 68 x3.toNatClampNeg).bind fun r_2 =>
          okk (mK M r_2 = 9) <|
          if (mI M r_2 12) = x3 then (
            if x3 = x1 then (
              d_X1_leastLatelyEntered_46 k4 x1 x2 x3 M)
            else (
              d_X1_leastLatelyEntered_47 k4 x1 x2 x3 (1 : Int32) M))
          else (
            d_X1_leastLatelyEntered_46 k4 x1 x2 x3 M)))) f := id rfl
theorem tq_X1_leastLatelyEntered (x1 : Int32) (M : Mem) : d_X1_leastLatelyEntered x1 M = (
      d_X1_leastLatelyEntered_4 x1 fuel ((-1 : Int32), (0 : Int32)) M) := id rfl
theorem bq_X1_leastLatelyEntered {β : Type} (x1 : Int32) (M : Mem) (f : Int32 × Mem → Option β) : (d_X1_leastLatelyEntered x1 M).bind f = Option.bind (
      d_X1_leastLatelyEntered_4 x1 fuel ((-1 : Int32), (0 : Int32)) M) f := id rfl
theorem tq_X1_throwTree_39 (k8 : (Int32) → Mem → Option (Unit × Mem)) (x1 : Int32) (x2 : Int32) (M : Mem) : d_X1_throwTree_39 k8 x1 x2 M = (
      bnd ((x2 + (1 : Int32))) fun b1 =>
      k8 (b1) M) := id rfl
theorem bq_X1_throwTree_39 {β : Type} (k8 : (Int32) → Mem → Option (Unit × Mem)) (x1 : Int32) (x2 : Int32) (M : Mem) (f : Unit × Mem → Option β) : (d_X1_throwTree_39 k8 x1 x2 M).bind f = Option.bind (
      bnd ((x2 + (1 : Int32))) fun b1 =>
      k8 (b1) M) f := id rfl
theorem tq_X1_throwTree_8b (k8 : (Int32) → Mem → Option (Unit × Mem)) (x1 : Int32) (x2 : Int32) (M : Mem) : d_X1_throwTree_8b k8 x1 x2 M = (
      if (mI M 67 3) ≤ x2 then (
        okk (vp_in x1 20) <|
        (mR M 68 x1.toNatClampNeg).bind fun r_1 =>
        okk (mK M r_1 = 9) <|
        bnd ((mI M r_1 13)) fun b1 =>
        okk (vp_in b1 320) <|
        bnd (sI M 47 b1.toNatClampNeg (-1 : Int32)) fun M1 =>
        okk (vp_in b1 320) <|
        bnd (sI M1 45 b1.toNatClampNeg (0 : Int32)) fun M2 =>
        some ((), M2))
      else (
        okk (vp_in x2 20) <|
        (mR M 68 x2.toNatClampNeg).bind fun r_2 =>
        okk (mK M r_2 = 9) <|
        if (mI M r_2 12) = x1 then (
          okk (vp_in x2 20) <|
          (mR M 68 x2.toNatClampNeg).bind fun r_3 =>
          okk (mK M r_3 = 9) <|
          bnd (sI M r_3 14 (0 : Int32)) fun M3 =>
          d_X1_throwTree_39 k8 x1 x2 M3)
        else (
          d_X1_throwTree_39 k8 x1 x2 M))) := id rfl
theorem bq_X1_throwTree_8b {β : Type} (k8 : (Int32) → Mem → Option (Unit × Mem)) (x1 : Int32) (x2 : Int32) (M : Mem) (f : Unit × Mem → Option β) : (d_X1_throwTree_8b k8 x1 x2 M).bind f = Option.bind (
      if (mI M 67 3) ≤ x2 then (
        okk (vp_in x1 20) <|
        (mR M 68 x1.toNatClampNeg).bind fun r_1 =>
        okk (mK M r_1 = 9) <|
        bnd ((mI M r_1 13)) fun b1 =>
        okk (vp_in b1 320) <|
        bnd (sI M 47 b1.toNatClampNeg (-1 : Int32)) fun M1 =>
        okk (vp_in b1 320) <|
        bnd (sI M1 45 b1.toNatClampNeg (0 : Int32)) fun M2 =>
        some ((), M2))
      else (
        okk (vp_in x2 20) <|
        (mR M 68 x2.toNatClampNeg).bind fun r_2 =>
        okk (mK M r_2 = 9) <|
        if (mI M r_2 12) = x1 then (
          okk (vp_in x2 20) <|
          (mR M 68 x2.toNatClampNeg).bind fun r_3 =>
          okk (mK M r_3 = 9) <|
          bnd (sI M r_3 14 (0 : Int32)) fun M3 =>
          d_X1_throwTree_39 k8 x1 x2 M3)
        else (
          d_X1_throwTree_39 k8 x1 x2 M))) f := id rfl
theorem tq_X1_throwTree (x1 : Int32) (M : Mem) : d_X1_throwTree x1 M = (
      if x1 = (-1 : Int32) then (
        some ((), M))
      else (
        d_X1_throwTree_8 x1 fuel ((0 : Int32)) M)) := id rfl
theorem bq_X1_throwTree {β : Type} (x1 : Int32) (M : Mem) (f : Unit × Mem → Option β) : (d_X1_throwTree x1 M).bind f = Option.bind (
      if x1 = (-1 : Int32) then (
        some ((), M))
      else (
        d_X1_throwTree_8 x1 fuel ((0 : Int32)) M)) f := id rfl
theorem tq_X1_shrink_2b (k2 : (Int32) → Mem → Option (Int32 × Mem)) (x1 : Int32) (M : Mem) : d_X1_shrink_2b k2 x1 M = (
      if (20 : Int32) ≤ x1 then (
        some (x1, M))
      else (
        (d_X1_size M).bind fun y1 =>
        if y1.1 ≤ (mI y1.2 67 4) then (
          some (x1, y1.2))
        else (
          (d_X1_leastLatelyEntered (-1 : Int32) y1.2).bind fun y2 =>
          (d_X1_throwTree y2.1 y2.2).bind fun y3 =>
          bnd ((x1 + (1 : Int32))) fun b1 =>
          k2 (b1) y3.2))) := id rfl
theorem bq_X1_shrink_2b {β : Type} (k2 : (Int32) → Mem → Option (Int32 × Mem)) (x1 : Int32) (M : Mem) (f : Int32 × Mem → Option β) : (d_X1_shrink_2b k2 x1 M).bind f = Option.bind (
      if (20 : Int32) ≤ x1 then (
        some (x1, M))
      else (
        (d_X1_size M).bind fun y1 =>
        if y1.1 ≤ (mI y1.2 67 4) then (
          some (x1, y1.2))
        else (
          (d_X1_leastLatelyEntered (-1 : Int32) y1.2).bind fun y2 =>
          (d_X1_throwTree y2.1 y2.2).bind fun y3 =>
          bnd ((x1 + (1 : Int32))) fun b1 =>
          k2 (b1) y3.2))) f := id rfl
theorem tq_X1_shrink (M : Mem) : d_X1_shrink M = (
      d_X1_shrink_2 fuel ((0 : Int32)) M) := id rfl
theorem bq_X1_shrink {β : Type} (M : Mem) (f : Int32 × Mem → Option β) : (d_X1_shrink M).bind f = Option.bind (
      d_X1_shrink_2 fuel ((0 : Int32)) M) f := id rfl
theorem tq_X1_makeRoom_36 (x1 : Int32) (M : Mem) : d_X1_makeRoom_36 x1 M = (
      (d_X1_size M).bind fun y1 =>
      if (mI y1.2 67 4) < (y1.1 + x1) then (
        some ((0 : Int32), y1.2))
      else (
        some ((1 : Int32), y1.2))) := id rfl
theorem bq_X1_makeRoom_36 {β : Type} (x1 : Int32) (M : Mem) (f : Int32 × Mem → Option β) : (d_X1_makeRoom_36 x1 M).bind f = Option.bind (
      (d_X1_size M).bind fun y1 =>
      if (mI y1.2 67 4) < (y1.1 + x1) then (
        some ((0 : Int32), y1.2))
      else (
        some ((1 : Int32), y1.2))) f := id rfl
theorem tq_X1_makeRoom_2b (k2 : (Int32) → Mem → Option (Int32 × Mem)) (x1 : Int32) (x2 : Int32) (x3 : Int32) (M : Mem) : d_X1_makeRoom_2b k2 x1 x2 x3 M = (
      if (20 : Int32) ≤ x3 then (
        d_X1_makeRoom_36 x1 M)
      else (
        (d_X1_size M).bind fun y1 =>
        if (y1.1 + x1) ≤ (mI y1.2 67 4) then (
          d_X1_makeRoom_36 x1 y1.2)
        else (
          (d_X1_leastLatelyEntered x2 y1.2).bind fun y2 =>
          (d_X1_throwTree y2.1 y2.2).bind fun y3 =>
          bnd ((x3 + (1 : Int32))) fun b1 =>
          k2 (b1) y3.2))) := id rfl
theorem bq_X1_makeRoom_2b {β : Type} (k2 : (Int32) → Mem → Option (Int32 × Mem)) (x1 : Int32) (x2 : Int32) (x3 : Int32) (M : Mem) (f : Int32 × Mem → Option β) : (d_X1_makeRoom_2b k2 x1 x2 x3 M).bind f = Option.bind (
      if (20 : Int32) ≤ x3 then (
        d_X1_makeRoom_36 x1 M)
      else (
        (d_X1_size M).bind fun y1 =>
        if (y1.1 + x1) ≤ (mI y1.2 67 4) then (
          d_X1_makeRoom_36 x1 y1.2)
        else (
          (d_X1_leastLatelyEntered x2 y1.2).bind fun y2 =>
          (d_X1_throwTree y2.1 y2.2).bind fun y3 =>
          bnd ((x3 + (1 : Int32))) fun b1 =>
          k2 (b1) y3.2))) f := id rfl
theorem tq_X1_makeRoom (x1 : Int32) (x2 : Int32) (M : Mem) : d_X1_makeRoom x1 x2 M = (
      d_X1_makeRoom_2 x1 x2 fuel ((0 : Int32)) M) := id rfl
theorem bq_X1_makeRoom {β : Type} (x1 : Int32) (x2 : Int32) (M : Mem) (f : Int32 × Mem → Option β) : (d_X1_makeRoom x1 x2 M).bind f = Option.bind (
      d_X1_makeRoom_2 x1 x2 fuel ((0 : Int32)) M) f := id rfl
theorem tq_X11_siteOf (x0 : Int32) (x1 : Int32) (M : Mem) : d_X11_siteOf x0 x1 M = (
      some (((x0 * (40 : Int32)) + x1), M)) := id rfl
theorem bq_X11_siteOf {β : Type} (x0 : Int32) (x1 : Int32) (M : Mem) (f : Int32 × Mem → Option β) : (d_X11_siteOf x0 x1 M).bind f = Option.bind (
      some (((x0 * (40 : Int32)) + x1), M)) f := id rfl
theorem tq_X11_siteOfLine (x0 : Int32) (M : Mem) : d_X11_siteOfLine x0 M = (
      (d_X11_siteOf (x0 / (100 : Int32)) (x0 - x0 / (100 : Int32) * (100 : Int32)) M).bind fun y1 =>
      some (y1.1, y1.2)) := id rfl
theorem bq_X11_siteOfLine {β : Type} (x0 : Int32) (M : Mem) (f : Int32 × Mem → Option β) : (d_X11_siteOfLine x0 M).bind f = Option.bind (
      (d_X11_siteOf (x0 / (100 : Int32)) (x0 - x0 / (100 : Int32) * (100 : Int32)) M).bind fun y1 =>
      some (y1.1, y1.2)) f := id rfl
theorem tq_X1_hasStep_71 (k6 : (Int32 × Int32) → Mem → Option (Int32 × Mem)) (r1 : Nat) (x2 : Int32) (x3 : Int32) (x5 : Int32) (s0 : Int32) (M : Mem) : d_X1_hasStep_71 k6 r1 x2 x3 x5 s0 M = (
      bnd ((x5 + (1 : Int32))) fun b1 =>
      k6 (s0, b1) M) := id rfl
theorem bq_X1_hasStep_71 {β : Type} (k6 : (Int32 × Int32) → Mem → Option (Int32 × Mem)) (r1 : Nat) (x2 : Int32) (x3 : Int32) (x5 : Int32) (s0 : Int32) (M : Mem) (f : Int32 × Mem → Option β) : (d_X1_hasStep_71 k6 r1 x2 x3 x5 s0 M).bind f = Option.bind (
      bnd ((x5 + (1 : Int32))) fun b1 =>
      k6 (s0, b1) M) f := id rfl
theorem tq_X1_hasStep_66 (k6 : (Int32 × Int32) → Mem → Option (Int32 × Mem)) (r1 : Nat) (x2 : Int32) (x3 : Int32) (x5 : Int32) (M : Mem) : d_X1_hasStep_66 k6 r1 x2 x3 x5 M = (
      d_X1_hasStep_71 k6 r1 x2 x3 x5 (1 : Int32) M) := id rfl
theorem bq_X1_hasStep_66 {β : Type} (k6 : (Int32 × Int32) → Mem → Option (Int32 × Mem)) (r1 : Nat) (x2 : Int32) (x3 : Int32) (x5 : Int32) (M : Mem) (f : Int32 × Mem → Option β) : (d_X1_hasStep_66 k6 r1 x2 x3 x5 M).bind f = Option.bind (
      d_X1_hasStep_71 k6 r1 x2 x3 x5 (1 : Int32) M) f := id rfl
theorem tq_X1_hasStep_70 (k6 : (Int32 × Int32) → Mem → Option (Int32 × Mem)) (r1 : Nat) (x2 : Int32) (x3 : Int32) (x5 : Int32) (M : Mem) : d_X1_hasStep_70 k6 r1 x2 x3 x5 M = (
      d_X1_hasStep_71 k6 r1 x2 x3 x5 (0 : Int32) M) := id rfl
theorem bq_X1_hasStep_70 {β : Type} (k6 : (Int32 × Int32) → Mem → Option (Int32 × Mem)) (r1 : Nat) (x2 : Int32) (x3 : Int32) (x5 : Int32) (M : Mem) (f : Int32 × Mem → Option β) : (d_X1_hasStep_70 k6 r1 x2 x3 x5 M).bind f = Option.bind (
      d_X1_hasStep_71 k6 r1 x2 x3 x5 (0 : Int32) M) f := id rfl
theorem tq_X1_hasStep_6b (k6 : (Int32 × Int32) → Mem → Option (Int32 × Mem)) (r1 : Nat) (x2 : Int32) (x3 : Int32) (x4 : Int32) (x5 : Int32) (M : Mem) : d_X1_hasStep_6b k6 r1 x2 x3 x4 x5 M = (
      okk (mK M r1 = 9) <|
      if (mI M r1 0) ≤ x5 then (
        okk (isBo x4) <|
        some (x4, M))
      else (
        okk (mK M r1 = 9) <|
        (mR M r1 2).bind fun r_1 =>
        okk (mK M r_1 = 21) <|
        okk (vp_in x5 (mN M r_1)) <|
        (d_X11_siteOfLine (mI M r_1 x5.toNatClampNeg) M).bind fun y1 =>
        if x4 = 0 then (
          okk (vp_in y1.1 320) <|
          if (mI y1.2 6 y1.1.toNatClampNeg) = x2 then (
            if x2 = (109 : Int32) then (
              d_X1_hasStep_66 k6 r1 x2 x3 x5 y1.2)
            else (
              okk (vp_in y1.1 320) <|
              if (mI y1.2 7 y1.1.toNatClampNeg) = x3 then (
                d_X1_hasStep_66 k6 r1 x2 x3 x5 y1.2)
              else (
                d_X1_hasStep_70 k6 r1 x2 x3 x5 y1.2)))
          else (
            d_X1_hasStep_70 k6 r1 x2 x3 x5 y1.2))
        else (
          d_X1_hasStep_66 k6 r1 x2 x3 x5 y1.2))) := id rfl
theorem bq_X1_hasStep_6b {β : Type} (k6 : (Int32 × Int32) → Mem → Option (Int32 × Mem)) (r1 : Nat) (x2 : Int32) (x3 : Int32) (x4 : Int32) (x5 : Int32) (M : Mem) (f : Int32 × Mem → Option β) : (d_X1_hasStep_6b k6 r1 x2 x3 x4 x5 M).bind f = Option.bind (
      okk (mK M r1 = 9) <|
      if (mI M r1 0) ≤ x5 then (
        okk (isBo x4) <|
        some (x4, M))
      else (
        okk (mK M r1 = 9) <|
        (mR M r1 2).bind fun r_1 =>
        okk (mK M r_1 = 21) <|
        okk (vp_in x5 (mN M r_1)) <|
        (d_X11_siteOfLine (mI M r_1 x5.toNatClampNeg) M).bind fun y1 =>
        if x4 = 0 then (
          okk (vp_in y1.1 320) <|
          if (mI y1.2 6 y1.1.toNatClampNeg) = x2 then (
            if x2 = (109 : Int32) then (
              d_X1_hasStep_66 k6 r1 x2 x3 x5 y1.2)
            else (
              okk (vp_in y1.1 320) <|
              if (mI y1.2 7 y1.1.toNatClampNeg) = x3 then (
                d_X1_hasStep_66 k6 r1 x2 x3 x5 y1.2)
              else (
                d_X1_hasStep_70 k6 r1 x2 x3 x5 y1.2)))
          else (
            d_X1_hasStep_70 k6 r1 x2 x3 x5 y1.2))
        else (
          d_X1_hasStep_66 k6 r1 x2 x3 x5 y1.2))) f := id rfl
theorem tq_X1_hasStep (r1 : Nat) (x2 : Int32) (x3 : Int32) (M : Mem) : d_X1_hasStep r1 x2 x3 M = (
      d_X1_hasStep_6 r1 x2 x3 fuel ((0 : Int32), (0 : Int32)) M) := id rfl
theorem bq_X1_hasStep {β : Type} (r1 : Nat) (x2 : Int32) (x3 : Int32) (M : Mem) (f : Int32 × Mem → Option β) : (d_X1_hasStep r1 x2 x3 M).bind f = Option.bind (
      d_X1_hasStep_6 r1 x2 x3 fuel ((0 : Int32), (0 : Int32)) M) f := id rfl
theorem tq_X1_throwThoseWith_60 (k5 : (Int32 × Int32) → Mem → Option (Int32 × Mem)) (x1 : Int32) (x2 : Int32) (x3 : Int32) (x4 : Int32) (M : Mem) : d_X1_throwThoseWith_60 k5 x1 x2 x3 x4 M = (
      bnd ((x4 + (1 : Int32))) fun b1 =>
      k5 (x3, b1) M) := id rfl
theorem bq_X1_throwThoseWith_60 {β : Type} (k5 : (Int32 × Int32) → Mem → Option (Int32 × Mem)) (x1 : Int32) (x2 : Int32) (x3 : Int32) (x4 : Int32) (M : Mem) (f : Int32 × Mem → Option β) : (d_X1_throwThoseWith_60 k5 x1 x2 x3 x4 M).bind f = Option.bind (
      bnd ((x4 + (1 : Int32))) fun b1 =>
      k5 (x3, b1) M) f := id rfl
theorem tq_X1_throwThoseWith_5b (k5 : (Int32 × Int32) → Mem → Option (Int32 × Mem)) (x1 : Int32) (x2 : Int32) (x3 : Int32) (x4 : Int32) (M : Mem) : d_X1_throwThoseWith_5b k5 x1 x2 x3 x4 M = (
      if (mI M 67 3) ≤ x4 then (
        some (x3, M))
      else (
        okk (vp_in x4 20) <|
        (mR M 68 x4.toNatClampNeg).bind fun r_1 =>
        okk (mK M r_1 = 9) <|
        if (mI M r_1 14) = 0 then (
          d_X1_throwThoseWith_60 k5 x1 x2 x3 x4 M)
        else (
          okk (vp_in x4 20) <|
          (mR M 68 x4.toNatClampNeg).bind fun r_2 =>
          (d_X1_hasStep r_2 x1 x2 M).bind fun y1 =>
          if y1.1 = 0 then (
            d_X1_throwThoseWith_60 k5 x1 x2 x3 x4 y1.2)
          else (
            okk (vp_in x4 20) <|
            (mR y1.2 68 x4.toNatClampNeg).bind fun r_3 =>
            okk (mK y1.2 r_3 = 9) <|
            (d_X1_throwTree (mI y1.2 r_3 12) y1.2).bind fun y2 =>
            bnd ((x3 + (1 : Int32))) fun b1 =>
            d_X1_throwThoseWith_60 k5 x1 x2 b1 x4 y2.2)))) := id rfl
theorem bq_X1_throwThoseWith_5b {β : Type} (k5 : (Int32 × Int32) → Mem → Option (Int32 × Mem)) (x1 : Int32) (x2 : Int32) (x3 : Int32) (x4 : Int32) (M : Mem) (f : Int32 × Mem → Option β) : (d_X1_throwThoseWith_5b k5 x1 x2 x3 x4 M).bind f = Option.bind (
      if (mI M 67 3) ≤ x4 then (
        some (x3, M))
      else (
        okk (vp_in x4 20) <|
        (mR M 68 x4.toNatClampNeg).bind fun r_1 =>
        okk (mK M r_1 = 9) <|
        if (mI M r_1 14) = 0 then (
          d_X1_throwThoseWith_60 k5 x1 x2 x3 x4 M)
        else (
          okk (vp_in x4 20) <|
          (mR M 68 x4.toNatClampNeg).bind fun r_2 =>
          (d_X1_hasStep r_2 x1 x2 M).bind fun y1 =>
          if y1.1 = 0 then (
            d_X1_throwThoseWith_60 k5 x1 x2 x3 x4 y1.2)
          else (
            okk (vp_in x4 20) <|
            (mR y1.2 68 x4.toNatClampNeg).bind fun r_3 =>
            okk (mK y1.2 r_3 = 9) <|
            (d_X1_throwTree (mI y1.2 r_3 12) y1.2).bind fun y2 =>
            bnd ((x3 + (1 : Int32))) fun b1 =>
            d_X1_throwThoseWith_60 k5 x1 x2 b1 x4 y2.2)))) f := id rfl
theorem tq_X1_throwThoseWith (x1 : Int32) (x2 : Int32) (M : Mem) : d_X1_throwThoseWith x1 x2 M = (
      d_X1_throwThoseWith_5 x1 x2 fuel ((0 : Int32), (0 : Int32)) M) := id rfl
theorem bq_X1_throwThoseWith {β : Type} (x1 : Int32) (x2 : Int32) (M : Mem) (f : Int32 × Mem → Option β) : (d_X1_throwThoseWith x1 x2 M).bind f = Option.bind (
      d_X1_throwThoseWith_5 x1 x2 fuel ((0 : Int32), (0 : Int32)) M) f := id rfl
theorem tq_J7_fill_53178_5b (k5 : (Int32) → Mem → Option (Unit × Mem)) (r0 : Nat) (x1 : Int32) (x2 : Int32) (x3 : Int32) (M : Mem) : d_J7_fill_53178_5b k5 r0 x1 x2 x3 M = (
      if x3 ≤ x2 then (
        some ((), M))
      else (
        okk (mK M r0 = 21) <|
        okk (vp_in x2 (mN M r0)) <|
        bnd (sI M r0 x2.toNatClampNeg x1) fun M1 =>
        bnd ((x2 + (1 : Int32))) fun b1 =>
        k5 (b1) M1)) := id rfl
theorem bq_J7_fill_53178_5b {β : Type} (k5 : (Int32) → Mem → Option (Unit × Mem)) (r0 : Nat) (x1 : Int32) (x2 : Int32) (x3 : Int32) (M : Mem) (f : Unit × Mem → Option β) : (d_J7_fill_53178_5b k5 r0 x1 x2 x3 M).bind f = Option.bind (
      if x3 ≤ x2 then (
        some ((), M))
      else (
        okk (mK M r0 = 21) <|
        okk (vp_in x2 (mN M r0)) <|
        bnd (sI M r0 x2.toNatClampNeg x1) fun M1 =>
        bnd ((x2 + (1 : Int32))) fun b1 =>
        k5 (b1) M1)) f := id rfl
theorem tq_J7_fill_53178 (r0 : Nat) (x1 : Int32) (M : Mem) : d_J7_fill_53178 r0 x1 M = (
      okk (mK M r0 = 21) <|
      bnd ((nI (mN M r0))) fun b1 =>
      d_J7_fill_53178_5 r0 x1 b1 fuel ((0 : Int32)) M) := id rfl
theorem bq_J7_fill_53178 {β : Type} (r0 : Nat) (x1 : Int32) (M : Mem) (f : Unit × Mem → Option β) : (d_J7_fill_53178 r0 x1 M).bind f = Option.bind (
      okk (mK M r0 = 21) <|
      bnd ((nI (mN M r0))) fun b1 =>
      d_J7_fill_53178_5 r0 x1 b1 fuel ((0 : Int32)) M) f := id rfl
theorem tq_X2_bars (x1 : Int32) (M : Mem) : d_X2_bars x1 M = (
      okk (vp_in x1 320) <|
      if (mI M 46 x1.toNatClampNeg) < (2 : Int32) then (
        some ((0 : Int32), M))
      else (
        some ((1 : Int32), M))) := id rfl
theorem bq_X2_bars {β : Type} (x1 : Int32) (M : Mem) (f : Int32 × Mem → Option β) : (d_X2_bars x1 M).bind f = Option.bind (
      okk (vp_in x1 320) <|
      if (mI M 46 x1.toNatClampNeg) < (2 : Int32) then (
        some ((0 : Int32), M))
      else (
        some ((1 : Int32), M))) f := id rfl
theorem tq_X2_breakOff (x1 : Int32) (M : Mem) : d_X2_breakOff x1 M = (
      okk (vp_in x1 320) <|
      bnd (sI M 45 x1.toNatClampNeg (0 : Int32)) fun M1 =>
      okk (vp_in x1 320) <|
      okk (vp_in x1 320) <|
      bnd (sI M1 46 x1.toNatClampNeg ((mI M1 46 x1.toNatClampNeg) + (1 : Int32))) fun M2 =>
      some ((), M2)) := id rfl
theorem bq_X2_breakOff {β : Type} (x1 : Int32) (M : Mem) (f : Unit × Mem → Option β) : (d_X2_breakOff x1 M).bind f = Option.bind (
      okk (vp_in x1 320) <|
      bnd (sI M 45 x1.toNatClampNeg (0 : Int32)) fun M1 =>
      okk (vp_in x1 320) <|
      okk (vp_in x1 320) <|
      bnd (sI M1 46 x1.toNatClampNeg ((mI M1 46 x1.toNatClampNeg) + (1 : Int32))) fun M2 =>
      some ((), M2)) f := id rfl
theorem tq_X11_localPlace (x0 : Int32) (x1 : Int32) (M : Mem) : d_X11_localPlace x0 x1 M = (
      some (((x0 * (14 : Int32)) + x1), M)) := id rfl
theorem bq_X11_localPlace {β : Type} (x0 : Int32) (x1 : Int32) (M : Mem) (f : Int32 × Mem → Option β) : (d_X11_localPlace x0 x1 M).bind f = Option.bind (
      some (((x0 * (14 : Int32)) + x1), M)) f := id rfl
theorem tq_X8_put (o : Nat) (x1 : Int32) (x2 : Int32) (x3 : Int32) (M : Mem) : d_X8_put o x1 x2 x3 M = (
      okk (vp_in x1 549) <|
      okk (isCh x2) <|
      bnd (sI M (o + 2) x1.toNatClampNeg x2) fun M1 =>
      okk (vp_in x1 549) <|
      bnd (sI M1 (o + 3) x1.toNatClampNeg x3) fun M2 =>
      okk (vp_in x1 549) <|
      bnd (sD M2 (o + 4) x1.toNatClampNeg FP.dconst0) fun M3 =>
      some ((), M3)) := id rfl
theorem bq_X8_put {β : Type} (o : Nat) (x1 : Int32) (x2 : Int32) (x3 : Int32) (M : Mem) (f : Unit × Mem → Option β) : (d_X8_put o x1 x2 x3 M).bind f = Option.bind (
      okk (vp_in x1 549) <|
      okk (isCh x2) <|
      bnd (sI M (o + 2) x1.toNatClampNeg x2) fun M1 =>
      okk (vp_in x1 549) <|
      bnd (sI M1 (o + 3) x1.toNatClampNeg x3) fun M2 =>
      okk (vp_in x1 549) <|
      bnd (sD M2 (o + 4) x1.toNatClampNeg FP.dconst0) fun M3 =>
      some ((), M3)) f := id rfl
theorem tq_X3_addFrame_32b (k32 : (Int32) → Mem → Option (Unit × Mem)) (o : Nat) (x2 : Int32) (M : Mem) : d_X3_addFrame_32b k32 o x2 M = (
      if (6 : Int32) ≤ x2 then (
        bnd (sI M o 9 ((mI M o 9) + (1 : Int32))) fun M1 =>
        some ((), M1))
      else (
        (d_X11_localPlace (mI M o 9) x2 M).bind fun y1 =>
        (d_X8_put o y1.1 (110 : Int32) (0 : Int32) y1.2).bind fun y2 =>
        bnd ((x2 + (1 : Int32))) fun b1 =>
        k32 (b1) y2.2)) := id rfl
theorem bq_X3_addFrame_32b {β : Type} (k32 : (Int32) → Mem → Option (Unit × Mem)) (o : Nat) (x2 : Int32) (M : Mem) (f : Unit × Mem → Option β) : (d_X3_addFrame_32b k32 o x2 M).bind f = Option.bind (
      if (6 : Int32) ≤ x2 then (
        bnd (sI M o 9 ((mI M o 9) + (1 : Int32))) fun M1 =>
        some ((), M1))
      else (
        (d_X11_localPlace (mI M o 9) x2 M).bind fun y1 =>
        (d_X8_put o y1.1 (110 : Int32) (0 : Int32) y1.2).bind fun y2 =>
        bnd ((x2 + (1 : Int32))) fun b1 =>
        k32 (b1) y2.2)) f := id rfl
theorem tq_X3_addFrame (o : Nat) (x1 : Int32) (M : Mem) : d_X3_addFrame o x1 M = (
      okk (vp_in (mI M o 9) 12) <|
      bnd (sI M (o + 6) (mI M o 9).toNatClampNeg x1) fun M1 =>
      okk (vp_in (mI M1 o 9) 12) <|
      bnd (sI M1 (o + 7) (mI M1 o 9).toNatClampNeg (0 : Int32)) fun M2 =>
      okk (vp_in (mI M2 o 9) 12) <|
      bnd (sI M2 (o + 8) (mI M2 o 9).toNatClampNeg (0 : Int32)) fun M3 =>
      d_X3_addFrame_32 o fuel ((0 : Int32)) M3) := id rfl
theorem bq_X3_addFrame {β : Type} (o : Nat) (x1 : Int32) (M : Mem) (f : Unit × Mem → Option β) : (d_X3_addFrame o x1 M).bind f = Option.bind (
      okk (vp_in (mI M o 9) 12) <|
      bnd (sI M (o + 6) (mI M o 9).toNatClampNeg x1) fun M1 =>
      okk (vp_in (mI M1 o 9) 12) <|
      bnd (sI M1 (o + 7) (mI M1 o 9).toNatClampNeg (0 : Int32)) fun M2 =>
      okk (vp_in (mI M2 o 9) 12) <|
      bnd (sI M2 (o + 8) (mI M2 o 9).toNatClampNeg (0 : Int32)) fun M3 =>
      d_X3_addFrame_32 o fuel ((0 : Int32)) M3) f := id rfl
theorem tq_X3_begin (o : Nat) (x1 : Int32) (x2 : Int32) (M : Mem) : d_X3_begin o x1 x2 M = (
      bnd (sI M o 9 (0 : Int32)) fun M1 =>
      bnd (sI M1 o 10 (0 : Int32)) fun M2 =>
      bnd (sI M2 o 11 (0 : Int32)) fun M3 =>
      bnd (sI M3 o 12 (0 : Int32)) fun M4 =>
      bnd (sI M4 o 13 (45 : Int32)) fun M5 =>
      bnd (sI M5 o 14 (45 : Int32)) fun M6 =>
      bnd (sI M6 o 15 (0 : Int32)) fun M7 =>
      (d_X3_addFrame o x1 M7).bind fun y1 =>
      (d_X11_localPlace (0 : Int32) (0 : Int32) y1.2).bind fun y2 =>
      (d_X8_put o y2.1 (105 : Int32) x2 y2.2).bind fun y3 =>
      some ((), y3.2)) := id rfl
theorem bq_X3_begin {β : Type} (o : Nat) (x1 : Int32) (x2 : Int32) (M : Mem) (f : Unit × Mem → Option β) : (d_X3_begin o x1 x2 M).bind f = Option.bind (
      bnd (sI M o 9 (0 : Int32)) fun M1 =>
      bnd (sI M1 o 10 (0 : Int32)) fun M2 =>
      bnd (sI M2 o 11 (0 : Int32)) fun M3 =>
      bnd (sI M3 o 12 (0 : Int32)) fun M4 =>
      bnd (sI M4 o 13 (45 : Int32)) fun M5 =>
      bnd (sI M5 o 14 (45 : Int32)) fun M6 =>
      bnd (sI M6 o 15 (0 : Int32)) fun M7 =>
      (d_X3_addFrame o x1 M7).bind fun y1 =>
      (d_X11_localPlace (0 : Int32) (0 : Int32) y1.2).bind fun y2 =>
      (d_X8_put o y2.1 (105 : Int32) x2 y2.2).bind fun y3 =>
      some ((), y3.2)) f := id rfl
theorem tq_X3_isRunning (o : Nat) (M : Mem) : d_X3_isRunning o M = (
      if (mI M o 13) = (45 : Int32) then (
        some ((1 : Int32), M))
      else (
        some ((0 : Int32), M))) := id rfl
theorem bq_X3_isRunning {β : Type} (o : Nat) (M : Mem) (f : Int32 × Mem → Option β) : (d_X3_isRunning o M).bind f = Option.bind (
      if (mI M o 13) = (45 : Int32) then (
        some ((1 : Int32), M))
      else (
        some ((0 : Int32), M))) f := id rfl
theorem tq_X3_isAtLimit (o : Nat) (M : Mem) : d_X3_isAtLimit o M = (
      if (mI M o 12) < (1000 : Int32) then (
        some ((0 : Int32), M))
      else (
        some ((1 : Int32), M))) := id rfl
theorem bq_X3_isAtLimit {β : Type} (o : Nat) (M : Mem) (f : Int32 × Mem → Option β) : (d_X3_isAtLimit o M).bind f = Option.bind (
      if (mI M o 12) < (1000 : Int32) then (
        some ((0 : Int32), M))
      else (
        some ((1 : Int32), M))) f := id rfl
theorem tq_X3_functionAhead (o : Nat) (M : Mem) : d_X3_functionAhead o M = (
      okk (vp_in ((mI M o 9) - (1 : Int32)) 12) <|
      some ((mI M (o + 6) ((mI M o 9) - (1 : Int32)).toNatClampNeg), M)) := id rfl
theorem bq_X3_functionAhead {β : Type} (o : Nat) (M : Mem) (f : Int32 × Mem → Option β) : (d_X3_functionAhead o M).bind f = Option.bind (
      okk (vp_in ((mI M o 9) - (1 : Int32)) 12) <|
      some ((mI M (o + 6) ((mI M o 9) - (1 : Int32)).toNatClampNeg), M)) f := id rfl
theorem tq_X3_indexAhead (o : Nat) (M : Mem) : d_X3_indexAhead o M = (
      okk (vp_in ((mI M o 9) - (1 : Int32)) 12) <|
      some ((mI M (o + 7) ((mI M o 9) - (1 : Int32)).toNatClampNeg), M)) := id rfl
theorem bq_X3_indexAhead {β : Type} (o : Nat) (M : Mem) (f : Int32 × Mem → Option β) : (d_X3_indexAhead o M).bind f = Option.bind (
      okk (vp_in ((mI M o 9) - (1 : Int32)) 12) <|
      some ((mI M (o + 7) ((mI M o 9) - (1 : Int32)).toNatClampNeg), M)) f := id rfl
theorem tq_X3_lineAhead (o : Nat) (M : Mem) : d_X3_lineAhead o M = (
      (d_X3_functionAhead o M).bind fun y1 =>
      (d_X3_indexAhead o y1.2).bind fun y2 =>
      some (((y1.1 * (100 : Int32)) + y2.1), y2.2)) := id rfl
theorem bq_X3_lineAhead {β : Type} (o : Nat) (M : Mem) (f : Int32 × Mem → Option β) : (d_X3_lineAhead o M).bind f = Option.bind (
      (d_X3_functionAhead o M).bind fun y1 =>
      (d_X3_indexAhead o y1.2).bind fun y2 =>
      some (((y1.1 * (100 : Int32)) + y2.1), y2.2)) f := id rfl
theorem tq_X3_endWith (o : Nat) (x1 : Int32) (x2 : Int32) (M : Mem) : d_X3_endWith o x1 x2 M = (
      bnd (sI M o 13 (120 : Int32)) fun M1 =>
      okk (isCh x1) <|
      bnd (sI M1 o 14 x1) fun M2 =>
      bnd (sI M2 o 15 x2) fun M3 =>
      some ((), M3)) := id rfl
theorem bq_X3_endWith {β : Type} (o : Nat) (x1 : Int32) (x2 : Int32) (M : Mem) (f : Unit × Mem → Option β) : (d_X3_endWith o x1 x2 M).bind f = Option.bind (
      bnd (sI M o 13 (120 : Int32)) fun M1 =>
      okk (isCh x1) <|
      bnd (sI M1 o 14 x1) fun M2 =>
      bnd (sI M2 o 15 x2) fun M3 =>
      some ((), M3)) f := id rfl
theorem tq_X3_endAtLimit (o : Nat) (M : Mem) : d_X3_endAtLimit o M = (
      (d_X3_lineAhead o M).bind fun y1 =>
      (d_X3_endWith o (108 : Int32) y1.1 y1.2).bind fun y2 =>
      some ((), y2.2)) := id rfl
theorem bq_X3_endAtLimit {β : Type} (o : Nat) (M : Mem) (f : Unit × Mem → Option β) : (d_X3_endAtLimit o M).bind f = Option.bind (
      (d_X3_lineAhead o M).bind fun y1 =>
      (d_X3_endWith o (108 : Int32) y1.1 y1.2).bind fun y2 =>
      some ((), y2.2)) f := id rfl
theorem tq_X5_hasCode (x1 : Int32) (x2 : Int32) (M : Mem) : d_X5_hasCode x1 x2 M = (
      if x2 < 0 then (
        some ((0 : Int32), M))
      else (
        okk (vp_in x1 8) <|
        if (mI M 4 x1.toNatClampNeg) ≤ x2 then (
          some ((0 : Int32), M))
        else (
          some ((1 : Int32), M)))) := id rfl
theorem bq_X5_hasCode {β : Type} (x1 : Int32) (x2 : Int32) (M : Mem) (f : Int32 × Mem → Option β) : (d_X5_hasCode x1 x2 M).bind f = Option.bind (
      if x2 < 0 then (
        some ((0 : Int32), M))
      else (
        okk (vp_in x1 8) <|
        if (mI M 4 x1.toNatClampNeg) ≤ x2 then (
          some ((0 : Int32), M))
        else (
          some ((1 : Int32), M)))) f := id rfl
theorem tq_X3_siteAhead (o : Nat) (M : Mem) : d_X3_siteAhead o M = (
      (d_X3_functionAhead o M).bind fun y1 =>
      (d_X3_indexAhead o y1.2).bind fun y2 =>
      (d_X11_siteOf y1.1 y2.1 y2.2).bind fun y3 =>
      some (y3.1, y3.2)) := id rfl
theorem bq_X3_siteAhead {β : Type} (o : Nat) (M : Mem) (f : Int32 × Mem → Option β) : (d_X3_siteAhead o M).bind f = Option.bind (
      (d_X3_functionAhead o M).bind fun y1 =>
      (d_X3_indexAhead o y1.2).bind fun y2 =>
      (d_X11_siteOf y1.1 y2.1 y2.2).bind fun y3 =>
      some (y3.1, y3.2)) f := id rfl
theorem tq_X3_takes (o : Nat) (x1 : Int32) (x2 : Int32) (M : Mem) : d_X3_takes o x1 x2 M = (
      if x1 = (99 : Int32) then (
        okk (vp_in x2 8) <|
        some ((mI M 3 x2.toNatClampNeg), M))
      else if x1 = (105 : Int32) ∨ x1 = (106 : Int32) ∨ x1 = (107 : Int32) ∨ x1 = (108 : Int32) ∨ x1 = (110 : Int32) then (
        some ((0 : Int32), M))
      else if x1 = (112 : Int32) then (
        some ((2 : Int32), M))
      else (
        if (xIdx 1 x1) < 0 then (
          some ((1 : Int32), M))
        else (
          some ((2 : Int32), M)))) := id rfl
theorem bq_X3_takes {β : Type} (o : Nat) (x1 : Int32) (x2 : Int32) (M : Mem) (f : Int32 × Mem → Option β) : (d_X3_takes o x1 x2 M).bind f = Option.bind (
      if x1 = (99 : Int32) then (
        okk (vp_in x2 8) <|
        some ((mI M 3 x2.toNatClampNeg), M))
      else if x1 = (105 : Int32) ∨ x1 = (106 : Int32) ∨ x1 = (107 : Int32) ∨ x1 = (108 : Int32) ∨ x1 = (110 : Int32) then (
        some ((0 : Int32), M))
      else if x1 = (112 : Int32) then (
        some ((2 : Int32), M))
      else (
        if (xIdx 1 x1) < 0 then (
          some ((1 : Int32), M))
        else (
          some ((2 : Int32), M)))) f := id rfl
theorem tq_X3_pushes (o : Nat) (x1 : Int32) (M : Mem) : d_X3_pushes o x1 M = (
      if x1 = (99 : Int32) ∨ x1 = (100 : Int32) ∨ x1 = (106 : Int32) ∨ x1 = (109 : Int32) ∨ x1 = (112 : Int32) ∨ x1 = (114 : Int32) ∨ x1 = (115 : Int32) ∨ x1 = (116 : Int32) ∨ x1 = (122 : Int32) then (
        some ((0 : Int32), M))
      else if x1 = (117 : Int32) then (
        some ((2 : Int32), M))
      else (
        some ((1 : Int32), M))) := id rfl
theorem bq_X3_pushes {β : Type} (o : Nat) (x1 : Int32) (M : Mem) (f : Int32 × Mem → Option β) : (d_X3_pushes o x1 M).bind f = Option.bind (
      if x1 = (99 : Int32) ∨ x1 = (100 : Int32) ∨ x1 = (106 : Int32) ∨ x1 = (109 : Int32) ∨ x1 = (112 : Int32) ∨ x1 = (114 : Int32) ∨ x1 = (115 : Int32) ∨ x1 = (116 : Int32) ∨ x1 = (122 : Int32) then (
        some ((0 : Int32), M))
      else if x1 = (117 : Int32) then (
        some ((2 : Int32), M))
      else (
        some ((1 : Int32), M))) f := id rfl
theorem tq_X3_failsByStack (o : Nat) (x1 : Int32) (x2 : Int32) (M : Mem) : d_X3_failsByStack o x1 x2 M = (
      okk (vp_in ((mI M o 9) - (1 : Int32)) 12) <|
      bnd ((mI M (o + 8) ((mI M o 9) - (1 : Int32)).toNatClampNeg)) fun b1 =>
      (d_X3_takes o x1 x2 M).bind fun y1 =>
      if b1 < y1.1 then (
        some ((1 : Int32), y1.2))
      else (
        (d_X3_pushes o x1 y1.2).bind fun y2 =>
        if ((b1 - y1.1) + y2.1) ≤ (8 : Int32) then (
          if x1 = (114 : Int32) then (
            if (mI y2.2 o 9) ≤ (1 : Int32) then (
              some ((0 : Int32), y2.2))
            else (
              okk (vp_in ((mI y2.2 o 9) - (2 : Int32)) 12) <|
              if (mI y2.2 (o + 8) ((mI y2.2 o 9) - (2 : Int32)).toNatClampNeg) < (8 : Int32) then (
                some ((0 : Int32), y2.2))
              else (
                some ((1 : Int32), y2.2))))
          else (
            some ((0 : Int32), y2.2)))
        else (
          some ((1 : Int32), y2.2)))) := id rfl
theorem bq_X3_failsByStack {β : Type} (o : Nat) (x1 : Int32) (x2 : Int32) (M : Mem) (f : Int32 × Mem → Option β) : (d_X3_failsByStack o x1 x2 M).bind f = Option.bind (
      okk (vp_in ((mI M o 9) - (1 : Int32)) 12) <|
      bnd ((mI M (o + 8) ((mI M o 9) - (1 : Int32)).toNatClampNeg)) fun b1 =>
      (d_X3_takes o x1 x2 M).bind fun y1 =>
      if b1 < y1.1 then (
        some ((1 : Int32), y1.2))
      else (
        (d_X3_pushes o x1 y1.2).bind fun y2 =>
        if ((b1 - y1.1) + y2.1) ≤ (8 : Int32) then (
          if x1 = (114 : Int32) then (
            if (mI y2.2 o 9) ≤ (1 : Int32) then (
              some ((0 : Int32), y2.2))
            else (
              okk (vp_in ((mI y2.2 o 9) - (2 : Int32)) 12) <|
              if (mI y2.2 (o + 8) ((mI y2.2 o 9) - (2 : Int32)).toNatClampNeg) < (8 : Int32) then (
                some ((0 : Int32), y2.2))
              else (
                some ((1 : Int32), y2.2))))
          else (
            some ((0 : Int32), y2.2)))
        else (
          some ((1 : Int32), y2.2)))) f := id rfl
theorem tq_X3_fromTop (o : Nat) (x1 : Int32) (M : Mem) : d_X3_fromTop o x1 M = (
      bnd (((mI M o 9) - (1 : Int32))) fun b1 =>
      okk (vp_in b1 12) <|
      some (((((b1 * (14 : Int32)) + (6 : Int32)) + (mI M (o + 8) b1.toNatClampNeg)) - x1), M)) := id rfl
theorem bq_X3_fromTop {β : Type} (o : Nat) (x1 : Int32) (M : Mem) (f : Int32 × Mem → Option β) : (d_X3_fromTop o x1 M).bind f = Option.bind (
      bnd (((mI M o 9) - (1 : Int32))) fun b1 =>
      okk (vp_in b1 12) <|
      some (((((b1 * (14 : Int32)) + (6 : Int32)) + (mI M (o + 8) b1.toNatClampNeg)) - x1), M)) f := id rfl
theorem tq_X8_isNumber (o : Nat) (x1 : Int32) (M : Mem) : d_X8_isNumber o x1 M = (
      okk (vp_in x1 549) <|
      if (mI M (o + 2) x1.toNatClampNeg) = (105 : Int32) then (
        some ((1 : Int32), M))
      else (
        okk (vp_in x1 549) <|
        if (mI M (o + 2) x1.toNatClampNeg) = (102 : Int32) then (
          some ((1 : Int32), M))
        else (
          some ((0 : Int32), M)))) := id rfl
theorem bq_X8_isNumber {β : Type} (o : Nat) (x1 : Int32) (M : Mem) (f : Int32 × Mem → Option β) : (d_X8_isNumber o x1 M).bind f = Option.bind (
      okk (vp_in x1 549) <|
      if (mI M (o + 2) x1.toNatClampNeg) = (105 : Int32) then (
        some ((1 : Int32), M))
      else (
        okk (vp_in x1 549) <|
        if (mI M (o + 2) x1.toNatClampNeg) = (102 : Int32) then (
          some ((1 : Int32), M))
        else (
          some ((0 : Int32), M)))) f := id rfl
theorem tq_X3_failsByKind (o : Nat) (x1 : Int32) (M : Mem) : d_X3_failsByKind o x1 M = (
      if x1 = (103 : Int32) ∨ x1 = (109 : Int32) then (
        (d_X3_fromTop o (1 : Int32) M).bind fun y1 =>
        okk (vp_in y1.1 549) <|
        if (mI y1.2 (o + 2) y1.1.toNatClampNeg) = (111 : Int32) then (
          some ((0 : Int32), y1.2))
        else (
          some ((1 : Int32), y1.2)))
      else if x1 = (112 : Int32) then (
        (d_X3_fromTop o (2 : Int32) M).bind fun y2 =>
        okk (vp_in y2.1 549) <|
        if (mI y2.2 (o + 2) y2.1.toNatClampNeg) = (111 : Int32) then (
          some ((0 : Int32), y2.2))
        else (
          some ((1 : Int32), y2.2)))
      else if x1 = (119 : Int32) then (
        (d_X3_fromTop o (1 : Int32) M).bind fun y3 =>
        (d_X8_isNumber o y3.1 y3.2).bind fun y4 =>
        if y4.1 = 0 then (
          some ((1 : Int32), y4.2))
        else (
          some ((0 : Int32), y4.2)))
      else (
        if (xIdx 2 x1) < 0 then (
          some ((0 : Int32), M))
        else (
          (d_X3_fromTop o (2 : Int32) M).bind fun y5 =>
          (d_X8_isNumber o y5.1 y5.2).bind fun y6 =>
          if y6.1 = 0 then (
            some ((1 : Int32), y6.2))
          else (
            (d_X3_fromTop o (1 : Int32) y6.2).bind fun y7 =>
            (d_X8_isNumber o y7.1 y7.2).bind fun y8 =>
            if y8.1 = 0 then (
              some ((1 : Int32), y8.2))
            else (
              some ((0 : Int32), y8.2)))))) := id rfl
theorem bq_X3_failsByKind {β : Type} (o : Nat) (x1 : Int32) (M : Mem) (f : Int32 × Mem → Option β) : (d_X3_failsByKind o x1 M).bind f = Option.bind (
      if x1 = (103 : Int32) ∨ x1 = (109 : Int32) then (
        (d_X3_fromTop o (1 : Int32) M).bind fun y1 =>
        okk (vp_in y1.1 549) <|
        if (mI y1.2 (o + 2) y1.1.toNatClampNeg) = (111 : Int32) then (
          some ((0 : Int32), y1.2))
        else (
          some ((1 : Int32), y1.2)))
      else if x1 = (112 : Int32) then (
        (d_X3_fromTop o (2 : Int32) M).bind fun y2 =>
        okk (vp_in y2.1 549) <|
        if (mI y2.2 (o + 2) y2.1.toNatClampNeg) = (111 : Int32) then (
          some ((0 : Int32), y2.2))
        else (
          some ((1 : Int32), y2.2)))
      else if x1 = (119 : Int32) then (
        (d_X3_fromTop o (1 : Int32) M).bind fun y3 =>
        (d_X8_isNumber o y3.1 y3.2).bind fun y4 =>
        if y4.1 = 0 then (
          some ((1 : Int32), y4.2))
        else (
          some ((0 : Int32), y4.2)))
      else (
        if (xIdx 2 x1) < 0 then (
          some ((0 : Int32), M))
        else (
          (d_X3_fromTop o (2 : Int32) M).bind fun y5 =>
          (d_X8_isNumber o y5.1 y5.2).bind fun y6 =>
          if y6.1 = 0 then (
            some ((1 : Int32), y6.2))
          else (
            (d_X3_fromTop o (1 : Int32) y6.2).bind fun y7 =>
            (d_X8_isNumber o y7.1 y7.2).bind fun y8 =>
            if y8.1 = 0 then (
              some ((1 : Int32), y8.2))
            else (
              some ((0 : Int32), y8.2)))))) f := id rfl
theorem tq_X8_areIntegers (o : Nat) (x1 : Int32) (x2 : Int32) (M : Mem) : d_X8_areIntegers o x1 x2 M = (
      okk (vp_in x1 549) <|
      if (mI M (o + 2) x1.toNatClampNeg) = (105 : Int32) then (
        okk (vp_in x2 549) <|
        if (mI M (o + 2) x2.toNatClampNeg) = (105 : Int32) then (
          some ((1 : Int32), M))
        else (
          some ((0 : Int32), M)))
      else (
        some ((0 : Int32), M))) := id rfl
theorem bq_X8_areIntegers {β : Type} (o : Nat) (x1 : Int32) (x2 : Int32) (M : Mem) (f : Int32 × Mem → Option β) : (d_X8_areIntegers o x1 x2 M).bind f = Option.bind (
      okk (vp_in x1 549) <|
      if (mI M (o + 2) x1.toNatClampNeg) = (105 : Int32) then (
        okk (vp_in x2 549) <|
        if (mI M (o + 2) x2.toNatClampNeg) = (105 : Int32) then (
          some ((1 : Int32), M))
        else (
          some ((0 : Int32), M)))
      else (
        some ((0 : Int32), M))) f := id rfl
theorem tq_X3_dividesByZero (o : Nat) (M : Mem) : d_X3_dividesByZero o M = (
      (d_X3_fromTop o (2 : Int32) M).bind fun y1 =>
      (d_X3_fromTop o (1 : Int32) y1.2).bind fun y2 =>
      (d_X8_areIntegers o y1.1 y2.1 y2.2).bind fun y3 =>
      if y3.1 = 0 then (
        some ((0 : Int32), y3.2))
      else (
        (d_X3_fromTop o (1 : Int32) y3.2).bind fun y4 =>
        okk (vp_in y4.1 549) <|
        if (mI y4.2 (o + 3) y4.1.toNatClampNeg) = 0 then (
          some ((1 : Int32), y4.2))
        else (
          some ((0 : Int32), y4.2)))) := id rfl
theorem bq_X3_dividesByZero {β : Type} (o : Nat) (M : Mem) (f : Int32 × Mem → Option β) : (d_X3_dividesByZero o M).bind f = Option.bind (
      (d_X3_fromTop o (2 : Int32) M).bind fun y1 =>
      (d_X3_fromTop o (1 : Int32) y1.2).bind fun y2 =>
      (d_X8_areIntegers o y1.1 y2.1 y2.2).bind fun y3 =>
      if y3.1 = 0 then (
        some ((0 : Int32), y3.2))
      else (
        (d_X3_fromTop o (1 : Int32) y3.2).bind fun y4 =>
        okk (vp_in y4.1 549) <|
        if (mI y4.2 (o + 3) y4.1.toNatClampNeg) = 0 then (
          some ((1 : Int32), y4.2))
        else (
          some ((0 : Int32), y4.2)))) f := id rfl
theorem tq_X8_isUndefined (o : Nat) (x1 : Int32) (M : Mem) : d_X8_isUndefined o x1 M = (
      okk (vp_in x1 549) <|
      if (mI M (o + 2) x1.toNatClampNeg) = (102 : Int32) then (
        okk (vp_in x1 549) <|
        if (mI M (o + 3) x1.toNatClampNeg) = (1 : Int32) then (
          some ((1 : Int32), M))
        else (
          some ((0 : Int32), M)))
      else (
        some ((0 : Int32), M))) := id rfl
theorem bq_X8_isUndefined {β : Type} (o : Nat) (x1 : Int32) (M : Mem) (f : Int32 × Mem → Option β) : (d_X8_isUndefined o x1 M).bind f = Option.bind (
      okk (vp_in x1 549) <|
      if (mI M (o + 2) x1.toNatClampNeg) = (102 : Int32) then (
        okk (vp_in x1 549) <|
        if (mI M (o + 3) x1.toNatClampNeg) = (1 : Int32) then (
          some ((1 : Int32), M))
        else (
          some ((0 : Int32), M)))
      else (
        some ((0 : Int32), M))) f := id rfl
theorem tq_X4_hasNearest (x0 : UInt64) (M : Mem) : d_X4_hasNearest x0 M = (
      if (Op.cmpValue (FP.dcmp x0 (13970166044104327168 : UInt64)) .l) < 0 then (
        some ((0 : Int32), M))
      else (
        if 0 ≤ (Op.cmpValue (FP.dcmp x0 (4746794007246405632 : UInt64)) .g) then (
          some ((0 : Int32), M))
        else (
          some ((1 : Int32), M)))) := id rfl
theorem bq_X4_hasNearest {β : Type} (x0 : UInt64) (M : Mem) (f : Int32 × Mem → Option β) : (d_X4_hasNearest x0 M).bind f = Option.bind (
      if (Op.cmpValue (FP.dcmp x0 (13970166044104327168 : UInt64)) .l) < 0 then (
        some ((0 : Int32), M))
      else (
        if 0 ≤ (Op.cmpValue (FP.dcmp x0 (4746794007246405632 : UInt64)) .g) then (
          some ((0 : Int32), M))
        else (
          some ((1 : Int32), M)))) f := id rfl
theorem tq_X8_hasNearest (o : Nat) (x1 : Int32) (M : Mem) : d_X8_hasNearest o x1 M = (
      okk (vp_in x1 549) <|
      if (mI M (o + 2) x1.toNatClampNeg) = (105 : Int32) then (
        some ((1 : Int32), M))
      else (
        (d_X8_isUndefined o x1 M).bind fun y1 =>
        if y1.1 = 0 then (
          okk (vp_in x1 549) <|
          (d_X4_hasNearest (mD y1.2 (o + 4) x1.toNatClampNeg) y1.2).bind fun y2 =>
          if y2.1 = 0 then (
            some ((0 : Int32), y2.2))
          else (
            some ((1 : Int32), y2.2)))
        else (
          some ((0 : Int32), y1.2)))) := id rfl
theorem bq_X8_hasNearest {β : Type} (o : Nat) (x1 : Int32) (M : Mem) (f : Int32 × Mem → Option β) : (d_X8_hasNearest o x1 M).bind f = Option.bind (
      okk (vp_in x1 549) <|
      if (mI M (o + 2) x1.toNatClampNeg) = (105 : Int32) then (
        some ((1 : Int32), M))
      else (
        (d_X8_isUndefined o x1 M).bind fun y1 =>
        if y1.1 = 0 then (
          okk (vp_in x1 549) <|
          (d_X4_hasNearest (mD y1.2 (o + 4) x1.toNatClampNeg) y1.2).bind fun y2 =>
          if y2.1 = 0 then (
            some ((0 : Int32), y2.2))
          else (
            some ((1 : Int32), y2.2)))
        else (
          some ((0 : Int32), y1.2)))) f := id rfl
theorem tq_X3_shapeFromTop (o : Nat) (x1 : Int32) (M : Mem) : d_X3_shapeFromTop o x1 M = (
      (d_X3_fromTop o x1 M).bind fun y1 =>
      okk (vp_in y1.1 549) <|
      okk (vp_in (mI y1.2 (o + 3) y1.1.toNatClampNeg) 60) <|
      some ((mI y1.2 (o + 9) (mI y1.2 (o + 3) y1.1.toNatClampNeg).toNatClampNeg), y1.2)) := id rfl
theorem bq_X3_shapeFromTop {β : Type} (o : Nat) (x1 : Int32) (M : Mem) (f : Int32 × Mem → Option β) : (d_X3_shapeFromTop o x1 M).bind f = Option.bind (
      (d_X3_fromTop o x1 M).bind fun y1 =>
      okk (vp_in y1.1 549) <|
      okk (vp_in (mI y1.2 (o + 3) y1.1.toNatClampNeg) 60) <|
      some ((mI y1.2 (o + 9) (mI y1.2 (o + 3) y1.1.toNatClampNeg).toNatClampNeg), y1.2)) f := id rfl
theorem tq_X7_has (x1 : Int32) (x2 : Int32) (M : Mem) : d_X7_has x1 x2 M = (
      okk (vp_in x1 60) <|
      if (((mI M 14 x1.toNatClampNeg) >>> (x2 &&& 31)) &&& (1 : Int32)) = 0 then (
        some ((0 : Int32), M))
      else (
        some ((1 : Int32), M))) := id rfl
theorem bq_X7_has {β : Type} (x1 : Int32) (x2 : Int32) (M : Mem) (f : Int32 × Mem → Option β) : (d_X7_has x1 x2 M).bind f = Option.bind (
      okk (vp_in x1 60) <|
      if (((mI M 14 x1.toNatClampNeg) >>> (x2 &&& 31)) &&& (1 : Int32)) = 0 then (
        some ((0 : Int32), M))
      else (
        some ((1 : Int32), M))) f := id rfl
theorem tq_X7_canPut (x1 : Int32) (x2 : Int32) (M : Mem) : d_X7_canPut x1 x2 M = (
      (d_X7_has x1 x2 M).bind fun y1 =>
      if y1.1 = 0 then (
        okk (vp_in ((x1 * (6 : Int32)) + x2) 360) <|
        if (mI y1.2 16 ((x1 * (6 : Int32)) + x2).toNatClampNeg) = (-1 : Int32) then (
          if (60 : Int32) ≤ (mI y1.2 11 6) then (
            some ((0 : Int32), y1.2))
          else (
            some ((1 : Int32), y1.2)))
        else (
          some ((1 : Int32), y1.2)))
      else (
        some ((1 : Int32), y1.2))) := id rfl
theorem bq_X7_canPut {β : Type} (x1 : Int32) (x2 : Int32) (M : Mem) (f : Int32 × Mem → Option β) : (d_X7_canPut x1 x2 M).bind f = Option.bind (
      (d_X7_has x1 x2 M).bind fun y1 =>
      if y1.1 = 0 then (
        okk (vp_in ((x1 * (6 : Int32)) + x2) 360) <|
        if (mI y1.2 16 ((x1 * (6 : Int32)) + x2).toNatClampNeg) = (-1 : Int32) then (
          if (60 : Int32) ≤ (mI y1.2 11 6) then (
            some ((0 : Int32), y1.2))
          else (
            some ((1 : Int32), y1.2)))
        else (
          some ((1 : Int32), y1.2)))
      else (
        some ((1 : Int32), y1.2))) f := id rfl
theorem tq_X3_classFromTop (o : Nat) (M : Mem) : d_X3_classFromTop o M = (
      (d_X3_shapeFromTop o (1 : Int32) M).bind fun y1 =>
      okk (vp_in y1.1 60) <|
      some ((mI y1.2 12 y1.1.toNatClampNeg), y1.2)) := id rfl
theorem bq_X3_classFromTop {β : Type} (o : Nat) (M : Mem) (f : Int32 × Mem → Option β) : (d_X3_classFromTop o M).bind f = Option.bind (
      (d_X3_shapeFromTop o (1 : Int32) M).bind fun y1 =>
      okk (vp_in y1.1 60) <|
      some ((mI y1.2 12 y1.1.toNatClampNeg), y1.2)) f := id rfl
theorem tq_X5_methodOf_5b (k5 : (Int32 × Int32) → Mem → Option (Int32 × Mem)) (x2 : Int32) (x3 : Int32) (x4 : Int32) (M : Mem) : d_X5_methodOf_5b k5 x2 x3 x4 M = (
      if (5 : Int32) ≤ x4 then (
        some ((-1 : Int32), M))
      else (
        if x3 = (-1 : Int32) then (
          some ((-1 : Int32), M))
        else (
          okk (vp_in ((x3 * (6 : Int32)) + x2) 30) <|
          if (mI M 10 ((x3 * (6 : Int32)) + x2).toNatClampNeg) = (-1 : Int32) then (
            okk (vp_in x3 5) <|
            bnd ((mI M 9 x3.toNatClampNeg)) fun b1 =>
            bnd ((x4 + (1 : Int32))) fun b2 =>
            k5 (b1, b2) M)
          else (
            okk (vp_in ((x3 * (6 : Int32)) + x2) 30) <|
            some ((mI M 10 ((x3 * (6 : Int32)) + x2).toNatClampNeg), M))))) := id rfl
theorem bq_X5_methodOf_5b {β : Type} (k5 : (Int32 × Int32) → Mem → Option (Int32 × Mem)) (x2 : Int32) (x3 : Int32) (x4 : Int32) (M : Mem) (f : Int32 × Mem → Option β) : (d_X5_methodOf_5b k5 x2 x3 x4 M).bind f = Option.bind (
      if (5 : Int32) ≤ x4 then (
        some ((-1 : Int32), M))
      else (
        if x3 = (-1 : Int32) then (
          some ((-1 : Int32), M))
        else (
          okk (vp_in ((x3 * (6 : Int32)) + x2) 30) <|
          if (mI M 10 ((x3 * (6 : Int32)) + x2).toNatClampNeg) = (-1 : Int32) then (
            okk (vp_in x3 5) <|
            bnd ((mI M 9 x3.toNatClampNeg)) fun b1 =>
            bnd ((x4 + (1 : Int32))) fun b2 =>
            k5 (b1, b2) M)
          else (
            okk (vp_in ((x3 * (6 : Int32)) + x2) 30) <|
            some ((mI M 10 ((x3 * (6 : Int32)) + x2).toNatClampNeg), M))))) f := id rfl
theorem tq_X5_methodOf (x1 : Int32) (x2 : Int32) (M : Mem) : d_X5_methodOf x1 x2 M = (
      d_X5_methodOf_5 x2 fuel (x1, (0 : Int32)) M) := id rfl
theorem bq_X5_methodOf {β : Type} (x1 : Int32) (x2 : Int32) (M : Mem) (f : Int32 × Mem → Option β) : (d_X5_methodOf x1 x2 M).bind f = Option.bind (
      d_X5_methodOf_5 x2 fuel (x1, (0 : Int32)) M) f := id rfl
theorem tq_X3_failureByDepth (o : Nat) (M : Mem) : d_X3_failureByDepth o M = (
      if (mI M o 9) < (12 : Int32) then (
        some ((45 : Int32), M))
      else (
        some ((100 : Int32), M))) := id rfl
theorem bq_X3_failureByDepth {β : Type} (o : Nat) (M : Mem) (f : Int32 × Mem → Option β) : (d_X3_failureByDepth o M).bind f = Option.bind (
      if (mI M o 9) < (12 : Int32) then (
        some ((45 : Int32), M))
      else (
        some ((100 : Int32), M))) f := id rfl
theorem tq_X3_failureByValue (o : Nat) (x1 : Int32) (x2 : Int32) (M : Mem) : d_X3_failureByValue o x1 x2 M = (
      if x1 = (37 : Int32) ∨ x1 = (47 : Int32) then (
        (d_X3_dividesByZero o M).bind fun y1 =>
        if y1.1 = 0 then (
          some ((45 : Int32), y1.2))
        else (
          some ((48 : Int32), y1.2)))
      else if x1 = (99 : Int32) then (
        (d_X3_failureByDepth o M).bind fun y2 =>
        okk (isCh y2.1) <|
        some (y2.1, y2.2))
      else if x1 = (103 : Int32) then (
        (d_X3_shapeFromTop o (1 : Int32) M).bind fun y3 =>
        (d_X7_has y3.1 x2 y3.2).bind fun y4 =>
        if y4.1 = 0 then (
          some ((102 : Int32), y4.2))
        else (
          some ((45 : Int32), y4.2)))
      else if x1 = (109 : Int32) then (
        (d_X3_classFromTop o M).bind fun y5 =>
        (d_X5_methodOf y5.1 x2 y5.2).bind fun y6 =>
        if y6.1 = (-1 : Int32) then (
          some ((109 : Int32), y6.2))
        else (
          (d_X3_failureByDepth o y6.2).bind fun y7 =>
          okk (isCh y7.1) <|
          some (y7.1, y7.2)))
      else if x1 = (110 : Int32) then (
        if (mI M o 10) < (60 : Int32) then (
          some ((45 : Int32), M))
        else (
          some ((111 : Int32), M)))
      else if x1 = (112 : Int32) then (
        (d_X3_shapeFromTop o (2 : Int32) M).bind fun y8 =>
        (d_X7_canPut y8.1 x2 y8.2).bind fun y9 =>
        if y9.1 = 0 then (
          some ((102 : Int32), y9.2))
        else (
          some ((45 : Int32), y9.2)))
      else if x1 = (119 : Int32) then (
        (d_X3_fromTop o (1 : Int32) M).bind fun y10 =>
        (d_X8_hasNearest o y10.1 y10.2).bind fun y11 =>
        if y11.1 = 0 then (
          some ((119 : Int32), y11.2))
        else (
          some ((45 : Int32), y11.2)))
      else (
        some ((45 : Int32), M))) := id rfl
theorem bq_X3_failureByValue {β : Type} (o : Nat) (x1 : Int32) (x2 : Int32) (M : Mem) (f : Int32 × Mem → Option β) : (d_X3_failureByValue o x1 x2 M).bind f = Option.bind (
      if x1 = (37 : Int32) ∨ x1 = (47 : Int32) then (
        (d_X3_dividesByZero o M).bind fun y1 =>
        if y1.1 = 0 then (
          some ((45 : Int32), y1.2))
        else (
          some ((48 : Int32), y1.2)))
      else if x1 = (99 : Int32) then (
        (d_X3_failureByDepth o M).bind fun y2 =>
        okk (isCh y2.1) <|
        some (y2.1, y2.2))
      else if x1 = (103 : Int32) then (
        (d_X3_shapeFromTop o (1 : Int32) M).bind fun y3 =>
        (d_X7_has y3.1 x2 y3.2).bind fun y4 =>
        if y4.1 = 0 then (
          some ((102 : Int32), y4.2))
        else (
          some ((45 : Int32), y4.2)))
      else if x1 = (109 : Int32) then (
        (d_X3_classFromTop o M).bind fun y5 =>
        (d_X5_methodOf y5.1 x2 y5.2).bind fun y6 =>
        if y6.1 = (-1 : Int32) then (
          some ((109 : Int32), y6.2))
        else (
          (d_X3_failureByDepth o y6.2).bind fun y7 =>
          okk (isCh y7.1) <|
          some (y7.1, y7.2)))
      else if x1 = (110 : Int32) then (
        if (mI M o 10) < (60 : Int32) then (
          some ((45 : Int32), M))
        else (
          some ((111 : Int32), M)))
      else if x1 = (112 : Int32) then (
        (d_X3_shapeFromTop o (2 : Int32) M).bind fun y8 =>
        (d_X7_canPut y8.1 x2 y8.2).bind fun y9 =>
        if y9.1 = 0 then (
          some ((102 : Int32), y9.2))
        else (
          some ((45 : Int32), y9.2)))
      else if x1 = (119 : Int32) then (
        (d_X3_fromTop o (1 : Int32) M).bind fun y10 =>
        (d_X8_hasNearest o y10.1 y10.2).bind fun y11 =>
        if y11.1 = 0 then (
          some ((119 : Int32), y11.2))
        else (
          some ((45 : Int32), y11.2)))
      else (
        some ((45 : Int32), M))) f := id rfl
theorem tq_X3_failureAhead (o : Nat) (M : Mem) : d_X3_failureAhead o M = (
      (d_X3_functionAhead o M).bind fun y1 =>
      (d_X3_indexAhead o y1.2).bind fun y2 =>
      (d_X5_hasCode y1.1 y2.1 y2.2).bind fun y3 =>
      if y3.1 = 0 then (
        some ((101 : Int32), y3.2))
      else (
        (d_X3_siteAhead o y3.2).bind fun y4 =>
        okk (vp_in y4.1 320) <|
        okk (isCh (mI y4.2 6 y4.1.toNatClampNeg)) <|
        bnd (sI y4.2 o 7 (mI y4.2 6 y4.1.toNatClampNeg)) fun M1 =>
        (d_X3_siteAhead o M1).bind fun y5 =>
        okk (vp_in y5.1 320) <|
        bnd (sI y5.2 o 8 (mI y5.2 7 y5.1.toNatClampNeg)) fun M2 =>
        (d_X3_failsByStack o (mI M2 o 7) (mI M2 o 8) M2).bind fun y6 =>
        if y6.1 = 0 then (
          (d_X3_failsByKind o (mI y6.2 o 7) y6.2).bind fun y7 =>
          if y7.1 = 0 then (
            (d_X3_failureByValue o (mI y7.2 o 7) (mI y7.2 o 8) y7.2).bind fun y8 =>
            okk (isCh y8.1) <|
            some (y8.1, y8.2))
          else (
            some ((107 : Int32), y7.2)))
        else (
          some ((115 : Int32), y6.2)))) := id rfl
theorem bq_X3_failureAhead {β : Type} (o : Nat) (M : Mem) (f : Int32 × Mem → Option β) : (d_X3_failureAhead o M).bind f = Option.bind (
      (d_X3_functionAhead o M).bind fun y1 =>
      (d_X3_indexAhead o y1.2).bind fun y2 =>
      (d_X5_hasCode y1.1 y2.1 y2.2).bind fun y3 =>
      if y3.1 = 0 then (
        some ((101 : Int32), y3.2))
      else (
        (d_X3_siteAhead o y3.2).bind fun y4 =>
        okk (vp_in y4.1 320) <|
        okk (isCh (mI y4.2 6 y4.1.toNatClampNeg)) <|
        bnd (sI y4.2 o 7 (mI y4.2 6 y4.1.toNatClampNeg)) fun M1 =>
        (d_X3_siteAhead o M1).bind fun y5 =>
        okk (vp_in y5.1 320) <|
        bnd (sI y5.2 o 8 (mI y5.2 7 y5.1.toNatClampNeg)) fun M2 =>
        (d_X3_failsByStack o (mI M2 o 7) (mI M2 o 8) M2).bind fun y6 =>
        if y6.1 = 0 then (
          (d_X3_failsByKind o (mI y6.2 o 7) y6.2).bind fun y7 =>
          if y7.1 = 0 then (
            (d_X3_failureByValue o (mI y7.2 o 7) (mI y7.2 o 8) y7.2).bind fun y8 =>
            okk (isCh y8.1) <|
            some (y8.1, y8.2))
          else (
            some ((107 : Int32), y7.2)))
        else (
          some ((115 : Int32), y6.2)))) f := id rfl
theorem tq_X3_pushPut (o : Nat) (x1 : Int32) (x2 : Int32) (M : Mem) : d_X3_pushPut o x1 x2 M = (
      okk (vp_in ((mI M o 9) - (1 : Int32)) 12) <|
      okk (vp_in ((mI M o 9) - (1 : Int32)) 12) <|
      bnd (sI M (o + 8) ((mI M o 9) - (1 : Int32)).toNatClampNeg ((mI M (o + 8) ((mI M o 9) - (1 : Int32)).toNatClampNeg) + (1 : Int32))) fun M1 =>
      (d_X3_fromTop o (1 : Int32) M1).bind fun y1 =>
      (d_X8_put o y1.1 x1 x2 y1.2).bind fun y2 =>
      some ((), y2.2)) := id rfl
theorem bq_X3_pushPut {β : Type} (o : Nat) (x1 : Int32) (x2 : Int32) (M : Mem) (f : Unit × Mem → Option β) : (d_X3_pushPut o x1 x2 M).bind f = Option.bind (
      okk (vp_in ((mI M o 9) - (1 : Int32)) 12) <|
      okk (vp_in ((mI M o 9) - (1 : Int32)) 12) <|
      bnd (sI M (o + 8) ((mI M o 9) - (1 : Int32)).toNatClampNeg ((mI M (o + 8) ((mI M o 9) - (1 : Int32)).toNatClampNeg) + (1 : Int32))) fun M1 =>
      (d_X3_fromTop o (1 : Int32) M1).bind fun y1 =>
      (d_X8_put o y1.1 x1 x2 y1.2).bind fun y2 =>
      some ((), y2.2)) f := id rfl
theorem tq_X3_failWith_45 (o : Nat) (x1 : Int32) (x2 : Int32) (M : Mem) : d_X3_failWith_45 o x1 x2 M = (
      if 0 ≤ x2 then (
        bnd (sI M o 9 (x2 + (1 : Int32))) fun M1 =>
        okk (vp_in x2 12) <|
        okk (vp_in (mI M1 (o + 6) x2.toNatClampNeg) 8) <|
        okk (vp_in x2 12) <|
        bnd (sI M1 (o + 7) x2.toNatClampNeg (mI M1 5 (mI M1 (o + 6) x2.toNatClampNeg).toNatClampNeg)) fun M2 =>
        okk (vp_in x2 12) <|
        bnd (sI M2 (o + 8) x2.toNatClampNeg (0 : Int32)) fun M3 =>
        (d_X3_pushPut o (105 : Int32) x1 M3).bind fun y1 =>
        some ((), y1.2))
      else (
        (d_X3_lineAhead o M).bind fun y2 =>
        (d_X3_endWith o x1 y2.1 y2.2).bind fun y3 =>
        some ((), y3.2))) := id rfl
theorem bq_X3_failWith_45 {β : Type} (o : Nat) (x1 : Int32) (x2 : Int32) (M : Mem) (f : Unit × Mem → Option β) : (d_X3_failWith_45 o x1 x2 M).bind f = Option.bind (
      if 0 ≤ x2 then (
        bnd (sI M o 9 (x2 + (1 : Int32))) fun M1 =>
        okk (vp_in x2 12) <|
        okk (vp_in (mI M1 (o + 6) x2.toNatClampNeg) 8) <|
        okk (vp_in x2 12) <|
        bnd (sI M1 (o + 7) x2.toNatClampNeg (mI M1 5 (mI M1 (o + 6) x2.toNatClampNeg).toNatClampNeg)) fun M2 =>
        okk (vp_in x2 12) <|
        bnd (sI M2 (o + 8) x2.toNatClampNeg (0 : Int32)) fun M3 =>
        (d_X3_pushPut o (105 : Int32) x1 M3).bind fun y1 =>
        some ((), y1.2))
      else (
        (d_X3_lineAhead o M).bind fun y2 =>
        (d_X3_endWith o x1 y2.1 y2.2).bind fun y3 =>
        some ((), y3.2))) f := id rfl
theorem tq_X3_failWith_17b (k17 : (Int32) → Mem → Option (Unit × Mem)) (o : Nat) (x1 : Int32) (x2 : Int32) (M : Mem) : d_X3_failWith_17b k17 o x1 x2 M = (
      if x2 < 0 then (
        d_X3_failWith_45 o x1 x2 M)
      else (
        okk (vp_in x2 12) <|
        okk (vp_in (mI M (o + 6) x2.toNatClampNeg) 8) <|
        if (mI M 5 (mI M (o + 6) x2.toNatClampNeg).toNatClampNeg) = (-1 : Int32) then (
          bnd ((x2 + (-1 : Int32))) fun b1 =>
          k17 (b1) M)
        else (
          d_X3_failWith_45 o x1 x2 M))) := id rfl
theorem bq_X3_failWith_17b {β : Type} (k17 : (Int32) → Mem → Option (Unit × Mem)) (o : Nat) (x1 : Int32) (x2 : Int32) (M : Mem) (f : Unit × Mem → Option β) : (d_X3_failWith_17b k17 o x1 x2 M).bind f = Option.bind (
      if x2 < 0 then (
        d_X3_failWith_45 o x1 x2 M)
      else (
        okk (vp_in x2 12) <|
        okk (vp_in (mI M (o + 6) x2.toNatClampNeg) 8) <|
        if (mI M 5 (mI M (o + 6) x2.toNatClampNeg).toNatClampNeg) = (-1 : Int32) then (
          bnd ((x2 + (-1 : Int32))) fun b1 =>
          k17 (b1) M)
        else (
          d_X3_failWith_45 o x1 x2 M))) f := id rfl
theorem tq_X3_failWith (o : Nat) (x1 : Int32) (M : Mem) : d_X3_failWith o x1 M = (
      bnd (sI M o 12 ((mI M o 12) + (1 : Int32))) fun M1 =>
      bnd (((mI M1 o 9) - (1 : Int32))) fun b1 =>
      d_X3_failWith_17 o x1 fuel (b1) M1) := id rfl
theorem bq_X3_failWith {β : Type} (o : Nat) (x1 : Int32) (M : Mem) (f : Unit × Mem → Option β) : (d_X3_failWith o x1 M).bind f = Option.bind (
      bnd (sI M o 12 ((mI M o 12) + (1 : Int32))) fun M1 =>
      bnd (((mI M1 o 9) - (1 : Int32))) fun b1 =>
      d_X3_failWith_17 o x1 fuel (b1) M1) f := id rfl
theorem tq_X3_take (o : Nat) (M : Mem) : d_X3_take o M = (
      okk (vp_in ((mI M o 9) - (1 : Int32)) 12) <|
      okk (vp_in ((mI M o 9) - (1 : Int32)) 12) <|
      bnd (sI M (o + 8) ((mI M o 9) - (1 : Int32)).toNatClampNeg ((mI M (o + 8) ((mI M o 9) - (1 : Int32)).toNatClampNeg) - (1 : Int32))) fun M1 =>
      (d_X3_fromTop o (0 : Int32) M1).bind fun y1 =>
      some (y1.1, y1.2)) := id rfl
theorem bq_X3_take {β : Type} (o : Nat) (M : Mem) (f : Int32 × Mem → Option β) : (d_X3_take o M).bind f = Option.bind (
      okk (vp_in ((mI M o 9) - (1 : Int32)) 12) <|
      okk (vp_in ((mI M o 9) - (1 : Int32)) 12) <|
      bnd (sI M (o + 8) ((mI M o 9) - (1 : Int32)).toNatClampNeg ((mI M (o + 8) ((mI M o 9) - (1 : Int32)).toNatClampNeg) - (1 : Int32))) fun M1 =>
      (d_X3_fromTop o (0 : Int32) M1).bind fun y1 =>
      some (y1.1, y1.2)) f := id rfl
theorem tq_X8_isNull (o : Nat) (x1 : Int32) (M : Mem) : d_X8_isNull o x1 M = (
      okk (vp_in x1 549) <|
      bnd ((mI M (o + 2) x1.toNatClampNeg)) fun b1 =>
      if b1 = (102 : Int32) then (
        (d_X8_isUndefined o x1 M).bind fun y1 =>
        if y1.1 = 0 then (
          okk (vp_in x1 549) <|
          if (Op.cmpValue (FP.dcmp (mD y1.2 (o + 4) x1.toNatClampNeg) FP.dconst0) .l) = 0 then (
            some ((1 : Int32), y1.2))
          else (
            some ((0 : Int32), y1.2)))
        else (
          some ((0 : Int32), y1.2)))
      else if b1 = (105 : Int32) then (
        okk (vp_in x1 549) <|
        if (mI M (o + 3) x1.toNatClampNeg) = 0 then (
          some ((1 : Int32), M))
        else (
          some ((0 : Int32), M)))
      else (
        okk (vp_in x1 549) <|
        if (mI M (o + 2) x1.toNatClampNeg) = (110 : Int32) then (
          some ((1 : Int32), M))
        else (
          some ((0 : Int32), M)))) := id rfl
theorem bq_X8_isNull {β : Type} (o : Nat) (x1 : Int32) (M : Mem) (f : Int32 × Mem → Option β) : (d_X8_isNull o x1 M).bind f = Option.bind (
      okk (vp_in x1 549) <|
      bnd ((mI M (o + 2) x1.toNatClampNeg)) fun b1 =>
      if b1 = (102 : Int32) then (
        (d_X8_isUndefined o x1 M).bind fun y1 =>
        if y1.1 = 0 then (
          okk (vp_in x1 549) <|
          if (Op.cmpValue (FP.dcmp (mD y1.2 (o + 4) x1.toNatClampNeg) FP.dconst0) .l) = 0 then (
            some ((1 : Int32), y1.2))
          else (
            some ((0 : Int32), y1.2)))
        else (
          some ((0 : Int32), y1.2)))
      else if b1 = (105 : Int32) then (
        okk (vp_in x1 549) <|
        if (mI M (o + 3) x1.toNatClampNeg) = 0 then (
          some ((1 : Int32), M))
        else (
          some ((0 : Int32), M)))
      else (
        okk (vp_in x1 549) <|
        if (mI M (o + 2) x1.toNatClampNeg) = (110 : Int32) then (
          some ((1 : Int32), M))
        else (
          some ((0 : Int32), M)))) f := id rfl
theorem tq_X3_jumpsAtNull (o : Nat) (x1 : Int32) (x2 : Int32) (M : Mem) : d_X3_jumpsAtNull o x1 x2 M = (
      (d_X3_take o M).bind fun y1 =>
      (d_X8_isNull o y1.1 y1.2).bind fun y2 =>
      if y2.1 = 0 then (
        some ((0 : Int32), y2.2))
      else (
        okk (vp_in ((mI y2.2 o 9) - (1 : Int32)) 12) <|
        bnd (sI y2.2 (o + 7) ((mI y2.2 o 9) - (1 : Int32)).toNatClampNeg x1) fun M1 =>
        if x2 < x1 then (
          some ((0 : Int32), M1))
        else (
          some ((1 : Int32), M1)))) := id rfl
theorem bq_X3_jumpsAtNull {β : Type} (o : Nat) (x1 : Int32) (x2 : Int32) (M : Mem) (f : Int32 × Mem → Option β) : (d_X3_jumpsAtNull o x1 x2 M).bind f = Option.bind (
      (d_X3_take o M).bind fun y1 =>
      (d_X8_isNull o y1.1 y1.2).bind fun y2 =>
      if y2.1 = 0 then (
        some ((0 : Int32), y2.2))
      else (
        okk (vp_in ((mI y2.2 o 9) - (1 : Int32)) 12) <|
        bnd (sI y2.2 (o + 7) ((mI y2.2 o 9) - (1 : Int32)).toNatClampNeg x1) fun M1 =>
        if x2 < x1 then (
          some ((0 : Int32), M1))
        else (
          some ((1 : Int32), M1)))) f := id rfl
theorem tq_X8_move (o : Nat) (x1 : Int32) (x2 : Int32) (M : Mem) : d_X8_move o x1 x2 M = (
      okk (vp_in x1 549) <|
      okk (vp_in x2 549) <|
      okk (isCh (mI M (o + 2) x1.toNatClampNeg)) <|
      bnd (sI M (o + 2) x2.toNatClampNeg (mI M (o + 2) x1.toNatClampNeg)) fun M1 =>
      okk (vp_in x1 549) <|
      okk (vp_in x2 549) <|
      bnd (sI M1 (o + 3) x2.toNatClampNeg (mI M1 (o + 3) x1.toNatClampNeg)) fun M2 =>
      okk (vp_in x1 549) <|
      okk (vp_in x2 549) <|
      bnd (sD M2 (o + 4) x2.toNatClampNeg (mD M2 (o + 4) x1.toNatClampNeg)) fun M3 =>
      okk (vp_in x1 549) <|
      okk (vp_in x2 549) <|
      bnd (sI M3 (o + 5) x2.toNatClampNeg (mI M3 (o + 5) x1.toNatClampNeg)) fun M4 =>
      some ((), M4)) := id rfl
theorem bq_X8_move {β : Type} (o : Nat) (x1 : Int32) (x2 : Int32) (M : Mem) (f : Unit × Mem → Option β) : (d_X8_move o x1 x2 M).bind f = Option.bind (
      okk (vp_in x1 549) <|
      okk (vp_in x2 549) <|
      okk (isCh (mI M (o + 2) x1.toNatClampNeg)) <|
      bnd (sI M (o + 2) x2.toNatClampNeg (mI M (o + 2) x1.toNatClampNeg)) fun M1 =>
      okk (vp_in x1 549) <|
      okk (vp_in x2 549) <|
      bnd (sI M1 (o + 3) x2.toNatClampNeg (mI M1 (o + 3) x1.toNatClampNeg)) fun M2 =>
      okk (vp_in x1 549) <|
      okk (vp_in x2 549) <|
      bnd (sD M2 (o + 4) x2.toNatClampNeg (mD M2 (o + 4) x1.toNatClampNeg)) fun M3 =>
      okk (vp_in x1 549) <|
      okk (vp_in x2 549) <|
      bnd (sI M3 (o + 5) x2.toNatClampNeg (mI M3 (o + 5) x1.toNatClampNeg)) fun M4 =>
      some ((), M4)) f := id rfl
theorem tq_X3_call_25b (k25 : (Int32) → Mem → Option (Unit × Mem)) (o : Nat) (x2 : Int32) (x3 : Int32) (x4 : Int32) (M : Mem) : d_X3_call_25b k25 o x2 x3 x4 M = (
      if x2 ≤ x4 then (
        some ((), M))
      else (
        okk (vp_in x3 12) <|
        (d_X11_localPlace (x3 + (1 : Int32)) x4 M).bind fun y1 =>
        (d_X8_move o ((((x3 * (14 : Int32)) + (6 : Int32)) + (mI M (o + 8) x3.toNatClampNeg)) + x4) y1.1 y1.2).bind fun y2 =>
        bnd ((x4 + (1 : Int32))) fun b1 =>
        k25 (b1) y2.2)) := id rfl
theorem bq_X3_call_25b {β : Type} (k25 : (Int32) → Mem → Option (Unit × Mem)) (o : Nat) (x2 : Int32) (x3 : Int32) (x4 : Int32) (M : Mem) (f : Unit × Mem → Option β) : (d_X3_call_25b k25 o x2 x3 x4 M).bind f = Option.bind (
      if x2 ≤ x4 then (
        some ((), M))
      else (
        okk (vp_in x3 12) <|
        (d_X11_localPlace (x3 + (1 : Int32)) x4 M).bind fun y1 =>
        (d_X8_move o ((((x3 * (14 : Int32)) + (6 : Int32)) + (mI M (o + 8) x3.toNatClampNeg)) + x4) y1.1 y1.2).bind fun y2 =>
        bnd ((x4 + (1 : Int32))) fun b1 =>
        k25 (b1) y2.2)) f := id rfl
theorem tq_X3_call (o : Nat) (x1 : Int32) (x2 : Int32) (M : Mem) : d_X3_call o x1 x2 M = (
      bnd (((mI M o 9) - (1 : Int32))) fun b1 =>
      okk (vp_in b1 12) <|
      okk (vp_in b1 12) <|
      bnd (sI M (o + 8) b1.toNatClampNeg ((mI M (o + 8) b1.toNatClampNeg) - x2)) fun M1 =>
      (d_X3_addFrame o x1 M1).bind fun y1 =>
      d_X3_call_25 o x2 b1 fuel ((0 : Int32)) y1.2) := id rfl
theorem bq_X3_call {β : Type} (o : Nat) (x1 : Int32) (x2 : Int32) (M : Mem) (f : Unit × Mem → Option β) : (d_X3_call o x1 x2 M).bind f = Option.bind (
      bnd (((mI M o 9) - (1 : Int32))) fun b1 =>
      okk (vp_in b1 12) <|
      okk (vp_in b1 12) <|
      bnd (sI M (o + 8) b1.toNatClampNeg ((mI M (o + 8) b1.toNatClampNeg) - x2)) fun M1 =>
      (d_X3_addFrame o x1 M1).bind fun y1 =>
      d_X3_call_25 o x2 b1 fuel ((0 : Int32)) y1.2) f := id rfl
theorem tq_X3_pushMoved (o : Nat) (x1 : Int32) (M : Mem) : d_X3_pushMoved o x1 M = (
      okk (vp_in ((mI M o 9) - (1 : Int32)) 12) <|
      okk (vp_in ((mI M o 9) - (1 : Int32)) 12) <|
      bnd (sI M (o + 8) ((mI M o 9) - (1 : Int32)).toNatClampNeg ((mI M (o + 8) ((mI M o 9) - (1 : Int32)).toNatClampNeg) + (1 : Int32))) fun M1 =>
      (d_X3_fromTop o (1 : Int32) M1).bind fun y1 =>
      (d_X8_move o x1 y1.1 y1.2).bind fun y2 =>
      some ((), y2.2)) := id rfl
theorem bq_X3_pushMoved {β : Type} (o : Nat) (x1 : Int32) (M : Mem) (f : Unit × Mem → Option β) : (d_X3_pushMoved o x1 M).bind f = Option.bind (
      okk (vp_in ((mI M o 9) - (1 : Int32)) 12) <|
      okk (vp_in ((mI M o 9) - (1 : Int32)) 12) <|
      bnd (sI M (o + 8) ((mI M o 9) - (1 : Int32)).toNatClampNeg ((mI M (o + 8) ((mI M o 9) - (1 : Int32)).toNatClampNeg) + (1 : Int32))) fun M1 =>
      (d_X3_fromTop o (1 : Int32) M1).bind fun y1 =>
      (d_X8_move o x1 y1.1 y1.2).bind fun y2 =>
      some ((), y2.2)) f := id rfl
theorem tq_X3_giveBack (o : Nat) (M : Mem) : d_X3_giveBack o M = (
      (d_X3_take o M).bind fun y1 =>
      bnd (sI y1.2 o 9 ((mI y1.2 o 9) - (1 : Int32))) fun M1 =>
      if (mI M1 o 9) = 0 then (
        (d_X8_move o y1.1 (548 : Int32) M1).bind fun y3 =>
        bnd (sI y3.2 o 13 (118 : Int32)) fun M2 =>
        some ((), M2))
      else (
        (d_X3_pushMoved o y1.1 M1).bind fun y2 =>
        some ((), y2.2))) := id rfl
theorem bq_X3_giveBack {β : Type} (o : Nat) (M : Mem) (f : Unit × Mem → Option β) : (d_X3_giveBack o M).bind f = Option.bind (
      (d_X3_take o M).bind fun y1 =>
      bnd (sI y1.2 o 9 ((mI y1.2 o 9) - (1 : Int32))) fun M1 =>
      if (mI M1 o 9) = 0 then (
        (d_X8_move o y1.1 (548 : Int32) M1).bind fun y3 =>
        bnd (sI y3.2 o 13 (118 : Int32)) fun M2 =>
        some ((), M2))
      else (
        (d_X3_pushMoved o y1.1 M1).bind fun y2 =>
        some ((), y2.2))) f := id rfl
theorem tq_X11_fieldPlace (x0 : Int32) (x1 : Int32) (M : Mem) : d_X11_fieldPlace x0 x1 M = (
      some ((((168 : Int32) + (x0 * (6 : Int32))) + x1), M)) := id rfl
theorem bq_X11_fieldPlace {β : Type} (x0 : Int32) (x1 : Int32) (M : Mem) (f : Int32 × Mem → Option β) : (d_X11_fieldPlace x0 x1 M).bind f = Option.bind (
      some ((((168 : Int32) + (x0 * (6 : Int32))) + x1), M)) f := id rfl
theorem tq_X7_addEmpty_28b (k28 : (Int32) → Mem → Option (Int32 × Mem)) (x2 : Int32) (x3 : Int32) (M : Mem) : d_X7_addEmpty_28b k28 x2 x3 M = (
      if (6 : Int32) ≤ x3 then (
        bnd (sI M 11 6 ((mI M 11 6) + (1 : Int32))) fun M1 =>
        some (x2, M1))
      else (
        okk (vp_in ((x2 * (6 : Int32)) + x3) 360) <|
        bnd (sI M 16 ((x2 * (6 : Int32)) + x3).toNatClampNeg (-1 : Int32)) fun M2 =>
        bnd ((x3 + (1 : Int32))) fun b1 =>
        k28 (b1) M2)) := id rfl
theorem bq_X7_addEmpty_28b {β : Type} (k28 : (Int32) → Mem → Option (Int32 × Mem)) (x2 : Int32) (x3 : Int32) (M : Mem) (f : Int32 × Mem → Option β) : (d_X7_addEmpty_28b k28 x2 x3 M).bind f = Option.bind (
      if (6 : Int32) ≤ x3 then (
        bnd (sI M 11 6 ((mI M 11 6) + (1 : Int32))) fun M1 =>
        some (x2, M1))
      else (
        okk (vp_in ((x2 * (6 : Int32)) + x3) 360) <|
        bnd (sI M 16 ((x2 * (6 : Int32)) + x3).toNatClampNeg (-1 : Int32)) fun M2 =>
        bnd ((x3 + (1 : Int32))) fun b1 =>
        k28 (b1) M2)) f := id rfl
theorem tq_X7_addEmpty (x1 : Int32) (M : Mem) : d_X7_addEmpty x1 M = (
      bnd ((mI M 11 6)) fun b1 =>
      okk (vp_in b1 60) <|
      bnd (sI M 12 b1.toNatClampNeg x1) fun M1 =>
      okk (vp_in b1 60) <|
      bnd (sI M1 13 b1.toNatClampNeg (0 : Int32)) fun M2 =>
      okk (vp_in b1 60) <|
      bnd (sI M2 14 b1.toNatClampNeg (0 : Int32)) fun M3 =>
      d_X7_addEmpty_28 b1 fuel ((0 : Int32)) M3) := id rfl
theorem bq_X7_addEmpty {β : Type} (x1 : Int32) (M : Mem) (f : Int32 × Mem → Option β) : (d_X7_addEmpty x1 M).bind f = Option.bind (
      bnd ((mI M 11 6)) fun b1 =>
      okk (vp_in b1 60) <|
      bnd (sI M 12 b1.toNatClampNeg x1) fun M1 =>
      okk (vp_in b1 60) <|
      bnd (sI M1 13 b1.toNatClampNeg (0 : Int32)) fun M2 =>
      okk (vp_in b1 60) <|
      bnd (sI M2 14 b1.toNatClampNeg (0 : Int32)) fun M3 =>
      d_X7_addEmpty_28 b1 fuel ((0 : Int32)) M3) f := id rfl
theorem tq_X7_addLonger_14b (k14 : (Int32) → Mem → Option (Int32 × Mem)) (x1 : Int32) (x2 : Int32) (x3 : Int32) (x4 : Int32) (M : Mem) : d_X7_addLonger_14b k14 x1 x2 x3 x4 M = (
      okk (vp_in x1 60) <|
      if (mI M 13 x1.toNatClampNeg) ≤ x4 then (
        okk (vp_in x1 60) <|
        okk (vp_in ((x3 * (6 : Int32)) + (mI M 13 x1.toNatClampNeg)) 360) <|
        bnd (sI M 15 ((x3 * (6 : Int32)) + (mI M 13 x1.toNatClampNeg)).toNatClampNeg x2) fun M1 =>
        okk (vp_in x1 60) <|
        okk (vp_in x3 60) <|
        bnd (sI M1 13 x3.toNatClampNeg ((mI M1 13 x1.toNatClampNeg) + (1 : Int32))) fun M2 =>
        okk (vp_in x1 60) <|
        okk (vp_in x3 60) <|
        bnd (sI M2 14 x3.toNatClampNeg ((mI M2 14 x1.toNatClampNeg) ||| ((1 : Int32) <<< (x2 &&& 31)))) fun M3 =>
        some (x3, M3))
      else (
        okk (vp_in ((x1 * (6 : Int32)) + x4) 360) <|
        okk (vp_in ((x3 * (6 : Int32)) + x4) 360) <|
        bnd (sI M 15 ((x3 * (6 : Int32)) + x4).toNatClampNeg (mI M 15 ((x1 * (6 : Int32)) + x4).toNatClampNeg)) fun M4 =>
        bnd ((x4 + (1 : Int32))) fun b1 =>
        k14 (b1) M4)) := id rfl
theorem bq_X7_addLonger_14b {β : Type} (k14 : (Int32) → Mem → Option (Int32 × Mem)) (x1 : Int32) (x2 : Int32) (x3 : Int32) (x4 : Int32) (M : Mem) (f : Int32 × Mem → Option β) : (d_X7_addLonger_14b k14 x1 x2 x3 x4 M).bind f = Option.bind (
      okk (vp_in x1 60) <|
      if (mI M 13 x1.toNatClampNeg) ≤ x4 then (
        okk (vp_in x1 60) <|
        okk (vp_in ((x3 * (6 : Int32)) + (mI M 13 x1.toNatClampNeg)) 360) <|
        bnd (sI M 15 ((x3 * (6 : Int32)) + (mI M 13 x1.toNatClampNeg)).toNatClampNeg x2) fun M1 =>
        okk (vp_in x1 60) <|
        okk (vp_in x3 60) <|
        bnd (sI M1 13 x3.toNatClampNeg ((mI M1 13 x1.toNatClampNeg) + (1 : Int32))) fun M2 =>
        okk (vp_in x1 60) <|
        okk (vp_in x3 60) <|
        bnd (sI M2 14 x3.toNatClampNeg ((mI M2 14 x1.toNatClampNeg) ||| ((1 : Int32) <<< (x2 &&& 31)))) fun M3 =>
        some (x3, M3))
      else (
        okk (vp_in ((x1 * (6 : Int32)) + x4) 360) <|
        okk (vp_in ((x3 * (6 : Int32)) + x4) 360) <|
        bnd (sI M 15 ((x3 * (6 : Int32)) + x4).toNatClampNeg (mI M 15 ((x1 * (6 : Int32)) + x4).toNatClampNeg)) fun M4 =>
        bnd ((x4 + (1 : Int32))) fun b1 =>
        k14 (b1) M4)) f := id rfl
theorem tq_X7_addLonger (x1 : Int32) (x2 : Int32) (M : Mem) : d_X7_addLonger x1 x2 M = (
      okk (vp_in x1 60) <|
      (d_X7_addEmpty (mI M 12 x1.toNatClampNeg) M).bind fun y1 =>
      d_X7_addLonger_14 x1 x2 y1.1 fuel ((0 : Int32)) y1.2) := id rfl
theorem bq_X7_addLonger {β : Type} (x1 : Int32) (x2 : Int32) (M : Mem) (f : Int32 × Mem → Option β) : (d_X7_addLonger x1 x2 M).bind f = Option.bind (
      okk (vp_in x1 60) <|
      (d_X7_addEmpty (mI M 12 x1.toNatClampNeg) M).bind fun y1 =>
      d_X7_addLonger_14 x1 x2 y1.1 fuel ((0 : Int32)) y1.2) f := id rfl
theorem tq_X7_behindPut_43 (x1 : Int32) (x2 : Int32) (M : Mem) : d_X7_behindPut_43 x1 x2 M = (
      okk (vp_in ((x1 * (6 : Int32)) + x2) 360) <|
      some ((mI M 16 ((x1 * (6 : Int32)) + x2).toNatClampNeg), M)) := id rfl
theorem bq_X7_behindPut_43 {β : Type} (x1 : Int32) (x2 : Int32) (M : Mem) (f : Int32 × Mem → Option β) : (d_X7_behindPut_43 x1 x2 M).bind f = Option.bind (
      okk (vp_in ((x1 * (6 : Int32)) + x2) 360) <|
      some ((mI M 16 ((x1 * (6 : Int32)) + x2).toNatClampNeg), M)) f := id rfl
theorem tq_X7_behindPut (x1 : Int32) (x2 : Int32) (M : Mem) : d_X7_behindPut x1 x2 M = (
      (d_X7_has x1 x2 M).bind fun y1 =>
      if y1.1 = 0 then (
        okk (vp_in ((x1 * (6 : Int32)) + x2) 360) <|
        if (mI y1.2 16 ((x1 * (6 : Int32)) + x2).toNatClampNeg) = (-1 : Int32) then (
          (d_X7_addLonger x1 x2 y1.2).bind fun y2 =>
          okk (vp_in ((x1 * (6 : Int32)) + x2) 360) <|
          bnd (sI y2.2 16 ((x1 * (6 : Int32)) + x2).toNatClampNeg y2.1) fun M1 =>
          d_X7_behindPut_43 x1 x2 M1)
        else (
          d_X7_behindPut_43 x1 x2 y1.2))
      else (
        some (x1, y1.2))) := id rfl
theorem bq_X7_behindPut {β : Type} (x1 : Int32) (x2 : Int32) (M : Mem) (f : Int32 × Mem → Option β) : (d_X7_behindPut x1 x2 M).bind f = Option.bind (
      (d_X7_has x1 x2 M).bind fun y1 =>
      if y1.1 = 0 then (
        okk (vp_in ((x1 * (6 : Int32)) + x2) 360) <|
        if (mI y1.2 16 ((x1 * (6 : Int32)) + x2).toNatClampNeg) = (-1 : Int32) then (
          (d_X7_addLonger x1 x2 y1.2).bind fun y2 =>
          okk (vp_in ((x1 * (6 : Int32)) + x2) 360) <|
          bnd (sI y2.2 16 ((x1 * (6 : Int32)) + x2).toNatClampNeg y2.1) fun M1 =>
          d_X7_behindPut_43 x1 x2 M1)
        else (
          d_X7_behindPut_43 x1 x2 y1.2))
      else (
        some (x1, y1.2))) f := id rfl
theorem tq_X3_useObject (o : Nat) (x1 : Int32) (x2 : Int32) (M : Mem) : d_X3_useObject o x1 x2 M = (
      if x1 = (110 : Int32) then (
        okk (vp_in x2 5) <|
        okk (vp_in (mI M o 10) 60) <|
        bnd (sI M (o + 9) (mI M o 10).toNatClampNeg (mI M 17 x2.toNatClampNeg)) fun M2 =>
        (d_X3_pushPut o (111 : Int32) (mI M2 o 10) M2).bind fun y10 =>
        bnd (sI y10.2 o 10 ((mI y10.2 o 10) + (1 : Int32))) fun M3 =>
        some ((), M3))
      else (
        if x1 = (103 : Int32) then (
          (d_X3_fromTop o (1 : Int32) M).bind fun y6 =>
          okk (vp_in y6.1 549) <|
          (d_X11_fieldPlace (mI y6.2 (o + 3) y6.1.toNatClampNeg) x2 y6.2).bind fun y7 =>
          (d_X3_fromTop o (1 : Int32) y7.2).bind fun y8 =>
          (d_X8_move o y7.1 y8.1 y8.2).bind fun y9 =>
          some ((), y9.2))
        else (
          (d_X3_take o M).bind fun y1 =>
          (d_X3_take o y1.2).bind fun y2 =>
          okk (vp_in y2.1 549) <|
          bnd ((mI y2.2 (o + 3) y2.1.toNatClampNeg)) fun b1 =>
          okk (vp_in b1 60) <|
          (d_X7_behindPut (mI y2.2 (o + 9) b1.toNatClampNeg) x2 y2.2).bind fun y3 =>
          okk (vp_in b1 60) <|
          bnd (sI y3.2 (o + 9) b1.toNatClampNeg y3.1) fun M1 =>
          (d_X11_fieldPlace b1 x2 M1).bind fun y4 =>
          (d_X8_move o y1.1 y4.1 y4.2).bind fun y5 =>
          some ((), y5.2)))) := id rfl
theorem bq_X3_useObject {β : Type} (o : Nat) (x1 : Int32) (x2 : Int32) (M : Mem) (f : Unit × Mem → Option β) : (d_X3_useObject o x1 x2 M).bind f = Option.bind (
      if x1 = (110 : Int32) then (
        okk (vp_in x2 5) <|
        okk (vp_in (mI M o 10) 60) <|
        bnd (sI M (o + 9) (mI M o 10).toNatClampNeg (mI M 17 x2.toNatClampNeg)) fun M2 =>
        (d_X3_pushPut o (111 : Int32) (mI M2 o 10) M2).bind fun y10 =>
        bnd (sI y10.2 o 10 ((mI y10.2 o 10) + (1 : Int32))) fun M3 =>
        some ((), M3))
      else (
        if x1 = (103 : Int32) then (
          (d_X3_fromTop o (1 : Int32) M).bind fun y6 =>
          okk (vp_in y6.1 549) <|
          (d_X11_fieldPlace (mI y6.2 (o + 3) y6.1.toNatClampNeg) x2 y6.2).bind fun y7 =>
          (d_X3_fromTop o (1 : Int32) y7.2).bind fun y8 =>
          (d_X8_move o y7.1 y8.1 y8.2).bind fun y9 =>
          some ((), y9.2))
        else (
          (d_X3_take o M).bind fun y1 =>
          (d_X3_take o y1.2).bind fun y2 =>
          okk (vp_in y2.1 549) <|
          bnd ((mI y2.2 (o + 3) y2.1.toNatClampNeg)) fun b1 =>
          okk (vp_in b1 60) <|
          (d_X7_behindPut (mI y2.2 (o + 9) b1.toNatClampNeg) x2 y2.2).bind fun y3 =>
          okk (vp_in b1 60) <|
          bnd (sI y3.2 (o + 9) b1.toNatClampNeg y3.1) fun M1 =>
          (d_X11_fieldPlace b1 x2 M1).bind fun y4 =>
          (d_X8_move o y1.1 y4.1 y4.2).bind fun y5 =>
          some ((), y5.2)))) f := id rfl
theorem tq_X3_tell (o : Nat) (x1 : Int32) (M : Mem) : d_X3_tell o x1 M = (
      if (20 : Int32) ≤ (mI M o 11) then (
        some ((), M))
      else (
        (d_X8_move o x1 ((528 : Int32) + (mI M o 11)) M).bind fun y1 =>
        bnd (sI y1.2 o 11 ((mI y1.2 o 11) + (1 : Int32))) fun M1 =>
        some ((), M1))) := id rfl
theorem bq_X3_tell {β : Type} (o : Nat) (x1 : Int32) (M : Mem) (f : Unit × Mem → Option β) : (d_X3_tell o x1 M).bind f = Option.bind (
      if (20 : Int32) ≤ (mI M o 11) then (
        some ((), M))
      else (
        (d_X8_move o x1 ((528 : Int32) + (mI M o 11)) M).bind fun y1 =>
        bnd (sI y1.2 o 11 ((mI y1.2 o 11) + (1 : Int32))) fun M1 =>
        some ((), M1))) f := id rfl
theorem tq_X4_nearest_47 (x2 : Int64) (M : Mem) : d_X4_nearest_47 x2 M = (
      bnd ((x2 + (1 : Int64))) fun b1 =>
      some ((b1.toInt32), M)) := id rfl
theorem bq_X4_nearest_47 {β : Type} (x2 : Int64) (M : Mem) (f : Int32 × Mem → Option β) : (d_X4_nearest_47 x2 M).bind f = Option.bind (
      bnd ((x2 + (1 : Int64))) fun b1 =>
      some ((b1.toInt32), M)) f := id rfl
theorem tq_X4_nearest_77 (x2 : Int64) (M : Mem) : d_X4_nearest_77 x2 M = (
      bnd ((x2 - (1 : Int64))) fun b1 =>
      some ((b1.toInt32), M)) := id rfl
theorem bq_X4_nearest_77 {β : Type} (x2 : Int64) (M : Mem) (f : Int32 × Mem → Option β) : (d_X4_nearest_77 x2 M).bind f = Option.bind (
      bnd ((x2 - (1 : Int64))) fun b1 =>
      some ((b1.toInt32), M)) f := id rfl
theorem tq_X4_nearest_54 (x2 : Int64) (x4 : UInt64) (x6 : Int32) (M : Mem) : d_X4_nearest_54 x2 x4 x6 M = (
      if (Op.cmpValue (FP.dcmp x4 (13826050856027422720 : UInt64)) .g) < 0 then (
        d_X4_nearest_77 x2 M)
      else (
        if (Op.cmpValue (FP.dcmp x4 (13826050856027422720 : UInt64)) .l) = 0 then (
          if x6 = 0 then (
            some ((x2.toInt32), M))
          else (
            d_X4_nearest_77 x2 M))
        else (
          some ((x2.toInt32), M)))) := id rfl
theorem bq_X4_nearest_54 {β : Type} (x2 : Int64) (x4 : UInt64) (x6 : Int32) (M : Mem) (f : Int32 × Mem → Option β) : (d_X4_nearest_54 x2 x4 x6 M).bind f = Option.bind (
      if (Op.cmpValue (FP.dcmp x4 (13826050856027422720 : UInt64)) .g) < 0 then (
        d_X4_nearest_77 x2 M)
      else (
        if (Op.cmpValue (FP.dcmp x4 (13826050856027422720 : UInt64)) .l) = 0 then (
          if x6 = 0 then (
            some ((x2.toInt32), M))
          else (
            d_X4_nearest_77 x2 M))
        else (
          some ((x2.toInt32), M)))) f := id rfl
theorem tq_X4_nearest_22 (x2 : Int64) (x4 : UInt64) (s0 : Int32) (M : Mem) : d_X4_nearest_22 x2 x4 s0 M = (
      if 0 < (Op.cmpValue (FP.dcmp x4 (4602678819172646912 : UInt64)) .l) then (
        d_X4_nearest_47 x2 M)
      else (
        if (Op.cmpValue (FP.dcmp x4 (4602678819172646912 : UInt64)) .l) = 0 then (
          if s0 = 0 then (
            d_X4_nearest_54 x2 x4 s0 M)
          else (
            d_X4_nearest_47 x2 M))
        else (
          d_X4_nearest_54 x2 x4 s0 M))) := id rfl
theorem bq_X4_nearest_22 {β : Type} (x2 : Int64) (x4 : UInt64) (s0 : Int32) (M : Mem) (f : Int32 × Mem → Option β) : (d_X4_nearest_22 x2 x4 s0 M).bind f = Option.bind (
      if 0 < (Op.cmpValue (FP.dcmp x4 (4602678819172646912 : UInt64)) .l) then (
        d_X4_nearest_47 x2 M)
      else (
        if (Op.cmpValue (FP.dcmp x4 (4602678819172646912 : UInt64)) .l) = 0 then (
          if s0 = 0 then (
            d_X4_nearest_54 x2 x4 s0 M)
          else (
            d_X4_nearest_47 x2 M))
        else (
          d_X4_nearest_54 x2 x4 s0 M))) f := id rfl
theorem tq_X4_nearest (x0 : UInt64) (M : Mem) : d_X4_nearest x0 M = (
      bnd ((FP.d2l x0)) fun b1 =>
      bnd ((FP.dsub x0 (FP.l2d b1))) fun b2 =>
      if (lg_cmp (b1 &&& (1 : Int64)) (0 : Int64)) = 0 then (
        d_X4_nearest_22 b1 b2 (0 : Int32) M)
      else (
        d_X4_nearest_22 b1 b2 (1 : Int32) M)) := id rfl
theorem bq_X4_nearest {β : Type} (x0 : UInt64) (M : Mem) (f : Int32 × Mem → Option β) : (d_X4_nearest x0 M).bind f = Option.bind (
      bnd ((FP.d2l x0)) fun b1 =>
      bnd ((FP.dsub x0 (FP.l2d b1))) fun b2 =>
      if (lg_cmp (b1 &&& (1 : Int64)) (0 : Int64)) = 0 then (
        d_X4_nearest_22 b1 b2 (0 : Int32) M)
      else (
        d_X4_nearest_22 b1 b2 (1 : Int32) M)) f := id rfl
theorem tq_X8_round (o : Nat) (x1 : Int32) (M : Mem) : d_X8_round o x1 M = (
      okk (vp_in x1 549) <|
      if (mI M (o + 2) x1.toNatClampNeg) = (102 : Int32) then (
        okk (vp_in x1 549) <|
        (d_X4_nearest (mD M (o + 4) x1.toNatClampNeg) M).bind fun y1 =>
        (d_X8_put o x1 (105 : Int32) y1.1 y1.2).bind fun y2 =>
        some ((), y2.2))
      else (
        some ((), M))) := id rfl
theorem bq_X8_round {β : Type} (o : Nat) (x1 : Int32) (M : Mem) (f : Unit × Mem → Option β) : (d_X8_round o x1 M).bind f = Option.bind (
      okk (vp_in x1 549) <|
      if (mI M (o + 2) x1.toNatClampNeg) = (102 : Int32) then (
        okk (vp_in x1 549) <|
        (d_X4_nearest (mD M (o + 4) x1.toNatClampNeg) M).bind fun y1 =>
        (d_X8_put o x1 (105 : Int32) y1.1 y1.2).bind fun y2 =>
        some ((), y2.2))
      else (
        some ((), M))) f := id rfl
theorem tq_X8_realAt (o : Nat) (x1 : Int32) (M : Mem) : d_X8_realAt o x1 M = (
      okk (vp_in x1 549) <|
      if (mI M (o + 2) x1.toNatClampNeg) = (105 : Int32) then (
        okk (vp_in x1 549) <|
        some ((FP.i2d (mI M (o + 3) x1.toNatClampNeg)), M))
      else (
        okk (vp_in x1 549) <|
        some ((mD M (o + 4) x1.toNatClampNeg), M))) := id rfl
theorem bq_X8_realAt {β : Type} (o : Nat) (x1 : Int32) (M : Mem) (f : UInt64 × Mem → Option β) : (d_X8_realAt o x1 M).bind f = Option.bind (
      okk (vp_in x1 549) <|
      if (mI M (o + 2) x1.toNatClampNeg) = (105 : Int32) then (
        okk (vp_in x1 549) <|
        some ((FP.i2d (mI M (o + 3) x1.toNatClampNeg)), M))
      else (
        okk (vp_in x1 549) <|
        some ((mD M (o + 4) x1.toNatClampNeg), M))) f := id rfl
theorem tq_X8_areEqual_52 (o : Nat) (x1 : Int32) (x2 : Int32) (M : Mem) : d_X8_areEqual_52 o x1 x2 M = (
      okk (vp_in x1 549) <|
      okk (vp_in x2 549) <|
      if (mI M (o + 2) x1.toNatClampNeg) = (mI M (o + 2) x2.toNatClampNeg) then (
        okk (vp_in x1 549) <|
        okk (vp_in x2 549) <|
        if (mI M (o + 3) x1.toNatClampNeg) = (mI M (o + 3) x2.toNatClampNeg) then (
          some ((1 : Int32), M))
        else (
          some ((0 : Int32), M)))
      else (
        some ((0 : Int32), M))) := id rfl
theorem bq_X8_areEqual_52 {β : Type} (o : Nat) (x1 : Int32) (x2 : Int32) (M : Mem) (f : Int32 × Mem → Option β) : (d_X8_areEqual_52 o x1 x2 M).bind f = Option.bind (
      okk (vp_in x1 549) <|
      okk (vp_in x2 549) <|
      if (mI M (o + 2) x1.toNatClampNeg) = (mI M (o + 2) x2.toNatClampNeg) then (
        okk (vp_in x1 549) <|
        okk (vp_in x2 549) <|
        if (mI M (o + 3) x1.toNatClampNeg) = (mI M (o + 3) x2.toNatClampNeg) then (
          some ((1 : Int32), M))
        else (
          some ((0 : Int32), M)))
      else (
        some ((0 : Int32), M))) f := id rfl
theorem tq_X8_areEqual (o : Nat) (x1 : Int32) (x2 : Int32) (M : Mem) : d_X8_areEqual o x1 x2 M = (
      (d_X8_isNumber o x1 M).bind fun y1 =>
      if y1.1 = 0 then (
        d_X8_areEqual_52 o x1 x2 y1.2)
      else (
        (d_X8_isNumber o x2 y1.2).bind fun y2 =>
        if y2.1 = 0 then (
          d_X8_areEqual_52 o x1 x2 y2.2)
        else (
          (d_X8_isUndefined o x1 y2.2).bind fun y3 =>
          if y3.1 = 0 then (
            (d_X8_isUndefined o x2 y3.2).bind fun y4 =>
            if y4.1 = 0 then (
              (d_X8_realAt o x1 y4.2).bind fun y5 =>
              (d_X8_realAt o x2 y5.2).bind fun y6 =>
              if (Op.cmpValue (FP.dcmp y5.1 y6.1) .l) = 0 then (
                some ((1 : Int32), y6.2))
              else (
                some ((0 : Int32), y6.2)))
            else (
              some ((0 : Int32), y4.2)))
          else (
            some ((0 : Int32), y3.2))))) := id rfl
theorem bq_X8_areEqual {β : Type} (o : Nat) (x1 : Int32) (x2 : Int32) (M : Mem) (f : Int32 × Mem → Option β) : (d_X8_areEqual o x1 x2 M).bind f = Option.bind (
      (d_X8_isNumber o x1 M).bind fun y1 =>
      if y1.1 = 0 then (
        d_X8_areEqual_52 o x1 x2 y1.2)
      else (
        (d_X8_isNumber o x2 y1.2).bind fun y2 =>
        if y2.1 = 0 then (
          d_X8_areEqual_52 o x1 x2 y2.2)
        else (
          (d_X8_isUndefined o x1 y2.2).bind fun y3 =>
          if y3.1 = 0 then (
            (d_X8_isUndefined o x2 y3.2).bind fun y4 =>
            if y4.1 = 0 then (
              (d_X8_realAt o x1 y4.2).bind fun y5 =>
              (d_X8_realAt o x2 y5.2).bind fun y6 =>
              if (Op.cmpValue (FP.dcmp y5.1 y6.1) .l) = 0 then (
                some ((1 : Int32), y6.2))
              else (
                some ((0 : Int32), y6.2)))
            else (
              some ((0 : Int32), y4.2)))
          else (
            some ((0 : Int32), y3.2))))) f := id rfl
theorem tq_X4_ofIntegers (x0 : Int32) (x1 : Int64) (x2 : Int64) (M : Mem) : d_X4_ofIntegers x0 x1 x2 M = (
      if x0 = (37 : Int32) then (
        if (lg_cmp x2 (0 : Int64)) = 0 then (
          some ((0 : Int64), M))
        else (
          okk (¬ x2 = 0) <|
          some ((x1 - x1 / x2 * x2), M)))
      else if x0 = (42 : Int32) then (
        some ((x1 * x2), M))
      else if x0 = (43 : Int32) then (
        some ((x1 + x2), M))
      else if x0 = (45 : Int32) then (
        some ((x1 - x2), M))
      else if x0 = (47 : Int32) then (
        if (lg_cmp x2 (0 : Int64)) = 0 then (
          some ((0 : Int64), M))
        else (
          okk (¬ x2 = 0) <|
          some ((x1 / x2), M)))
      else (
        if 0 ≤ (lg_cmp x1 x2) then (
          some ((0 : Int64), M))
        else (
          some ((1 : Int64), M)))) := id rfl
theorem bq_X4_ofIntegers {β : Type} (x0 : Int32) (x1 : Int64) (x2 : Int64) (M : Mem) (f : Int64 × Mem → Option β) : (d_X4_ofIntegers x0 x1 x2 M).bind f = Option.bind (
      if x0 = (37 : Int32) then (
        if (lg_cmp x2 (0 : Int64)) = 0 then (
          some ((0 : Int64), M))
        else (
          okk (¬ x2 = 0) <|
          some ((x1 - x1 / x2 * x2), M)))
      else if x0 = (42 : Int32) then (
        some ((x1 * x2), M))
      else if x0 = (43 : Int32) then (
        some ((x1 + x2), M))
      else if x0 = (45 : Int32) then (
        some ((x1 - x2), M))
      else if x0 = (47 : Int32) then (
        if (lg_cmp x2 (0 : Int64)) = 0 then (
          some ((0 : Int64), M))
        else (
          okk (¬ x2 = 0) <|
          some ((x1 / x2), M)))
      else (
        if 0 ≤ (lg_cmp x1 x2) then (
          some ((0 : Int64), M))
        else (
          some ((1 : Int64), M)))) f := id rfl
theorem tq_X4_isInteger (x0 : Int64) (M : Mem) : d_X4_isInteger x0 M = (
      if (lg_cmp x0 (-2147483648 : Int64)) < 0 then (
        some ((0 : Int32), M))
      else (
        if 0 < (lg_cmp x0 (2147483647 : Int64)) then (
          some ((0 : Int32), M))
        else (
          some ((1 : Int32), M)))) := id rfl
theorem bq_X4_isInteger {β : Type} (x0 : Int64) (M : Mem) (f : Int32 × Mem → Option β) : (d_X4_isInteger x0 M).bind f = Option.bind (
      if (lg_cmp x0 (-2147483648 : Int64)) < 0 then (
        some ((0 : Int32), M))
      else (
        if 0 < (lg_cmp x0 (2147483647 : Int64)) then (
          some ((0 : Int32), M))
        else (
          some ((1 : Int32), M)))) f := id rfl
theorem tq_X8_givesInteger (o : Nat) (x1 : Int32) (x2 : Int32) (x3 : Int32) (M : Mem) : d_X8_givesInteger o x1 x2 x3 M = (
      (d_X8_areIntegers o x2 x3 M).bind fun y1 =>
      if y1.1 = 0 then (
        some ((0 : Int32), y1.2))
      else (
        okk (vp_in x2 549) <|
        okk (vp_in x3 549) <|
        (d_X4_ofIntegers x1 ((mI y1.2 (o + 3) x2.toNatClampNeg).toInt64) ((mI y1.2 (o + 3) x3.toNatClampNeg).toInt64) y1.2).bind fun y2 =>
        (d_X4_isInteger y2.1 y2.2).bind fun y3 =>
        if y3.1 = 0 then (
          some ((0 : Int32), y3.2))
        else (
          some ((1 : Int32), y3.2)))) := id rfl
theorem bq_X8_givesInteger {β : Type} (o : Nat) (x1 : Int32) (x2 : Int32) (x3 : Int32) (M : Mem) (f : Int32 × Mem → Option β) : (d_X8_givesInteger o x1 x2 x3 M).bind f = Option.bind (
      (d_X8_areIntegers o x2 x3 M).bind fun y1 =>
      if y1.1 = 0 then (
        some ((0 : Int32), y1.2))
      else (
        okk (vp_in x2 549) <|
        okk (vp_in x3 549) <|
        (d_X4_ofIntegers x1 ((mI y1.2 (o + 3) x2.toNatClampNeg).toInt64) ((mI y1.2 (o + 3) x3.toNatClampNeg).toInt64) y1.2).bind fun y2 =>
        (d_X4_isInteger y2.1 y2.2).bind fun y3 =>
        if y3.1 = 0 then (
          some ((0 : Int32), y3.2))
        else (
          some ((1 : Int32), y3.2)))) f := id rfl
theorem tq_X8_isLess (o : Nat) (x1 : Int32) (x2 : Int32) (M : Mem) : d_X8_isLess o x1 x2 M = (
      (d_X8_isUndefined o x1 M).bind fun y1 =>
      if y1.1 = 0 then (
        (d_X8_isUndefined o x2 y1.2).bind fun y2 =>
        if y2.1 = 0 then (
          (d_X8_realAt o x1 y2.2).bind fun y3 =>
          (d_X8_realAt o x2 y3.2).bind fun y4 =>
          if 0 ≤ (Op.cmpValue (FP.dcmp y3.1 y4.1) .g) then (
            some ((0 : Int32), y4.2))
          else (
            some ((1 : Int32), y4.2)))
        else (
          some ((0 : Int32), y2.2)))
      else (
        some ((0 : Int32), y1.2))) := id rfl
theorem bq_X8_isLess {β : Type} (o : Nat) (x1 : Int32) (x2 : Int32) (M : Mem) (f : Int32 × Mem → Option β) : (d_X8_isLess o x1 x2 M).bind f = Option.bind (
      (d_X8_isUndefined o x1 M).bind fun y1 =>
      if y1.1 = 0 then (
        (d_X8_isUndefined o x2 y1.2).bind fun y2 =>
        if y2.1 = 0 then (
          (d_X8_realAt o x1 y2.2).bind fun y3 =>
          (d_X8_realAt o x2 y3.2).bind fun y4 =>
          if 0 ≤ (Op.cmpValue (FP.dcmp y3.1 y4.1) .g) then (
            some ((0 : Int32), y4.2))
          else (
            some ((1 : Int32), y4.2)))
        else (
          some ((0 : Int32), y2.2)))
      else (
        some ((0 : Int32), y1.2))) f := id rfl
theorem tq_X4_isEndless (x0 : UInt64) (M : Mem) : d_X4_isEndless x0 M = (
      if 0 < (Op.cmpValue (FP.dcmp x0 (9218868437227405311 : UInt64)) .l) then (
        some ((1 : Int32), M))
      else (
        if 0 ≤ (Op.cmpValue (FP.dcmp x0 (18442240474082181119 : UInt64)) .g) then (
          some ((0 : Int32), M))
        else (
          some ((1 : Int32), M)))) := id rfl
theorem bq_X4_isEndless {β : Type} (x0 : UInt64) (M : Mem) (f : Int32 × Mem → Option β) : (d_X4_isEndless x0 M).bind f = Option.bind (
      if 0 < (Op.cmpValue (FP.dcmp x0 (9218868437227405311 : UInt64)) .l) then (
        some ((1 : Int32), M))
      else (
        if 0 ≤ (Op.cmpValue (FP.dcmp x0 (18442240474082181119 : UInt64)) .g) then (
          some ((0 : Int32), M))
        else (
          some ((1 : Int32), M)))) f := id rfl
theorem tq_X4_isUndefined_145 (x1 : UInt64) (x3 : UInt64) (M : Mem) : d_X4_isUndefined_145 x1 x3 M = (
      if (Op.cmpValue (FP.dcmp x1 FP.dconst0) .l) = 0 then (
        (d_X4_isEndless x3 M).bind fun y1 =>
        if y1.1 = 0 then (
          some ((0 : Int32), y1.2))
        else (
          some ((1 : Int32), y1.2)))
      else (
        some ((0 : Int32), M))) := id rfl
theorem bq_X4_isUndefined_145 {β : Type} (x1 : UInt64) (x3 : UInt64) (M : Mem) (f : Int32 × Mem → Option β) : (d_X4_isUndefined_145 x1 x3 M).bind f = Option.bind (
      if (Op.cmpValue (FP.dcmp x1 FP.dconst0) .l) = 0 then (
        (d_X4_isEndless x3 M).bind fun y1 =>
        if y1.1 = 0 then (
          some ((0 : Int32), y1.2))
        else (
          some ((1 : Int32), y1.2)))
      else (
        some ((0 : Int32), M))) f := id rfl
theorem tq_X4_isUndefined_87 (s0 : Int32) (s1 : Int32) (M : Mem) : d_X4_isUndefined_87 s0 s1 M = (
      if s0 = s1 then (
        some ((0 : Int32), M))
      else (
        some ((1 : Int32), M))) := id rfl
theorem bq_X4_isUndefined_87 {β : Type} (s0 : Int32) (s1 : Int32) (M : Mem) (f : Int32 × Mem → Option β) : (d_X4_isUndefined_87 s0 s1 M).bind f = Option.bind (
      if s0 = s1 then (
        some ((0 : Int32), M))
      else (
        some ((1 : Int32), M))) f := id rfl
theorem tq_X4_isUndefined_76 (x3 : UInt64) (s0 : Int32) (M : Mem) : d_X4_isUndefined_76 x3 s0 M = (
      if (Op.cmpValue (FP.dcmp x3 FP.dconst0) .l) ≤ 0 then (
        d_X4_isUndefined_87 s0 (0 : Int32) M)
      else (
        d_X4_isUndefined_87 s0 (1 : Int32) M)) := id rfl
theorem bq_X4_isUndefined_76 {β : Type} (x3 : UInt64) (s0 : Int32) (M : Mem) (f : Int32 × Mem → Option β) : (d_X4_isUndefined_76 x3 s0 M).bind f = Option.bind (
      if (Op.cmpValue (FP.dcmp x3 FP.dconst0) .l) ≤ 0 then (
        d_X4_isUndefined_87 s0 (0 : Int32) M)
      else (
        d_X4_isUndefined_87 s0 (1 : Int32) M)) f := id rfl
theorem tq_X4_isUndefined_123 (s0 : Int32) (s1 : Int32) (M : Mem) : d_X4_isUndefined_123 s0 s1 M = (
      if s0 = s1 then (
        some ((1 : Int32), M))
      else (
        some ((0 : Int32), M))) := id rfl
theorem bq_X4_isUndefined_123 {β : Type} (s0 : Int32) (s1 : Int32) (M : Mem) (f : Int32 × Mem → Option β) : (d_X4_isUndefined_123 s0 s1 M).bind f = Option.bind (
      if s0 = s1 then (
        some ((1 : Int32), M))
      else (
        some ((0 : Int32), M))) f := id rfl
theorem tq_X4_isUndefined_112 (x3 : UInt64) (s0 : Int32) (M : Mem) : d_X4_isUndefined_112 x3 s0 M = (
      if (Op.cmpValue (FP.dcmp x3 FP.dconst0) .l) ≤ 0 then (
        d_X4_isUndefined_123 s0 (0 : Int32) M)
      else (
        d_X4_isUndefined_123 s0 (1 : Int32) M)) := id rfl
theorem bq_X4_isUndefined_112 {β : Type} (x3 : UInt64) (s0 : Int32) (M : Mem) (f : Int32 × Mem → Option β) : (d_X4_isUndefined_112 x3 s0 M).bind f = Option.bind (
      if (Op.cmpValue (FP.dcmp x3 FP.dconst0) .l) ≤ 0 then (
        d_X4_isUndefined_123 s0 (0 : Int32) M)
      else (
        d_X4_isUndefined_123 s0 (1 : Int32) M)) f := id rfl
theorem tq_X4_isUndefined_19 (x0 : Int32) (x1 : UInt64) (x3 : UInt64) (s0 : Int32) (M : Mem) : d_X4_isUndefined_19 x0 x1 x3 s0 M = (
      if x0 = (42 : Int32) then (
        (d_X4_isEndless x1 M).bind fun y1 =>
        if y1.1 = 0 then (
          d_X4_isUndefined_145 x1 x3 y1.2)
        else (
          if (Op.cmpValue (FP.dcmp x3 FP.dconst0) .l) = 0 then (
            some ((1 : Int32), y1.2))
          else (
            d_X4_isUndefined_145 x1 x3 y1.2)))
      else if x0 = (43 : Int32) then (
        if s0 = 0 then (
          some ((0 : Int32), M))
        else (
          if (Op.cmpValue (FP.dcmp x1 FP.dconst0) .l) ≤ 0 then (
            d_X4_isUndefined_76 x3 (0 : Int32) M)
          else (
            d_X4_isUndefined_76 x3 (1 : Int32) M)))
      else if x0 = (45 : Int32) then (
        if s0 = 0 then (
          some ((0 : Int32), M))
        else (
          if (Op.cmpValue (FP.dcmp x1 FP.dconst0) .l) ≤ 0 then (
            d_X4_isUndefined_112 x3 (0 : Int32) M)
          else (
            d_X4_isUndefined_112 x3 (1 : Int32) M)))
      else if x0 = (47 : Int32) then (
        if s0 = 0 then (
          if (Op.cmpValue (FP.dcmp x1 FP.dconst0) .l) = 0 then (
            if (Op.cmpValue (FP.dcmp x3 FP.dconst0) .l) = 0 then (
              some ((1 : Int32), M))
            else (
              some ((0 : Int32), M)))
          else (
            some ((0 : Int32), M)))
        else (
          some ((1 : Int32), M)))
      else (
        (d_X4_isEndless x1 M).bind fun y2 =>
        if y2.1 = 0 then (
          if (Op.cmpValue (FP.dcmp x3 FP.dconst0) .l) = 0 then (
            some ((1 : Int32), y2.2))
          else (
            some ((0 : Int32), y2.2)))
        else (
          some ((1 : Int32), y2.2)))) := id rfl
theorem bq_X4_isUndefined_19 {β : Type} (x0 : Int32) (x1 : UInt64) (x3 : UInt64) (s0 : Int32) (M : Mem) (f : Int32 × Mem → Option β) : (d_X4_isUndefined_19 x0 x1 x3 s0 M).bind f = Option.bind (
      if x0 = (42 : Int32) then (
        (d_X4_isEndless x1 M).bind fun y1 =>
        if y1.1 = 0 then (
          d_X4_isUndefined_145 x1 x3 y1.2)
        else (
          if (Op.cmpValue (FP.dcmp x3 FP.dconst0) .l) = 0 then (
            some ((1 : Int32), y1.2))
          else (
            d_X4_isUndefined_145 x1 x3 y1.2)))
      else if x0 = (43 : Int32) then (
        if s0 = 0 then (
          some ((0 : Int32), M))
        else (
          if (Op.cmpValue (FP.dcmp x1 FP.dconst0) .l) ≤ 0 then (
            d_X4_isUndefined_76 x3 (0 : Int32) M)
          else (
            d_X4_isUndefined_76 x3 (1 : Int32) M)))
      else if x0 = (45 : Int32) then (
        if s0 = 0 then (
          some ((0 : Int32), M))
        else (
          if (Op.cmpValue (FP.dcmp x1 FP.dconst0) .l) ≤ 0 then (
            d_X4_isUndefined_112 x3 (0 : Int32) M)
          else (
            d_X4_isUndefined_112 x3 (1 : Int32) M)))
      else if x0 = (47 : Int32) then (
        if s0 = 0 then (
          if (Op.cmpValue (FP.dcmp x1 FP.dconst0) .l) = 0 then (
            if (Op.cmpValue (FP.dcmp x3 FP.dconst0) .l) = 0 then (
              some ((1 : Int32), M))
            else (
              some ((0 : Int32), M)))
          else (
            some ((0 : Int32), M)))
        else (
          some ((1 : Int32), M)))
      else (
        (d_X4_isEndless x1 M).bind fun y2 =>
        if y2.1 = 0 then (
          if (Op.cmpValue (FP.dcmp x3 FP.dconst0) .l) = 0 then (
            some ((1 : Int32), y2.2))
          else (
            some ((0 : Int32), y2.2)))
        else (
          some ((1 : Int32), y2.2)))) f := id rfl
theorem tq_X4_isUndefined_18 (x0 : Int32) (x1 : UInt64) (x3 : UInt64) (M : Mem) : d_X4_isUndefined_18 x0 x1 x3 M = (
      d_X4_isUndefined_19 x0 x1 x3 (0 : Int32) M) := id rfl
theorem bq_X4_isUndefined_18 {β : Type} (x0 : Int32) (x1 : UInt64) (x3 : UInt64) (M : Mem) (f : Int32 × Mem → Option β) : (d_X4_isUndefined_18 x0 x1 x3 M).bind f = Option.bind (
      d_X4_isUndefined_19 x0 x1 x3 (0 : Int32) M) f := id rfl
theorem tq_X4_isUndefined (x0 : Int32) (x1 : UInt64) (x2 : UInt64) (M : Mem) : d_X4_isUndefined x0 x1 x2 M = (
      (d_X4_isEndless x1 M).bind fun y1 =>
      if y1.1 = 0 then (
        d_X4_isUndefined_18 x0 x1 x2 y1.2)
      else (
        (d_X4_isEndless x2 y1.2).bind fun y2 =>
        if y2.1 = 0 then (
          d_X4_isUndefined_18 x0 x1 x2 y2.2)
        else (
          d_X4_isUndefined_19 x0 x1 x2 (1 : Int32) y2.2))) := id rfl
theorem bq_X4_isUndefined {β : Type} (x0 : Int32) (x1 : UInt64) (x2 : UInt64) (M : Mem) (f : Int32 × Mem → Option β) : (d_X4_isUndefined x0 x1 x2 M).bind f = Option.bind (
      (d_X4_isEndless x1 M).bind fun y1 =>
      if y1.1 = 0 then (
        d_X4_isUndefined_18 x0 x1 x2 y1.2)
      else (
        (d_X4_isEndless x2 y1.2).bind fun y2 =>
        if y2.1 = 0 then (
          d_X4_isUndefined_18 x0 x1 x2 y2.2)
        else (
          d_X4_isUndefined_19 x0 x1 x2 (1 : Int32) y2.2))) f := id rfl
theorem tq_X4_rest_131 (x0 : UInt64) (x4 : UInt64) (M : Mem) : d_X4_rest_131 x0 x4 M = (
      if 0 ≤ (Op.cmpValue (FP.dcmp x0 FP.dconst0) .g) then (
        some (x4, M))
      else (
        some ((FP.dneg x4), M))) := id rfl
theorem bq_X4_rest_131 {β : Type} (x0 : UInt64) (x4 : UInt64) (M : Mem) (f : UInt64 × Mem → Option β) : (d_X4_rest_131 x0 x4 M).bind f = Option.bind (
      if 0 ≤ (Op.cmpValue (FP.dcmp x0 FP.dconst0) .g) then (
        some (x4, M))
      else (
        some ((FP.dneg x4), M))) f := id rfl
theorem tq_X4_rest_115 (k81 : (UInt64 × UInt64 × Int32) → Mem → Option (UInt64 × Mem)) (x0 : UInt64) (x6 : UInt64) (x8 : UInt64) (x10 : Int32) (s0 : UInt64) (M : Mem) : d_X4_rest_115 k81 x0 x6 x8 x10 s0 M = (
      bnd ((FP.ddiv x8 (4611686018427387904 : UInt64))) fun b1 =>
      bnd ((x10 + (1 : Int32))) fun b2 =>
      k81 (s0, b1, b2) M) := id rfl
theorem bq_X4_rest_115 {β : Type} (k81 : (UInt64 × UInt64 × Int32) → Mem → Option (UInt64 × Mem)) (x0 : UInt64) (x6 : UInt64) (x8 : UInt64) (x10 : Int32) (s0 : UInt64) (M : Mem) (f : UInt64 × Mem → Option β) : (d_X4_rest_115 k81 x0 x6 x8 x10 s0 M).bind f = Option.bind (
      bnd ((FP.ddiv x8 (4611686018427387904 : UInt64))) fun b1 =>
      bnd ((x10 + (1 : Int32))) fun b2 =>
      k81 (s0, b1, b2) M) f := id rfl
theorem tq_X4_rest_81b (k81 : (UInt64 × UInt64 × Int32) → Mem → Option (UInt64 × Mem)) (x0 : UInt64) (x4 : UInt64) (x6 : UInt64) (x8 : UInt64) (x10 : Int32) (M : Mem) : d_X4_rest_81b k81 x0 x4 x6 x8 x10 M = (
      if (3000 : Int32) ≤ x10 then (
        d_X4_rest_131 x0 x4 M)
      else (
        if (Op.cmpValue (FP.dcmp x8 x6) .l) < 0 then (
          d_X4_rest_131 x0 x4 M)
        else (
          if (Op.cmpValue (FP.dcmp x4 x8) .l) < 0 then (
            d_X4_rest_115 k81 x0 x6 x8 x10 x4 M)
          else (
            d_X4_rest_115 k81 x0 x6 x8 x10 (FP.dsub x4 x8) M)))) := id rfl
theorem bq_X4_rest_81b {β : Type} (k81 : (UInt64 × UInt64 × Int32) → Mem → Option (UInt64 × Mem)) (x0 : UInt64) (x4 : UInt64) (x6 : UInt64) (x8 : UInt64) (x10 : Int32) (M : Mem) (f : UInt64 × Mem → Option β) : (d_X4_rest_81b k81 x0 x4 x6 x8 x10 M).bind f = Option.bind (
      if (3000 : Int32) ≤ x10 then (
        d_X4_rest_131 x0 x4 M)
      else (
        if (Op.cmpValue (FP.dcmp x8 x6) .l) < 0 then (
          d_X4_rest_131 x0 x4 M)
        else (
          if (Op.cmpValue (FP.dcmp x4 x8) .l) < 0 then (
            d_X4_rest_115 k81 x0 x6 x8 x10 x4 M)
          else (
            d_X4_rest_115 k81 x0 x6 x8 x10 (FP.dsub x4 x8) M)))) f := id rfl
theorem tq_X4_rest_78 (x0 : UInt64) (x4 : UInt64) (x6 : UInt64) (x8 : UInt64) (M : Mem) : d_X4_rest_78 x0 x4 x6 x8 M = (
      d_X4_rest_81 x0 x6 fuel (x4, x8, (0 : Int32)) M) := id rfl
theorem bq_X4_rest_78 {β : Type} (x0 : UInt64) (x4 : UInt64) (x6 : UInt64) (x8 : UInt64) (M : Mem) (f : UInt64 × Mem → Option β) : (d_X4_rest_78 x0 x4 x6 x8 M).bind f = Option.bind (
      d_X4_rest_81 x0 x6 fuel (x4, x8, (0 : Int32)) M) f := id rfl
theorem tq_X4_rest_45b (k45 : (UInt64 × Int32) → Mem → Option (UInt64 × Mem)) (x0 : UInt64) (x4 : UInt64) (x6 : UInt64) (x8 : UInt64) (x10 : Int32) (M : Mem) : d_X4_rest_45b k45 x0 x4 x6 x8 x10 M = (
      if (3000 : Int32) ≤ x10 then (
        d_X4_rest_78 x0 x4 x6 x8 M)
      else (
        if 0 < (Op.cmpValue (FP.dcmp x8 (FP.dsub x4 x8)) .g) then (
          d_X4_rest_78 x0 x4 x6 x8 M)
        else (
          bnd ((FP.dmul x8 (4611686018427387904 : UInt64))) fun b1 =>
          bnd ((x10 + (1 : Int32))) fun b2 =>
          k45 (b1, b2) M))) := id rfl
theorem bq_X4_rest_45b {β : Type} (k45 : (UInt64 × Int32) → Mem → Option (UInt64 × Mem)) (x0 : UInt64) (x4 : UInt64) (x6 : UInt64) (x8 : UInt64) (x10 : Int32) (M : Mem) (f : UInt64 × Mem → Option β) : (d_X4_rest_45b k45 x0 x4 x6 x8 x10 M).bind f = Option.bind (
      if (3000 : Int32) ≤ x10 then (
        d_X4_rest_78 x0 x4 x6 x8 M)
      else (
        if 0 < (Op.cmpValue (FP.dcmp x8 (FP.dsub x4 x8)) .g) then (
          d_X4_rest_78 x0 x4 x6 x8 M)
        else (
          bnd ((FP.dmul x8 (4611686018427387904 : UInt64))) fun b1 =>
          bnd ((x10 + (1 : Int32))) fun b2 =>
          k45 (b1, b2) M))) f := id rfl
theorem tq_X4_rest_26 (x0 : UInt64) (x4 : UInt64) (s0 : UInt64) (M : Mem) : d_X4_rest_26 x0 x4 s0 M = (
      if 0 ≤ (Op.cmpValue (FP.dcmp x4 s0) .g) then (
        d_X4_rest_45 x0 x4 s0 fuel (s0, (0 : Int32)) M)
      else (
        some (x0, M))) := id rfl
theorem bq_X4_rest_26 {β : Type} (x0 : UInt64) (x4 : UInt64) (s0 : UInt64) (M : Mem) (f : UInt64 × Mem → Option β) : (d_X4_rest_26 x0 x4 s0 M).bind f = Option.bind (
      if 0 ≤ (Op.cmpValue (FP.dcmp x4 s0) .g) then (
        d_X4_rest_45 x0 x4 s0 fuel (s0, (0 : Int32)) M)
      else (
        some (x0, M))) f := id rfl
theorem tq_X4_rest_12 (x0 : UInt64) (x2 : UInt64) (s0 : UInt64) (M : Mem) : d_X4_rest_12 x0 x2 s0 M = (
      if 0 ≤ (Op.cmpValue (FP.dcmp x2 FP.dconst0) .g) then (
        d_X4_rest_26 x0 s0 x2 M)
      else (
        d_X4_rest_26 x0 s0 (FP.dneg x2) M)) := id rfl
theorem bq_X4_rest_12 {β : Type} (x0 : UInt64) (x2 : UInt64) (s0 : UInt64) (M : Mem) (f : UInt64 × Mem → Option β) : (d_X4_rest_12 x0 x2 s0 M).bind f = Option.bind (
      if 0 ≤ (Op.cmpValue (FP.dcmp x2 FP.dconst0) .g) then (
        d_X4_rest_26 x0 s0 x2 M)
      else (
        d_X4_rest_26 x0 s0 (FP.dneg x2) M)) f := id rfl
theorem tq_X4_rest (x0 : UInt64) (x1 : UInt64) (M : Mem) : d_X4_rest x0 x1 M = (
      if 0 ≤ (Op.cmpValue (FP.dcmp x0 FP.dconst0) .g) then (
        d_X4_rest_12 x0 x1 x0 M)
      else (
        d_X4_rest_12 x0 x1 (FP.dneg x0) M)) := id rfl
theorem bq_X4_rest {β : Type} (x0 : UInt64) (x1 : UInt64) (M : Mem) (f : UInt64 × Mem → Option β) : (d_X4_rest x0 x1 M).bind f = Option.bind (
      if 0 ≤ (Op.cmpValue (FP.dcmp x0 FP.dconst0) .g) then (
        d_X4_rest_12 x0 x1 x0 M)
      else (
        d_X4_rest_12 x0 x1 (FP.dneg x0) M)) f := id rfl
theorem tq_X4_ofFloats (x0 : Int32) (x1 : UInt64) (x2 : UInt64) (M : Mem) : d_X4_ofFloats x0 x1 x2 M = (
      if x0 = (42 : Int32) then (
        some ((FP.dmul x1 x2), M))
      else if x0 = (43 : Int32) then (
        some ((FP.dadd x1 x2), M))
      else if x0 = (45 : Int32) then (
        some ((FP.dsub x1 x2), M))
      else if x0 = (47 : Int32) then (
        some ((FP.ddiv x1 x2), M))
      else (
        (d_X4_rest x1 x2 M).bind fun y1 =>
        some (y1.1, y1.2))) := id rfl
theorem bq_X4_ofFloats {β : Type} (x0 : Int32) (x1 : UInt64) (x2 : UInt64) (M : Mem) (f : UInt64 × Mem → Option β) : (d_X4_ofFloats x0 x1 x2 M).bind f = Option.bind (
      if x0 = (42 : Int32) then (
        some ((FP.dmul x1 x2), M))
      else if x0 = (43 : Int32) then (
        some ((FP.dadd x1 x2), M))
      else if x0 = (45 : Int32) then (
        some ((FP.dsub x1 x2), M))
      else if x0 = (47 : Int32) then (
        some ((FP.ddiv x1 x2), M))
      else (
        (d_X4_rest x1 x2 M).bind fun y1 =>
        some (y1.1, y1.2))) f := id rfl
theorem tq_X8_putReal (o : Nat) (x1 : Int32) (x2 : UInt64) (M : Mem) : d_X8_putReal o x1 x2 M = (
      (d_X8_put o x1 (102 : Int32) (0 : Int32) M).bind fun y1 =>
      okk (vp_in x1 549) <|
      bnd (sD y1.2 (o + 4) x1.toNatClampNeg x2) fun M1 =>
      some ((), M1)) := id rfl
theorem bq_X8_putReal {β : Type} (o : Nat) (x1 : Int32) (x2 : UInt64) (M : Mem) (f : Unit × Mem → Option β) : (d_X8_putReal o x1 x2 M).bind f = Option.bind (
      (d_X8_put o x1 (102 : Int32) (0 : Int32) M).bind fun y1 =>
      okk (vp_in x1 549) <|
      bnd (sD y1.2 (o + 4) x1.toNatClampNeg x2) fun M1 =>
      some ((), M1)) f := id rfl
theorem tq_X8_combineReals_41 (o : Nat) (x2 : Int32) (M : Mem) : d_X8_combineReals_41 o x2 M = (
      (d_X8_put o x2 (102 : Int32) (1 : Int32) M).bind fun y1 =>
      some ((), y1.2)) := id rfl
theorem bq_X8_combineReals_41 {β : Type} (o : Nat) (x2 : Int32) (M : Mem) (f : Unit × Mem → Option β) : (d_X8_combineReals_41 o x2 M).bind f = Option.bind (
      (d_X8_put o x2 (102 : Int32) (1 : Int32) M).bind fun y1 =>
      some ((), y1.2)) f := id rfl
theorem tq_X8_combineReals (o : Nat) (x1 : Int32) (x2 : Int32) (x3 : Int32) (M : Mem) : d_X8_combineReals o x1 x2 x3 M = (
      (d_X8_realAt o x2 M).bind fun y1 =>
      (d_X8_realAt o x3 y1.2).bind fun y2 =>
      (d_X8_isUndefined o x2 y2.2).bind fun y3 =>
      if y3.1 = 0 then (
        (d_X8_isUndefined o x3 y3.2).bind fun y4 =>
        if y4.1 = 0 then (
          (d_X4_isUndefined x1 y1.1 y2.1 y4.2).bind fun y5 =>
          if y5.1 = 0 then (
            (d_X4_ofFloats x1 y1.1 y2.1 y5.2).bind fun y6 =>
            (d_X8_putReal o x2 y6.1 y6.2).bind fun y7 =>
            some ((), y7.2))
          else (
            d_X8_combineReals_41 o x2 y5.2))
        else (
          d_X8_combineReals_41 o x2 y4.2))
      else (
        d_X8_combineReals_41 o x2 y3.2)) := id rfl
theorem bq_X8_combineReals {β : Type} (o : Nat) (x1 : Int32) (x2 : Int32) (x3 : Int32) (M : Mem) (f : Unit × Mem → Option β) : (d_X8_combineReals o x1 x2 x3 M).bind f = Option.bind (
      (d_X8_realAt o x2 M).bind fun y1 =>
      (d_X8_realAt o x3 y1.2).bind fun y2 =>
      (d_X8_isUndefined o x2 y2.2).bind fun y3 =>
      if y3.1 = 0 then (
        (d_X8_isUndefined o x3 y3.2).bind fun y4 =>
        if y4.1 = 0 then (
          (d_X4_isUndefined x1 y1.1 y2.1 y4.2).bind fun y5 =>
          if y5.1 = 0 then (
            (d_X4_ofFloats x1 y1.1 y2.1 y5.2).bind fun y6 =>
            (d_X8_putReal o x2 y6.1 y6.2).bind fun y7 =>
            some ((), y7.2))
          else (
            d_X8_combineReals_41 o x2 y5.2))
        else (
          d_X8_combineReals_41 o x2 y4.2))
      else (
        d_X8_combineReals_41 o x2 y3.2)) f := id rfl
theorem tq_X8_combine (o : Nat) (x1 : Int32) (x2 : Int32) (x3 : Int32) (M : Mem) : d_X8_combine o x1 x2 x3 M = (
      if x1 = (61 : Int32) then (
        (d_X8_areEqual o x2 x3 M).bind fun y8 =>
        if y8.1 = 0 then (
          (d_X8_put o x2 (105 : Int32) (0 : Int32) y8.2).bind fun y9 =>
          some ((), y9.2))
        else (
          (d_X8_put o x2 (105 : Int32) (1 : Int32) y8.2).bind fun y10 =>
          some ((), y10.2)))
      else (
        (d_X8_givesInteger o x1 x2 x3 M).bind fun y1 =>
        if y1.1 = 0 then (
          if x1 = (60 : Int32) then (
            (d_X8_isLess o x2 x3 y1.2).bind fun y3 =>
            if y3.1 = 0 then (
              (d_X8_put o x2 (105 : Int32) (0 : Int32) y3.2).bind fun y4 =>
              some ((), y4.2))
            else (
              (d_X8_put o x2 (105 : Int32) (1 : Int32) y3.2).bind fun y5 =>
              some ((), y5.2)))
          else (
            (d_X8_combineReals o x1 x2 x3 y1.2).bind fun y2 =>
            some ((), y2.2)))
        else (
          okk (vp_in x2 549) <|
          okk (vp_in x3 549) <|
          (d_X4_ofIntegers x1 ((mI y1.2 (o + 3) x2.toNatClampNeg).toInt64) ((mI y1.2 (o + 3) x3.toNatClampNeg).toInt64) y1.2).bind fun y6 =>
          (d_X8_put o x2 (105 : Int32) (y6.1.toInt32) y6.2).bind fun y7 =>
          some ((), y7.2)))) := id rfl
theorem bq_X8_combine {β : Type} (o : Nat) (x1 : Int32) (x2 : Int32) (x3 : Int32) (M : Mem) (f : Unit × Mem → Option β) : (d_X8_combine o x1 x2 x3 M).bind f = Option.bind (
      if x1 = (61 : Int32) then (
        (d_X8_areEqual o x2 x3 M).bind fun y8 =>
        if y8.1 = 0 then (
          (d_X8_put o x2 (105 : Int32) (0 : Int32) y8.2).bind fun y9 =>
          some ((), y9.2))
        else (
          (d_X8_put o x2 (105 : Int32) (1 : Int32) y8.2).bind fun y10 =>
          some ((), y10.2)))
      else (
        (d_X8_givesInteger o x1 x2 x3 M).bind fun y1 =>
        if y1.1 = 0 then (
          if x1 = (60 : Int32) then (
            (d_X8_isLess o x2 x3 y1.2).bind fun y3 =>
            if y3.1 = 0 then (
              (d_X8_put o x2 (105 : Int32) (0 : Int32) y3.2).bind fun y4 =>
              some ((), y4.2))
            else (
              (d_X8_put o x2 (105 : Int32) (1 : Int32) y3.2).bind fun y5 =>
              some ((), y5.2)))
          else (
            (d_X8_combineReals o x1 x2 x3 y1.2).bind fun y2 =>
            some ((), y2.2)))
        else (
          okk (vp_in x2 549) <|
          okk (vp_in x3 549) <|
          (d_X4_ofIntegers x1 ((mI y1.2 (o + 3) x2.toNatClampNeg).toInt64) ((mI y1.2 (o + 3) x3.toNatClampNeg).toInt64) y1.2).bind fun y6 =>
          (d_X8_put o x2 (105 : Int32) (y6.1.toInt32) y6.2).bind fun y7 =>
          some ((), y7.2)))) f := id rfl
theorem tq_X3_useStack (o : Nat) (x1 : Int32) (x2 : Int32) (M : Mem) : d_X3_useStack o x1 x2 M = (
      if x1 = (100 : Int32) then (
        (d_X3_take o M).bind fun y1 =>
        some ((), y1.2))
      else if x1 = (105 : Int32) then (
        (d_X3_pushPut o (105 : Int32) x2 M).bind fun y2 =>
        some ((), y2.2))
      else if x1 = (107 : Int32) then (
        okk (vp_in x2 8) <|
        (d_X3_pushPut o (105 : Int32) (mI M 8 x2.toNatClampNeg) M).bind fun y3 =>
        some ((), y3.2))
      else if x1 = (108 : Int32) then (
        (d_X11_localPlace ((mI M o 9) - (1 : Int32)) x2 M).bind fun y4 =>
        (d_X3_pushMoved o y4.1 y4.2).bind fun y5 =>
        some ((), y5.2))
      else if x1 = (115 : Int32) then (
        (d_X3_take o M).bind fun y6 =>
        (d_X11_localPlace ((mI y6.2 o 9) - (1 : Int32)) x2 y6.2).bind fun y7 =>
        (d_X8_move o y6.1 y7.1 y7.2).bind fun y8 =>
        some ((), y8.2))
      else if x1 = (116 : Int32) then (
        (d_X3_take o M).bind fun y9 =>
        (d_X3_tell o y9.1 y9.2).bind fun y10 =>
        some ((), y10.2))
      else if x1 = (117 : Int32) then (
        (d_X3_fromTop o (1 : Int32) M).bind fun y11 =>
        (d_X3_pushMoved o y11.1 y11.2).bind fun y12 =>
        some ((), y12.2))
      else if x1 = (119 : Int32) then (
        (d_X3_fromTop o (1 : Int32) M).bind fun y13 =>
        (d_X8_round o y13.1 y13.2).bind fun y14 =>
        some ((), y14.2))
      else (
        (d_X3_fromTop o (2 : Int32) M).bind fun y15 =>
        (d_X3_fromTop o (1 : Int32) y15.2).bind fun y16 =>
        (d_X8_combine o x1 y15.1 y16.1 y16.2).bind fun y17 =>
        (d_X3_take o y17.2).bind fun y18 =>
        some ((), y18.2))) := id rfl
theorem bq_X3_useStack {β : Type} (o : Nat) (x1 : Int32) (x2 : Int32) (M : Mem) (f : Unit × Mem → Option β) : (d_X3_useStack o x1 x2 M).bind f = Option.bind (
      if x1 = (100 : Int32) then (
        (d_X3_take o M).bind fun y1 =>
        some ((), y1.2))
      else if x1 = (105 : Int32) then (
        (d_X3_pushPut o (105 : Int32) x2 M).bind fun y2 =>
        some ((), y2.2))
      else if x1 = (107 : Int32) then (
        okk (vp_in x2 8) <|
        (d_X3_pushPut o (105 : Int32) (mI M 8 x2.toNatClampNeg) M).bind fun y3 =>
        some ((), y3.2))
      else if x1 = (108 : Int32) then (
        (d_X11_localPlace ((mI M o 9) - (1 : Int32)) x2 M).bind fun y4 =>
        (d_X3_pushMoved o y4.1 y4.2).bind fun y5 =>
        some ((), y5.2))
      else if x1 = (115 : Int32) then (
        (d_X3_take o M).bind fun y6 =>
        (d_X11_localPlace ((mI y6.2 o 9) - (1 : Int32)) x2 y6.2).bind fun y7 =>
        (d_X8_move o y6.1 y7.1 y7.2).bind fun y8 =>
        some ((), y8.2))
      else if x1 = (116 : Int32) then (
        (d_X3_take o M).bind fun y9 =>
        (d_X3_tell o y9.1 y9.2).bind fun y10 =>
        some ((), y10.2))
      else if x1 = (117 : Int32) then (
        (d_X3_fromTop o (1 : Int32) M).bind fun y11 =>
        (d_X3_pushMoved o y11.1 y11.2).bind fun y12 =>
        some ((), y12.2))
      else if x1 = (119 : Int32) then (
        (d_X3_fromTop o (1 : Int32) M).bind fun y13 =>
        (d_X8_round o y13.1 y13.2).bind fun y14 =>
        some ((), y14.2))
      else (
        (d_X3_fromTop o (2 : Int32) M).bind fun y15 =>
        (d_X3_fromTop o (1 : Int32) y15.2).bind fun y16 =>
        (d_X8_combine o x1 y15.1 y16.1 y16.2).bind fun y17 =>
        (d_X3_take o y17.2).bind fun y18 =>
        some ((), y18.2))) f := id rfl
theorem tq_X3_execute (o : Nat) (M : Mem) : d_X3_execute o M = (
      bnd (((mI M o 9) - (1 : Int32))) fun b1 =>
      okk (vp_in b1 12) <|
      bnd ((mI M (o + 7) b1.toNatClampNeg)) fun b2 =>
      bnd ((mI M o 8)) fun b3 =>
      bnd (sI M o 12 ((mI M o 12) + (1 : Int32))) fun M1 =>
      okk (vp_in b1 12) <|
      bnd (sI M1 (o + 7) b1.toNatClampNeg (b2 + (1 : Int32))) fun M2 =>
      bnd ((mI M2 o 7)) fun b4 =>
      if b4 = (99 : Int32) then (
        okk (vp_in b3 8) <|
        (d_X3_call o b3 (mI M2 3 b3.toNatClampNeg) M2).bind fun y1 =>
        some ((0 : Int32), y1.2))
      else if b4 = (103 : Int32) ∨ b4 = (110 : Int32) ∨ b4 = (112 : Int32) then (
        (d_X3_useObject o (mI M2 o 7) b3 M2).bind fun y2 =>
        some ((0 : Int32), y2.2))
      else if b4 = (106 : Int32) then (
        okk (vp_in b1 12) <|
        bnd (sI M2 (o + 7) b1.toNatClampNeg b3) fun M3 =>
        if b2 < b3 then (
          some ((0 : Int32), M3))
        else (
          some ((1 : Int32), M3)))
      else if b4 = (109 : Int32) then (
        (d_X3_classFromTop o M2).bind fun y3 =>
        (d_X5_methodOf y3.1 b3 y3.2).bind fun y4 =>
        (d_X3_call o y4.1 (1 : Int32) y4.2).bind fun y5 =>
        some ((0 : Int32), y5.2))
      else if b4 = (114 : Int32) then (
        (d_X3_giveBack o M2).bind fun y6 =>
        some ((0 : Int32), y6.2))
      else if b4 = (122 : Int32) then (
        (d_X3_jumpsAtNull o b3 b2 M2).bind fun y7 =>
        okk (isBo y7.1) <|
        some (y7.1, y7.2))
      else (
        (d_X3_useStack o (mI M2 o 7) b3 M2).bind fun y8 =>
        some ((0 : Int32), y8.2))) := id rfl
theorem bq_X3_execute {β : Type} (o : Nat) (M : Mem) (f : Int32 × Mem → Option β) : (d_X3_execute o M).bind f = Option.bind (
      bnd (((mI M o 9) - (1 : Int32))) fun b1 =>
      okk (vp_in b1 12) <|
      bnd ((mI M (o + 7) b1.toNatClampNeg)) fun b2 =>
      bnd ((mI M o 8)) fun b3 =>
      bnd (sI M o 12 ((mI M o 12) + (1 : Int32))) fun M1 =>
      okk (vp_in b1 12) <|
      bnd (sI M1 (o + 7) b1.toNatClampNeg (b2 + (1 : Int32))) fun M2 =>
      bnd ((mI M2 o 7)) fun b4 =>
      if b4 = (99 : Int32) then (
        okk (vp_in b3 8) <|
        (d_X3_call o b3 (mI M2 3 b3.toNatClampNeg) M2).bind fun y1 =>
        some ((0 : Int32), y1.2))
      else if b4 = (103 : Int32) ∨ b4 = (110 : Int32) ∨ b4 = (112 : Int32) then (
        (d_X3_useObject o (mI M2 o 7) b3 M2).bind fun y2 =>
        some ((0 : Int32), y2.2))
      else if b4 = (106 : Int32) then (
        okk (vp_in b1 12) <|
        bnd (sI M2 (o + 7) b1.toNatClampNeg b3) fun M3 =>
        if b2 < b3 then (
          some ((0 : Int32), M3))
        else (
          some ((1 : Int32), M3)))
      else if b4 = (109 : Int32) then (
        (d_X3_classFromTop o M2).bind fun y3 =>
        (d_X5_methodOf y3.1 b3 y3.2).bind fun y4 =>
        (d_X3_call o y4.1 (1 : Int32) y4.2).bind fun y5 =>
        some ((0 : Int32), y5.2))
      else if b4 = (114 : Int32) then (
        (d_X3_giveBack o M2).bind fun y6 =>
        some ((0 : Int32), y6.2))
      else if b4 = (122 : Int32) then (
        (d_X3_jumpsAtNull o b3 b2 M2).bind fun y7 =>
        okk (isBo y7.1) <|
        some (y7.1, y7.2))
      else (
        (d_X3_useStack o (mI M2 o 7) b3 M2).bind fun y8 =>
        some ((0 : Int32), y8.2))) f := id rfl
theorem tq_X3_runOut_53 (k2 : (Int32) → Mem → Option (Unit × Mem)) (o : Nat) (x1 : Int32) (M : Mem) : d_X3_runOut_53 k2 o x1 M = (
      bnd ((x1 + (1 : Int32))) fun b1 =>
      k2 (b1) M) := id rfl
theorem bq_X3_runOut_53 {β : Type} (k2 : (Int32) → Mem → Option (Unit × Mem)) (o : Nat) (x1 : Int32) (M : Mem) (f : Unit × Mem → Option β) : (d_X3_runOut_53 k2 o x1 M).bind f = Option.bind (
      bnd ((x1 + (1 : Int32))) fun b1 =>
      k2 (b1) M) f := id rfl
theorem tq_X3_runOut_2b (k2 : (Int32) → Mem → Option (Unit × Mem)) (o : Nat) (x1 : Int32) (M : Mem) : d_X3_runOut_2b k2 o x1 M = (
      if (1000000 : Int32) ≤ x1 then (
        some ((), M))
      else (
        (d_X3_isRunning o M).bind fun y1 =>
        if y1.1 = 0 then (
          some ((), y1.2))
        else (
          (d_X3_isAtLimit o y1.2).bind fun y2 =>
          if y2.1 = 0 then (
            (d_X3_failureAhead o y2.2).bind fun y3 =>
            if y3.1 = (45 : Int32) then (
              (d_X3_execute o y3.2).bind fun y4 =>
              d_X3_runOut_53 k2 o x1 y4.2)
            else (
              (d_X3_failWith o y3.1 y3.2).bind fun y5 =>
              d_X3_runOut_53 k2 o x1 y5.2))
          else (
            (d_X3_endAtLimit o y2.2).bind fun y6 =>
            d_X3_runOut_53 k2 o x1 y6.2)))) := id rfl
theorem bq_X3_runOut_2b {β : Type} (k2 : (Int32) → Mem → Option (Unit × Mem)) (o : Nat) (x1 : Int32) (M : Mem) (f : Unit × Mem → Option β) : (d_X3_runOut_2b k2 o x1 M).bind f = Option.bind (
      if (1000000 : Int32) ≤ x1 then (
        some ((), M))
      else (
        (d_X3_isRunning o M).bind fun y1 =>
        if y1.1 = 0 then (
          some ((), y1.2))
        else (
          (d_X3_isAtLimit o y1.2).bind fun y2 =>
          if y2.1 = 0 then (
            (d_X3_failureAhead o y2.2).bind fun y3 =>
            if y3.1 = (45 : Int32) then (
              (d_X3_execute o y3.2).bind fun y4 =>
              d_X3_runOut_53 k2 o x1 y4.2)
            else (
              (d_X3_failWith o y3.1 y3.2).bind fun y5 =>
              d_X3_runOut_53 k2 o x1 y5.2))
          else (
            (d_X3_endAtLimit o y2.2).bind fun y6 =>
            d_X3_runOut_53 k2 o x1 y6.2)))) f := id rfl
theorem tq_X3_runOut (o : Nat) (M : Mem) : d_X3_runOut o M = (
      d_X3_runOut_2 o fuel ((0 : Int32)) M) := id rfl
theorem bq_X3_runOut {β : Type} (o : Nat) (M : Mem) (f : Unit × Mem → Option β) : (d_X3_runOut o M).bind f = Option.bind (
      d_X3_runOut_2 o fuel ((0 : Int32)) M) f := id rfl
theorem tq_X3_answerTo (o : Nat) (x1 : Int32) (x2 : Int32) (M : Mem) : d_X3_answerTo o x1 x2 M = (
      (d_X3_fromTop o x2 M).bind fun y1 =>
      if x1 = (107 : Int32) then (
        okk (vp_in y1.1 549) <|
        some ((mI y1.2 (o + 2) y1.1.toNatClampNeg), y1.2))
      else if x1 = (111 : Int32) then (
        (d_X3_fromTop o (1 : Int32) y1.2).bind fun y2 =>
        (d_X8_givesInteger o (mI y1.2 o 7) y1.1 y2.1 y2.2).bind fun y3 =>
        if y3.1 = 0 then (
          some ((0 : Int32), y3.2))
        else (
          some ((1 : Int32), y3.2)))
      else if x1 = (115 : Int32) then (
        (d_X3_shapeFromTop o x2 y1.2).bind fun y4 =>
        some (y4.1, y4.2))
      else (
        (d_X8_isNull o y1.1 y1.2).bind fun y5 =>
        if y5.1 = 0 then (
          some ((0 : Int32), y5.2))
        else (
          some ((1 : Int32), y5.2)))) := id rfl
theorem bq_X3_answerTo {β : Type} (o : Nat) (x1 : Int32) (x2 : Int32) (M : Mem) (f : Int32 × Mem → Option β) : (d_X3_answerTo o x1 x2 M).bind f = Option.bind (
      (d_X3_fromTop o x2 M).bind fun y1 =>
      if x1 = (107 : Int32) then (
        okk (vp_in y1.1 549) <|
        some ((mI y1.2 (o + 2) y1.1.toNatClampNeg), y1.2))
      else if x1 = (111 : Int32) then (
        (d_X3_fromTop o (1 : Int32) y1.2).bind fun y2 =>
        (d_X8_givesInteger o (mI y1.2 o 7) y1.1 y2.1 y2.2).bind fun y3 =>
        if y3.1 = 0 then (
          some ((0 : Int32), y3.2))
        else (
          some ((1 : Int32), y3.2)))
      else if x1 = (115 : Int32) then (
        (d_X3_shapeFromTop o x2 y1.2).bind fun y4 =>
        some (y4.1, y4.2))
      else (
        (d_X8_isNull o y1.1 y1.2).bind fun y5 =>
        if y5.1 = 0 then (
          some ((0 : Int32), y5.2))
        else (
          some ((1 : Int32), y5.2)))) f := id rfl
theorem tq_X4_isNegative (x0 : UInt64) (M : Mem) : d_X4_isNegative x0 M = (
      if (Op.cmpValue (FP.dcmp x0 FP.dconst0) .g) < 0 then (
        some ((1 : Int32), M))
      else (
        if (Op.cmpValue (FP.dcmp x0 FP.dconst0) .l) = 0 then (
          if 0 ≤ (Op.cmpValue (FP.dcmp (FP.ddiv FP.dconst1 x0) FP.dconst0) .g) then (
            some ((0 : Int32), M))
          else (
            some ((1 : Int32), M)))
        else (
          some ((0 : Int32), M)))) := id rfl
theorem bq_X4_isNegative {β : Type} (x0 : UInt64) (M : Mem) (f : Int32 × Mem → Option β) : (d_X4_isNegative x0 M).bind f = Option.bind (
      if (Op.cmpValue (FP.dcmp x0 FP.dconst0) .g) < 0 then (
        some ((1 : Int32), M))
      else (
        if (Op.cmpValue (FP.dcmp x0 FP.dconst0) .l) = 0 then (
          if 0 ≤ (Op.cmpValue (FP.dcmp (FP.ddiv FP.dconst1 x0) FP.dconst0) .g) then (
            some ((0 : Int32), M))
          else (
            some ((1 : Int32), M)))
        else (
          some ((0 : Int32), M)))) f := id rfl
theorem tq_X8_isSame (x1 : Int32) (M : Mem) : d_X8_isSame x1 M = (
      okk (vp_in x1 549) <|
      okk (vp_in x1 549) <|
      if (mI M 20 x1.toNatClampNeg) = (mI M 30 x1.toNatClampNeg) then (
        okk (vp_in x1 549) <|
        okk (vp_in x1 549) <|
        if (mI M 21 x1.toNatClampNeg) = (mI M 31 x1.toNatClampNeg) then (
          okk (vp_in x1 549) <|
          okk (vp_in x1 549) <|
          if (Op.cmpValue (FP.dcmp (mD M 22 x1.toNatClampNeg) (mD M 32 x1.toNatClampNeg)) .l) = 0 then (
            okk (vp_in x1 549) <|
            (d_X4_isNegative (mD M 22 x1.toNatClampNeg) M).bind fun y1 =>
            okk (vp_in x1 549) <|
            (d_X4_isNegative (mD y1.2 32 x1.toNatClampNeg) y1.2).bind fun y2 =>
            if y1.1 = y2.1 then (
              some ((1 : Int32), y2.2))
            else (
              some ((0 : Int32), y2.2)))
          else (
            some ((0 : Int32), M)))
        else (
          some ((0 : Int32), M)))
      else (
        some ((0 : Int32), M))) := id rfl
theorem bq_X8_isSame {β : Type} (x1 : Int32) (M : Mem) (f : Int32 × Mem → Option β) : (d_X8_isSame x1 M).bind f = Option.bind (
      okk (vp_in x1 549) <|
      okk (vp_in x1 549) <|
      if (mI M 20 x1.toNatClampNeg) = (mI M 30 x1.toNatClampNeg) then (
        okk (vp_in x1 549) <|
        okk (vp_in x1 549) <|
        if (mI M 21 x1.toNatClampNeg) = (mI M 31 x1.toNatClampNeg) then (
          okk (vp_in x1 549) <|
          okk (vp_in x1 549) <|
          if (Op.cmpValue (FP.dcmp (mD M 22 x1.toNatClampNeg) (mD M 32 x1.toNatClampNeg)) .l) = 0 then (
            okk (vp_in x1 549) <|
            (d_X4_isNegative (mD M 22 x1.toNatClampNeg) M).bind fun y1 =>
            okk (vp_in x1 549) <|
            (d_X4_isNegative (mD y1.2 32 x1.toNatClampNeg) y1.2).bind fun y2 =>
            if y1.1 = y2.1 then (
              some ((1 : Int32), y2.2))
            else (
              some ((0 : Int32), y2.2)))
          else (
            some ((0 : Int32), M)))
        else (
          some ((0 : Int32), M)))
      else (
        some ((0 : Int32), M))) f := id rfl
theorem tq_X3_hasToldLike_55 (k19 : (Int32 × Int32) → Mem → Option (Int32 × Mem)) (x3 : Int32) (s0 : Int32) (M : Mem) : d_X3_hasToldLike_55 k19 x3 s0 M = (
      bnd ((x3 + (1 : Int32))) fun b1 =>
      k19 (s0, b1) M) := id rfl
theorem bq_X3_hasToldLike_55 {β : Type} (k19 : (Int32 × Int32) → Mem → Option (Int32 × Mem)) (x3 : Int32) (s0 : Int32) (M : Mem) (f : Int32 × Mem → Option β) : (d_X3_hasToldLike_55 k19 x3 s0 M).bind f = Option.bind (
      bnd ((x3 + (1 : Int32))) fun b1 =>
      k19 (s0, b1) M) f := id rfl
theorem tq_X3_hasToldLike_54 (k19 : (Int32 × Int32) → Mem → Option (Int32 × Mem)) (x3 : Int32) (M : Mem) : d_X3_hasToldLike_54 k19 x3 M = (
      d_X3_hasToldLike_55 k19 x3 (0 : Int32) M) := id rfl
theorem bq_X3_hasToldLike_54 {β : Type} (k19 : (Int32 × Int32) → Mem → Option (Int32 × Mem)) (x3 : Int32) (M : Mem) (f : Int32 × Mem → Option β) : (d_X3_hasToldLike_54 k19 x3 M).bind f = Option.bind (
      d_X3_hasToldLike_55 k19 x3 (0 : Int32) M) f := id rfl
theorem tq_X3_hasToldLike_19b (k19 : (Int32 × Int32) → Mem → Option (Int32 × Mem)) (x2 : Int32) (x3 : Int32) (M : Mem) : d_X3_hasToldLike_19b k19 x2 x3 M = (
      if (mI M 18 11) ≤ x3 then (
        okk (isBo x2) <|
        some (x2, M))
      else (
        if x2 = 0 then (
          d_X3_hasToldLike_54 k19 x3 M)
        else (
          (d_X8_isSame ((528 : Int32) + x3) M).bind fun y1 =>
          if y1.1 = 0 then (
            d_X3_hasToldLike_54 k19 x3 y1.2)
          else (
            d_X3_hasToldLike_55 k19 x3 (1 : Int32) y1.2)))) := id rfl
theorem bq_X3_hasToldLike_19b {β : Type} (k19 : (Int32 × Int32) → Mem → Option (Int32 × Mem)) (x2 : Int32) (x3 : Int32) (M : Mem) (f : Int32 × Mem → Option β) : (d_X3_hasToldLike_19b k19 x2 x3 M).bind f = Option.bind (
      if (mI M 18 11) ≤ x3 then (
        okk (isBo x2) <|
        some (x2, M))
      else (
        if x2 = 0 then (
          d_X3_hasToldLike_54 k19 x3 M)
        else (
          (d_X8_isSame ((528 : Int32) + x3) M).bind fun y1 =>
          if y1.1 = 0 then (
            d_X3_hasToldLike_54 k19 x3 y1.2)
          else (
            d_X3_hasToldLike_55 k19 x3 (1 : Int32) y1.2)))) f := id rfl
theorem tq_X3_hasToldLike_16 (s0 : Int32) (M : Mem) : d_X3_hasToldLike_16 s0 M = (
      d_X3_hasToldLike_19 fuel (s0, (0 : Int32)) M) := id rfl
theorem bq_X3_hasToldLike_16 {β : Type} (s0 : Int32) (M : Mem) (f : Int32 × Mem → Option β) : (d_X3_hasToldLike_16 s0 M).bind f = Option.bind (
      d_X3_hasToldLike_19 fuel (s0, (0 : Int32)) M) f := id rfl
theorem tq_X3_hasToldLike (M : Mem) : d_X3_hasToldLike M = (
      if (mI M 18 11) = (mI M 28 11) then (
        d_X3_hasToldLike_16 (1 : Int32) M)
      else (
        d_X3_hasToldLike_16 (0 : Int32) M)) := id rfl
theorem bq_X3_hasToldLike {β : Type} (M : Mem) (f : Int32 × Mem → Option β) : (d_X3_hasToldLike M).bind f = Option.bind (
      if (mI M 18 11) = (mI M 28 11) then (
        d_X3_hasToldLike_16 (1 : Int32) M)
      else (
        d_X3_hasToldLike_16 (0 : Int32) M)) f := id rfl
theorem tq_X3_hasFieldsLike_60 (k5 : (Int32 × Int32) → Mem → Option (Int32 × Mem)) (x1 : Int32) (x3 : Int32) (x4 : Int32) (M : Mem) : d_X3_hasFieldsLike_60 k5 x1 x3 x4 M = (
      bnd ((x4 + (1 : Int32))) fun b1 =>
      k5 (x3, b1) M) := id rfl
theorem bq_X3_hasFieldsLike_60 {β : Type} (k5 : (Int32 × Int32) → Mem → Option (Int32 × Mem)) (x1 : Int32) (x3 : Int32) (x4 : Int32) (M : Mem) (f : Int32 × Mem → Option β) : (d_X3_hasFieldsLike_60 k5 x1 x3 x4 M).bind f = Option.bind (
      bnd ((x4 + (1 : Int32))) fun b1 =>
      k5 (x3, b1) M) f := id rfl
theorem tq_X3_hasFieldsLike_59 (k5 : (Int32 × Int32) → Mem → Option (Int32 × Mem)) (x1 : Int32) (x4 : Int32) (s0 : Int32) (M : Mem) : d_X3_hasFieldsLike_59 k5 x1 x4 s0 M = (
      d_X3_hasFieldsLike_60 k5 x1 s0 x4 M) := id rfl
theorem bq_X3_hasFieldsLike_59 {β : Type} (k5 : (Int32 × Int32) → Mem → Option (Int32 × Mem)) (x1 : Int32) (x4 : Int32) (s0 : Int32) (M : Mem) (f : Int32 × Mem → Option β) : (d_X3_hasFieldsLike_59 k5 x1 x4 s0 M).bind f = Option.bind (
      d_X3_hasFieldsLike_60 k5 x1 s0 x4 M) f := id rfl
theorem tq_X3_hasFieldsLike_58 (k5 : (Int32 × Int32) → Mem → Option (Int32 × Mem)) (x1 : Int32) (x4 : Int32) (M : Mem) : d_X3_hasFieldsLike_58 k5 x1 x4 M = (
      d_X3_hasFieldsLike_59 k5 x1 x4 (0 : Int32) M) := id rfl
theorem bq_X3_hasFieldsLike_58 {β : Type} (k5 : (Int32 × Int32) → Mem → Option (Int32 × Mem)) (x1 : Int32) (x4 : Int32) (M : Mem) (f : Int32 × Mem → Option β) : (d_X3_hasFieldsLike_58 k5 x1 x4 M).bind f = Option.bind (
      d_X3_hasFieldsLike_59 k5 x1 x4 (0 : Int32) M) f := id rfl
theorem tq_X3_hasFieldsLike_5b (k5 : (Int32 × Int32) → Mem → Option (Int32 × Mem)) (x1 : Int32) (x3 : Int32) (x4 : Int32) (M : Mem) : d_X3_hasFieldsLike_5b k5 x1 x3 x4 M = (
      if (6 : Int32) ≤ x4 then (
        okk (isBo x3) <|
        some (x3, M))
      else (
        okk (vp_in x1 60) <|
        (d_X7_has (mI M 27 x1.toNatClampNeg) x4 M).bind fun y1 =>
        if y1.1 = 0 then (
          d_X3_hasFieldsLike_60 k5 x1 x3 x4 y1.2)
        else (
          if x3 = 0 then (
            d_X3_hasFieldsLike_58 k5 x1 x4 y1.2)
          else (
            (d_X11_fieldPlace x1 x4 y1.2).bind fun y2 =>
            (d_X8_isSame y2.1 y2.2).bind fun y3 =>
            if y3.1 = 0 then (
              d_X3_hasFieldsLike_58 k5 x1 x4 y3.2)
            else (
              d_X3_hasFieldsLike_59 k5 x1 x4 (1 : Int32) y3.2))))) := id rfl
theorem bq_X3_hasFieldsLike_5b {β : Type} (k5 : (Int32 × Int32) → Mem → Option (Int32 × Mem)) (x1 : Int32) (x3 : Int32) (x4 : Int32) (M : Mem) (f : Int32 × Mem → Option β) : (d_X3_hasFieldsLike_5b k5 x1 x3 x4 M).bind f = Option.bind (
      if (6 : Int32) ≤ x4 then (
        okk (isBo x3) <|
        some (x3, M))
      else (
        okk (vp_in x1 60) <|
        (d_X7_has (mI M 27 x1.toNatClampNeg) x4 M).bind fun y1 =>
        if y1.1 = 0 then (
          d_X3_hasFieldsLike_60 k5 x1 x3 x4 y1.2)
        else (
          if x3 = 0 then (
            d_X3_hasFieldsLike_58 k5 x1 x4 y1.2)
          else (
            (d_X11_fieldPlace x1 x4 y1.2).bind fun y2 =>
            (d_X8_isSame y2.1 y2.2).bind fun y3 =>
            if y3.1 = 0 then (
              d_X3_hasFieldsLike_58 k5 x1 x4 y3.2)
            else (
              d_X3_hasFieldsLike_59 k5 x1 x4 (1 : Int32) y3.2))))) f := id rfl
theorem tq_X3_hasFieldsLike (x1 : Int32) (M : Mem) : d_X3_hasFieldsLike x1 M = (
      d_X3_hasFieldsLike_5 x1 fuel ((1 : Int32), (0 : Int32)) M) := id rfl
theorem bq_X3_hasFieldsLike {β : Type} (x1 : Int32) (M : Mem) (f : Int32 × Mem → Option β) : (d_X3_hasFieldsLike x1 M).bind f = Option.bind (
      d_X3_hasFieldsLike_5 x1 fuel ((1 : Int32), (0 : Int32)) M) f := id rfl
theorem tq_X3_hasObjectsLike_60 (k19 : (Int32 × Int32) → Mem → Option (Int32 × Mem)) (x3 : Int32) (s0 : Int32) (M : Mem) : d_X3_hasObjectsLike_60 k19 x3 s0 M = (
      bnd ((x3 + (1 : Int32))) fun b1 =>
      k19 (s0, b1) M) := id rfl
theorem bq_X3_hasObjectsLike_60 {β : Type} (k19 : (Int32 × Int32) → Mem → Option (Int32 × Mem)) (x3 : Int32) (s0 : Int32) (M : Mem) (f : Int32 × Mem → Option β) : (d_X3_hasObjectsLike_60 k19 x3 s0 M).bind f = Option.bind (
      bnd ((x3 + (1 : Int32))) fun b1 =>
      k19 (s0, b1) M) f := id rfl
theorem tq_X3_hasObjectsLike_59 (k19 : (Int32 × Int32) → Mem → Option (Int32 × Mem)) (x3 : Int32) (M : Mem) : d_X3_hasObjectsLike_59 k19 x3 M = (
      d_X3_hasObjectsLike_60 k19 x3 (0 : Int32) M) := id rfl
theorem bq_X3_hasObjectsLike_59 {β : Type} (k19 : (Int32 × Int32) → Mem → Option (Int32 × Mem)) (x3 : Int32) (M : Mem) (f : Int32 × Mem → Option β) : (d_X3_hasObjectsLike_59 k19 x3 M).bind f = Option.bind (
      d_X3_hasObjectsLike_60 k19 x3 (0 : Int32) M) f := id rfl
theorem tq_X3_hasObjectsLike_19b (k19 : (Int32 × Int32) → Mem → Option (Int32 × Mem)) (x2 : Int32) (x3 : Int32) (M : Mem) : d_X3_hasObjectsLike_19b k19 x2 x3 M = (
      if (mI M 18 10) ≤ x3 then (
        okk (isBo x2) <|
        some (x2, M))
      else (
        if x2 = 0 then (
          d_X3_hasObjectsLike_59 k19 x3 M)
        else (
          okk (vp_in x3 60) <|
          okk (vp_in x3 60) <|
          if (mI M 27 x3.toNatClampNeg) = (mI M 37 x3.toNatClampNeg) then (
            (d_X3_hasFieldsLike x3 M).bind fun y1 =>
            if y1.1 = 0 then (
              d_X3_hasObjectsLike_59 k19 x3 y1.2)
            else (
              d_X3_hasObjectsLike_60 k19 x3 (1 : Int32) y1.2))
          else (
            d_X3_hasObjectsLike_59 k19 x3 M)))) := id rfl
theorem bq_X3_hasObjectsLike_19b {β : Type} (k19 : (Int32 × Int32) → Mem → Option (Int32 × Mem)) (x2 : Int32) (x3 : Int32) (M : Mem) (f : Int32 × Mem → Option β) : (d_X3_hasObjectsLike_19b k19 x2 x3 M).bind f = Option.bind (
      if (mI M 18 10) ≤ x3 then (
        okk (isBo x2) <|
        some (x2, M))
      else (
        if x2 = 0 then (
          d_X3_hasObjectsLike_59 k19 x3 M)
        else (
          okk (vp_in x3 60) <|
          okk (vp_in x3 60) <|
          if (mI M 27 x3.toNatClampNeg) = (mI M 37 x3.toNatClampNeg) then (
            (d_X3_hasFieldsLike x3 M).bind fun y1 =>
            if y1.1 = 0 then (
              d_X3_hasObjectsLike_59 k19 x3 y1.2)
            else (
              d_X3_hasObjectsLike_60 k19 x3 (1 : Int32) y1.2))
          else (
            d_X3_hasObjectsLike_59 k19 x3 M)))) f := id rfl
theorem tq_X3_hasObjectsLike_16 (s0 : Int32) (M : Mem) : d_X3_hasObjectsLike_16 s0 M = (
      d_X3_hasObjectsLike_19 fuel (s0, (0 : Int32)) M) := id rfl
theorem bq_X3_hasObjectsLike_16 {β : Type} (s0 : Int32) (M : Mem) (f : Int32 × Mem → Option β) : (d_X3_hasObjectsLike_16 s0 M).bind f = Option.bind (
      d_X3_hasObjectsLike_19 fuel (s0, (0 : Int32)) M) f := id rfl
theorem tq_X3_hasObjectsLike (M : Mem) : d_X3_hasObjectsLike M = (
      if (mI M 18 10) = (mI M 28 10) then (
        d_X3_hasObjectsLike_16 (1 : Int32) M)
      else (
        d_X3_hasObjectsLike_16 (0 : Int32) M)) := id rfl
theorem bq_X3_hasObjectsLike {β : Type} (M : Mem) (f : Int32 × Mem → Option β) : (d_X3_hasObjectsLike M).bind f = Option.bind (
      if (mI M 18 10) = (mI M 28 10) then (
        d_X3_hasObjectsLike_16 (1 : Int32) M)
      else (
        d_X3_hasObjectsLike_16 (0 : Int32) M)) f := id rfl
theorem tq_X3_endedLike_70 (M : Mem) : d_X3_endedLike_70 M = (
      (d_X3_hasToldLike M).bind fun y1 =>
      if y1.1 = 0 then (
        some ((0 : Int32), y1.2))
      else (
        (d_X3_hasObjectsLike y1.2).bind fun y2 =>
        if y2.1 = 0 then (
          some ((0 : Int32), y2.2))
        else (
          some ((1 : Int32), y2.2)))) := id rfl
theorem bq_X3_endedLike_70 {β : Type} (M : Mem) (f : Int32 × Mem → Option β) : (d_X3_endedLike_70 M).bind f = Option.bind (
      (d_X3_hasToldLike M).bind fun y1 =>
      if y1.1 = 0 then (
        some ((0 : Int32), y1.2))
      else (
        (d_X3_hasObjectsLike y1.2).bind fun y2 =>
        if y2.1 = 0 then (
          some ((0 : Int32), y2.2))
        else (
          some ((1 : Int32), y2.2)))) f := id rfl
theorem tq_X3_endedLike (M : Mem) : d_X3_endedLike M = (
      if (mI M 18 13) = (mI M 28 13) then (
        if (mI M 18 14) = (mI M 28 14) then (
          if (mI M 18 15) = (mI M 28 15) then (
            if (mI M 18 12) = (mI M 28 12) then (
              if (mI M 18 13) = (118 : Int32) then (
                (d_X8_isSame (548 : Int32) M).bind fun y1 =>
                if y1.1 = 0 then (
                  some ((0 : Int32), y1.2))
                else (
                  d_X3_endedLike_70 y1.2))
              else (
                d_X3_endedLike_70 M))
            else (
              some ((0 : Int32), M)))
          else (
            some ((0 : Int32), M)))
        else (
          some ((0 : Int32), M)))
      else (
        some ((0 : Int32), M))) := id rfl
theorem bq_X3_endedLike {β : Type} (M : Mem) (f : Int32 × Mem → Option β) : (d_X3_endedLike M).bind f = Option.bind (
      if (mI M 18 13) = (mI M 28 13) then (
        if (mI M 18 14) = (mI M 28 14) then (
          if (mI M 18 15) = (mI M 28 15) then (
            if (mI M 18 12) = (mI M 28 12) then (
              if (mI M 18 13) = (118 : Int32) then (
                (d_X8_isSame (548 : Int32) M).bind fun y1 =>
                if y1.1 = 0 then (
                  some ((0 : Int32), y1.2))
                else (
                  d_X3_endedLike_70 y1.2))
              else (
                d_X3_endedLike_70 M))
            else (
              some ((0 : Int32), M)))
          else (
            some ((0 : Int32), M)))
        else (
          some ((0 : Int32), M)))
      else (
        some ((0 : Int32), M))) f := id rfl
theorem tq_X4_bitsOf_142 (x2 : Int64) (x4 : UInt64) (x6 : Int64) (M : Mem) : d_X4_bitsOf_142 x2 x4 x6 M = (
      bnd ((FP.d2l x4)) fun b1 =>
      if 0 ≤ (lg_cmp b1 (4503599627370496 : Int64)) then (
        some (((x2 ||| (x6 <<< ((52 : Int32).toInt64 &&& 63))) ||| (b1 &&& (4503599627370495 : Int64))), M))
      else (
        some ((x2 ||| b1), M))) := id rfl
theorem bq_X4_bitsOf_142 {β : Type} (x2 : Int64) (x4 : UInt64) (x6 : Int64) (M : Mem) (f : Int64 × Mem → Option β) : (d_X4_bitsOf_142 x2 x4 x6 M).bind f = Option.bind (
      bnd ((FP.d2l x4)) fun b1 =>
      if 0 ≤ (lg_cmp b1 (4503599627370496 : Int64)) then (
        some (((x2 ||| (x6 <<< ((52 : Int32).toInt64 &&& 63))) ||| (b1 &&& (4503599627370495 : Int64))), M))
      else (
        some ((x2 ||| b1), M))) f := id rfl
theorem tq_X4_bitsOf_98b (k98 : (UInt64 × Int64 × Int32) → Mem → Option (Int64 × Mem)) (x2 : Int64) (x4 : UInt64) (x6 : Int64) (x8 : Int32) (M : Mem) : d_X4_bitsOf_98b k98 x2 x4 x6 x8 M = (
      if (2000 : Int32) ≤ x8 then (
        d_X4_bitsOf_142 x2 x4 x6 M)
      else (
        if 0 ≤ (Op.cmpValue (FP.dcmp x4 (4841369599423283200 : UInt64)) .g) then (
          d_X4_bitsOf_142 x2 x4 x6 M)
        else (
          if (lg_cmp x6 (1 : Int64)) ≤ 0 then (
            d_X4_bitsOf_142 x2 x4 x6 M)
          else (
            bnd ((FP.dmul x4 (4611686018427387904 : UInt64))) fun b1 =>
            bnd ((x6 - (1 : Int64))) fun b2 =>
            bnd ((x8 + (1 : Int32))) fun b3 =>
            k98 (b1, b2, b3) M)))) := id rfl
theorem bq_X4_bitsOf_98b {β : Type} (k98 : (UInt64 × Int64 × Int32) → Mem → Option (Int64 × Mem)) (x2 : Int64) (x4 : UInt64) (x6 : Int64) (x8 : Int32) (M : Mem) (f : Int64 × Mem → Option β) : (d_X4_bitsOf_98b k98 x2 x4 x6 x8 M).bind f = Option.bind (
      if (2000 : Int32) ≤ x8 then (
        d_X4_bitsOf_142 x2 x4 x6 M)
      else (
        if 0 ≤ (Op.cmpValue (FP.dcmp x4 (4841369599423283200 : UInt64)) .g) then (
          d_X4_bitsOf_142 x2 x4 x6 M)
        else (
          if (lg_cmp x6 (1 : Int64)) ≤ 0 then (
            d_X4_bitsOf_142 x2 x4 x6 M)
          else (
            bnd ((FP.dmul x4 (4611686018427387904 : UInt64))) fun b1 =>
            bnd ((x6 - (1 : Int64))) fun b2 =>
            bnd ((x8 + (1 : Int32))) fun b3 =>
            k98 (b1, b2, b3) M)))) f := id rfl
theorem tq_X4_bitsOf_95 (x2 : Int64) (x4 : UInt64) (x6 : Int64) (M : Mem) : d_X4_bitsOf_95 x2 x4 x6 M = (
      d_X4_bitsOf_98 x2 fuel (x4, x6, (0 : Int32)) M) := id rfl
theorem bq_X4_bitsOf_95 {β : Type} (x2 : Int64) (x4 : UInt64) (x6 : Int64) (M : Mem) (f : Int64 × Mem → Option β) : (d_X4_bitsOf_95 x2 x4 x6 M).bind f = Option.bind (
      d_X4_bitsOf_98 x2 fuel (x4, x6, (0 : Int32)) M) f := id rfl
theorem tq_X4_bitsOf_58b (k58 : (UInt64 × Int64 × Int32) → Mem → Option (Int64 × Mem)) (x2 : Int64) (x4 : UInt64) (x6 : Int64) (x8 : Int32) (M : Mem) : d_X4_bitsOf_58b k58 x2 x4 x6 x8 M = (
      if (2000 : Int32) ≤ x8 then (
        d_X4_bitsOf_95 x2 x4 x6 M)
      else (
        if (Op.cmpValue (FP.dcmp x4 (4845873199050653696 : UInt64)) .l) < 0 then (
          d_X4_bitsOf_95 x2 x4 x6 M)
        else (
          bnd ((FP.ddiv x4 (4611686018427387904 : UInt64))) fun b1 =>
          bnd ((x6 + (1 : Int64))) fun b2 =>
          bnd ((x8 + (1 : Int32))) fun b3 =>
          k58 (b1, b2, b3) M))) := id rfl
theorem bq_X4_bitsOf_58b {β : Type} (k58 : (UInt64 × Int64 × Int32) → Mem → Option (Int64 × Mem)) (x2 : Int64) (x4 : UInt64) (x6 : Int64) (x8 : Int32) (M : Mem) (f : Int64 × Mem → Option β) : (d_X4_bitsOf_58b k58 x2 x4 x6 x8 M).bind f = Option.bind (
      if (2000 : Int32) ≤ x8 then (
        d_X4_bitsOf_95 x2 x4 x6 M)
      else (
        if (Op.cmpValue (FP.dcmp x4 (4845873199050653696 : UInt64)) .l) < 0 then (
          d_X4_bitsOf_95 x2 x4 x6 M)
        else (
          bnd ((FP.ddiv x4 (4611686018427387904 : UInt64))) fun b1 =>
          bnd ((x6 + (1 : Int64))) fun b2 =>
          bnd ((x8 + (1 : Int32))) fun b3 =>
          k58 (b1, b2, b3) M))) f := id rfl
theorem tq_X4_bitsOf_48 (x2 : Int64) (s0 : UInt64) (M : Mem) : d_X4_bitsOf_48 x2 s0 M = (
      bnd ((1075 : Int64)) fun b1 =>
      d_X4_bitsOf_58 x2 fuel (s0, b1, (0 : Int32)) M) := id rfl
theorem bq_X4_bitsOf_48 {β : Type} (x2 : Int64) (s0 : UInt64) (M : Mem) (f : Int64 × Mem → Option β) : (d_X4_bitsOf_48 x2 s0 M).bind f = Option.bind (
      bnd ((1075 : Int64)) fun b1 =>
      d_X4_bitsOf_58 x2 fuel (s0, b1, (0 : Int32)) M) f := id rfl
theorem tq_X4_bitsOf_14 (x0 : UInt64) (s0 : Int64) (M : Mem) : d_X4_bitsOf_14 x0 s0 M = (
      if (Op.cmpValue (FP.dcmp x0 FP.dconst0) .l) = 0 then (
        some (s0, M))
      else (
        (d_X4_isEndless x0 M).bind fun y1 =>
        if y1.1 = 0 then (
          if 0 ≤ (Op.cmpValue (FP.dcmp x0 FP.dconst0) .g) then (
            d_X4_bitsOf_48 s0 x0 y1.2)
          else (
            d_X4_bitsOf_48 s0 (FP.dneg x0) y1.2))
        else (
          some ((s0 ||| (9218868437227405312 : Int64)), y1.2)))) := id rfl
theorem bq_X4_bitsOf_14 {β : Type} (x0 : UInt64) (s0 : Int64) (M : Mem) (f : Int64 × Mem → Option β) : (d_X4_bitsOf_14 x0 s0 M).bind f = Option.bind (
      if (Op.cmpValue (FP.dcmp x0 FP.dconst0) .l) = 0 then (
        some (s0, M))
      else (
        (d_X4_isEndless x0 M).bind fun y1 =>
        if y1.1 = 0 then (
          if 0 ≤ (Op.cmpValue (FP.dcmp x0 FP.dconst0) .g) then (
            d_X4_bitsOf_48 s0 x0 y1.2)
          else (
            d_X4_bitsOf_48 s0 (FP.dneg x0) y1.2))
        else (
          some ((s0 ||| (9218868437227405312 : Int64)), y1.2)))) f := id rfl
theorem tq_X4_bitsOf (x0 : UInt64) (M : Mem) : d_X4_bitsOf x0 M = (
      (d_X4_isNegative x0 M).bind fun y1 =>
      if y1.1 = 0 then (
        d_X4_bitsOf_14 x0 (0 : Int64) y1.2)
      else (
        d_X4_bitsOf_14 x0 (-9223372036854775808 : Int64) y1.2)) := id rfl
theorem bq_X4_bitsOf {β : Type} (x0 : UInt64) (M : Mem) (f : Int64 × Mem → Option β) : (d_X4_bitsOf x0 M).bind f = Option.bind (
      (d_X4_isNegative x0 M).bind fun y1 =>
      if y1.1 = 0 then (
        d_X4_bitsOf_14 x0 (0 : Int64) y1.2)
      else (
        d_X4_bitsOf_14 x0 (-9223372036854775808 : Int64) y1.2)) f := id rfl
theorem tq_X5_hasFunction (x1 : Int32) (M : Mem) : d_X5_hasFunction x1 M = (
      if x1 < 0 then (
        some ((0 : Int32), M))
      else (
        if (mI M 2 8) ≤ x1 then (
          some ((0 : Int32), M))
        else (
          some ((1 : Int32), M)))) := id rfl
theorem bq_X5_hasFunction {β : Type} (x1 : Int32) (M : Mem) (f : Int32 × Mem → Option β) : (d_X5_hasFunction x1 M).bind f = Option.bind (
      if x1 < 0 then (
        some ((0 : Int32), M))
      else (
        if (mI M 2 8) ≤ x1 then (
          some ((0 : Int32), M))
        else (
          some ((1 : Int32), M)))) f := id rfl
theorem tq_X5_hasClass (x1 : Int32) (M : Mem) : d_X5_hasClass x1 M = (
      if x1 < 0 then (
        some ((0 : Int32), M))
      else (
        if (mI M 2 9) ≤ x1 then (
          some ((0 : Int32), M))
        else (
          some ((1 : Int32), M)))) := id rfl
theorem bq_X5_hasClass {β : Type} (x1 : Int32) (M : Mem) (f : Int32 × Mem → Option β) : (d_X5_hasClass x1 M).bind f = Option.bind (
      if x1 < 0 then (
        some ((0 : Int32), M))
      else (
        if (mI M 2 9) ≤ x1 then (
          some ((0 : Int32), M))
        else (
          some ((1 : Int32), M)))) f := id rfl
theorem tq_X5_addFunctionWith (x1 : Int32) (M : Mem) : d_X5_addFunctionWith x1 M = (
      okk (vp_in (mI M 2 8) 8) <|
      bnd (sI M 3 (mI M 2 8).toNatClampNeg x1) fun M1 =>
      bnd (sI M1 2 8 ((mI M1 2 8) + (1 : Int32))) fun M2 =>
      some (((mI M2 2 8) - (1 : Int32)), M2)) := id rfl
theorem bq_X5_addFunctionWith {β : Type} (x1 : Int32) (M : Mem) (f : Int32 × Mem → Option β) : (d_X5_addFunctionWith x1 M).bind f = Option.bind (
      okk (vp_in (mI M 2 8) 8) <|
      bnd (sI M 3 (mI M 2 8).toNatClampNeg x1) fun M1 =>
      bnd (sI M1 2 8 ((mI M1 2 8) + (1 : Int32))) fun M2 =>
      some (((mI M2 2 8) - (1 : Int32)), M2)) f := id rfl
theorem tq_X5_addClassBelow (x1 : Int32) (M : Mem) : d_X5_addClassBelow x1 M = (
      okk (vp_in (mI M 2 9) 5) <|
      bnd (sI M 9 (mI M 2 9).toNatClampNeg x1) fun M1 =>
      bnd (sI M1 2 9 ((mI M1 2 9) + (1 : Int32))) fun M2 =>
      some (((mI M2 2 9) - (1 : Int32)), M2)) := id rfl
theorem bq_X5_addClassBelow {β : Type} (x1 : Int32) (M : Mem) (f : Int32 × Mem → Option β) : (d_X5_addClassBelow x1 M).bind f = Option.bind (
      okk (vp_in (mI M 2 9) 5) <|
      bnd (sI M 9 (mI M 2 9).toNatClampNeg x1) fun M1 =>
      bnd (sI M1 2 9 ((mI M1 2 9) + (1 : Int32))) fun M2 =>
      some (((mI M2 2 9) - (1 : Int32)), M2)) f := id rfl
theorem tq_X5_append (x1 : Int32) (x2 : Int32) (x3 : Int32) (M : Mem) : d_X5_append x1 x2 x3 M = (
      okk (vp_in x1 8) <|
      (d_X11_siteOf x1 (mI M 4 x1.toNatClampNeg) M).bind fun y1 =>
      okk (vp_in y1.1 320) <|
      okk (isCh x2) <|
      bnd (sI y1.2 6 y1.1.toNatClampNeg x2) fun M1 =>
      okk (vp_in y1.1 320) <|
      bnd (sI M1 7 y1.1.toNatClampNeg x3) fun M2 =>
      okk (vp_in x1 8) <|
      okk (vp_in x1 8) <|
      bnd (sI M2 4 x1.toNatClampNeg ((mI M2 4 x1.toNatClampNeg) + (1 : Int32))) fun M3 =>
      okk (vp_in x1 8) <|
      some ((mI M3 4 x1.toNatClampNeg), M3)) := id rfl
theorem bq_X5_append {β : Type} (x1 : Int32) (x2 : Int32) (x3 : Int32) (M : Mem) (f : Int32 × Mem → Option β) : (d_X5_append x1 x2 x3 M).bind f = Option.bind (
      okk (vp_in x1 8) <|
      (d_X11_siteOf x1 (mI M 4 x1.toNatClampNeg) M).bind fun y1 =>
      okk (vp_in y1.1 320) <|
      okk (isCh x2) <|
      bnd (sI y1.2 6 y1.1.toNatClampNeg x2) fun M1 =>
      okk (vp_in y1.1 320) <|
      bnd (sI M1 7 y1.1.toNatClampNeg x3) fun M2 =>
      okk (vp_in x1 8) <|
      okk (vp_in x1 8) <|
      bnd (sI M2 4 x1.toNatClampNeg ((mI M2 4 x1.toNatClampNeg) + (1 : Int32))) fun M3 =>
      okk (vp_in x1 8) <|
      some ((mI M3 4 x1.toNatClampNeg), M3)) f := id rfl
theorem tq_X5_operandBound (x1 : Int32) (M : Mem) : d_X5_operandBound x1 M = (
      if x1 = (99 : Int32) then (
        some ((mI M 2 8), M))
      else if x1 = (103 : Int32) ∨ x1 = (109 : Int32) ∨ x1 = (112 : Int32) then (
        some ((6 : Int32), M))
      else if x1 = (106 : Int32) ∨ x1 = (122 : Int32) then (
        some ((40 : Int32), M))
      else if x1 = (107 : Int32) then (
        some ((8 : Int32), M))
      else if x1 = (108 : Int32) ∨ x1 = (115 : Int32) then (
        some ((6 : Int32), M))
      else if x1 = (110 : Int32) then (
        some ((mI M 2 9), M))
      else (
        some ((1 : Int32), M))) := id rfl
theorem bq_X5_operandBound {β : Type} (x1 : Int32) (M : Mem) (f : Int32 × Mem → Option β) : (d_X5_operandBound x1 M).bind f = Option.bind (
      if x1 = (99 : Int32) then (
        some ((mI M 2 8), M))
      else if x1 = (103 : Int32) ∨ x1 = (109 : Int32) ∨ x1 = (112 : Int32) then (
        some ((6 : Int32), M))
      else if x1 = (106 : Int32) ∨ x1 = (122 : Int32) then (
        some ((40 : Int32), M))
      else if x1 = (107 : Int32) then (
        some ((8 : Int32), M))
      else if x1 = (108 : Int32) ∨ x1 = (115 : Int32) then (
        some ((6 : Int32), M))
      else if x1 = (110 : Int32) then (
        some ((mI M 2 9), M))
      else (
        some ((1 : Int32), M))) f := id rfl
theorem tq_X5_allowsOperand (x1 : Int32) (x2 : Int32) (M : Mem) : d_X5_allowsOperand x1 x2 M = (
      if x1 = (105 : Int32) then (
        some ((1 : Int32), M))
      else (
        if x2 < 0 then (
          some ((0 : Int32), M))
        else (
          (d_X5_operandBound x1 M).bind fun y1 =>
          if y1.1 ≤ x2 then (
            some ((0 : Int32), y1.2))
          else (
            some ((1 : Int32), y1.2))))) := id rfl
theorem bq_X5_allowsOperand {β : Type} (x1 : Int32) (x2 : Int32) (M : Mem) (f : Int32 × Mem → Option β) : (d_X5_allowsOperand x1 x2 M).bind f = Option.bind (
      if x1 = (105 : Int32) then (
        some ((1 : Int32), M))
      else (
        if x2 < 0 then (
          some ((0 : Int32), M))
        else (
          (d_X5_operandBound x1 M).bind fun y1 =>
          if y1.1 ≤ x2 then (
            some ((0 : Int32), y1.2))
          else (
            some ((1 : Int32), y1.2))))) f := id rfl
theorem tq_X6_begin_28b (k28 : (Int32) → Mem → Option (Unit × Mem)) (x4 : Int32) (M : Mem) : d_X6_begin_28b k28 x4 M = (
      if (168 : Int32) ≤ x4 then (
        bnd (sI M 48 9 (168 : Int32)) fun M1 =>
        some ((), M1))
      else (
        okk (vp_in x4 549) <|
        bnd (sI M 23 x4.toNatClampNeg x4) fun M2 =>
        okk (vp_in x4 378) <|
        bnd (sI M2 55 x4.toNatClampNeg (0 : Int32)) fun M3 =>
        bnd ((x4 + (1 : Int32))) fun b1 =>
        k28 (b1) M3)) := id rfl
theorem bq_X6_begin_28b {β : Type} (k28 : (Int32) → Mem → Option (Unit × Mem)) (x4 : Int32) (M : Mem) (f : Unit × Mem → Option β) : (d_X6_begin_28b k28 x4 M).bind f = Option.bind (
      if (168 : Int32) ≤ x4 then (
        bnd (sI M 48 9 (168 : Int32)) fun M1 =>
        some ((), M1))
      else (
        okk (vp_in x4 549) <|
        bnd (sI M 23 x4.toNatClampNeg x4) fun M2 =>
        okk (vp_in x4 378) <|
        bnd (sI M2 55 x4.toNatClampNeg (0 : Int32)) fun M3 =>
        bnd ((x4 + (1 : Int32))) fun b1 =>
        k28 (b1) M3)) f := id rfl
theorem tq_X6_begin (x2 : Int32) (x3 : Int32) (M : Mem) : d_X6_begin x2 x3 M = (
      bnd (sI M 48 10 (1 : Int32)) fun M1 =>
      bnd (sI M1 48 11 x2) fun M2 =>
      bnd (sI M2 48 12 x3) fun M3 =>
      bnd (sI M3 48 7 (0 : Int32)) fun M4 =>
      bnd (sI M4 48 8 (0 : Int32)) fun M5 =>
      d_X6_begin_28 fuel ((0 : Int32)) M5) := id rfl
theorem bq_X6_begin {β : Type} (x2 : Int32) (x3 : Int32) (M : Mem) (f : Unit × Mem → Option β) : (d_X6_begin x2 x3 M).bind f = Option.bind (
      bnd (sI M 48 10 (1 : Int32)) fun M1 =>
      bnd (sI M1 48 11 x2) fun M2 =>
      bnd (sI M2 48 12 x3) fun M3 =>
      bnd (sI M3 48 7 (0 : Int32)) fun M4 =>
      bnd (sI M4 48 8 (0 : Int32)) fun M5 =>
      d_X6_begin_28 fuel ((0 : Int32)) M5) f := id rfl
theorem tq_X6_beginRoot (x2 : Int32) (M : Mem) : d_X6_beginRoot x2 M = (
      bnd (sI M 48 13 (-1 : Int32)) fun M1 =>
      bnd (sI M1 48 14 (-1 : Int32)) fun M2 =>
      (d_X6_begin x2 (mI M2 18 9) M2).bind fun y1 =>
      some ((), y1.2)) := id rfl
theorem bq_X6_beginRoot {β : Type} (x2 : Int32) (M : Mem) (f : Unit × Mem → Option β) : (d_X6_beginRoot x2 M).bind f = Option.bind (
      bnd (sI M 48 13 (-1 : Int32)) fun M1 =>
      bnd (sI M1 48 14 (-1 : Int32)) fun M2 =>
      (d_X6_begin x2 (mI M2 18 9) M2).bind fun y1 =>
      some ((), y1.2)) f := id rfl
theorem tq_X6_beginSide (r2 : Nat) (x3 : Int32) (x4 : Int32) (x5 : Int32) (M : Mem) : d_X6_beginSide r2 x3 x4 x5 M = (
      bnd (sI M 48 13 x3) fun M1 =>
      bnd (sI M1 48 14 x4) fun M2 =>
      okk (mK M2 r2 = 9) <|
      (d_X6_begin (mI M2 r2 13) x5 M2).bind fun y1 =>
      some ((), y1.2)) := id rfl
theorem bq_X6_beginSide {β : Type} (r2 : Nat) (x3 : Int32) (x4 : Int32) (x5 : Int32) (M : Mem) (f : Unit × Mem → Option β) : (d_X6_beginSide r2 x3 x4 x5 M).bind f = Option.bind (
      bnd (sI M 48 13 x3) fun M1 =>
      bnd (sI M1 48 14 x4) fun M2 =>
      okk (mK M2 r2 = 9) <|
      (d_X6_begin (mI M2 r2 13) x5 M2).bind fun y1 =>
      some ((), y1.2)) f := id rfl
theorem tq_X6_isFull (M : Mem) : d_X6_isFull M = (
      if (mI M 48 7) < (30 : Int32) then (
        some ((0 : Int32), M))
      else (
        some ((1 : Int32), M))) := id rfl
theorem bq_X6_isFull {β : Type} (M : Mem) (f : Int32 × Mem → Option β) : (d_X6_isFull M).bind f = Option.bind (
      if (mI M 48 7) < (30 : Int32) then (
        some ((0 : Int32), M))
      else (
        some ((1 : Int32), M))) f := id rfl
theorem tq_X6_isClosedBy (M : Mem) : d_X6_isClosedBy M = (
      if (mI M 18 9) = (mI M 48 12) then (
        (d_X3_siteAhead 18 M).bind fun y1 =>
        if y1.1 = (mI y1.2 48 11) then (
          some ((1 : Int32), y1.2))
        else (
          some ((0 : Int32), y1.2)))
      else (
        some ((0 : Int32), M))) := id rfl
theorem bq_X6_isClosedBy {β : Type} (M : Mem) (f : Int32 × Mem → Option β) : (d_X6_isClosedBy M).bind f = Option.bind (
      if (mI M 18 9) = (mI M 48 12) then (
        (d_X3_siteAhead 18 M).bind fun y1 =>
        if y1.1 = (mI y1.2 48 11) then (
          some ((1 : Int32), y1.2))
        else (
          some ((0 : Int32), y1.2)))
      else (
        some ((0 : Int32), M))) f := id rfl
theorem tq_X6_isKnown (x2 : Int32) (x3 : Int32) (M : Mem) : d_X6_isKnown x2 x3 M = (
      (d_X3_fromTop 18 x2 M).bind fun y1 =>
      okk (vp_in y1.1 549) <|
      okk (vp_in (mI y1.2 23 y1.1.toNatClampNeg) 378) <|
      if ((mI y1.2 55 (mI y1.2 23 y1.1.toNatClampNeg).toNatClampNeg) &&& x3) = 0 then (
        some ((0 : Int32), y1.2))
      else (
        some ((1 : Int32), y1.2))) := id rfl
theorem bq_X6_isKnown {β : Type} (x2 : Int32) (x3 : Int32) (M : Mem) (f : Int32 × Mem → Option β) : (d_X6_isKnown x2 x3 M).bind f = Option.bind (
      (d_X3_fromTop 18 x2 M).bind fun y1 =>
      okk (vp_in y1.1 549) <|
      okk (vp_in (mI y1.2 23 y1.1.toNatClampNeg) 378) <|
      if ((mI y1.2 55 (mI y1.2 23 y1.1.toNatClampNeg).toNatClampNeg) &&& x3) = 0 then (
        some ((0 : Int32), y1.2))
      else (
        some ((1 : Int32), y1.2))) f := id rfl
theorem tq_X6_madeOf (x1 : Int32) (M : Mem) : d_X6_madeOf x1 M = (
      if x1 = 0 then (
        some ((1 : Int32), M))
      else (
        some ((7 : Int32), M))) := id rfl
theorem bq_X6_madeOf {β : Type} (x1 : Int32) (M : Mem) (f : Int32 × Mem → Option β) : (d_X6_madeOf x1 M).bind f = Option.bind (
      if x1 = 0 then (
        some ((1 : Int32), M))
      else (
        some ((7 : Int32), M))) f := id rfl
theorem tq_X6_ask (x1 : Int32) (x2 : Int32) (x3 : Int32) (M : Mem) : d_X6_ask x1 x2 x3 M = (
      okk (vp_in (mI M 48 8) 120) <|
      bnd (sI M 51 (mI M 48 8).toNatClampNeg x1) fun M1 =>
      okk (vp_in (mI M1 48 8) 120) <|
      bnd (sI M1 52 (mI M1 48 8).toNatClampNeg (mI M1 48 7)) fun M2 =>
      okk (vp_in (mI M2 48 8) 120) <|
      bnd (sI M2 53 (mI M2 48 8).toNatClampNeg x2) fun M3 =>
      okk (vp_in (mI M3 48 8) 120) <|
      bnd (sI M3 54 (mI M3 48 8).toNatClampNeg x3) fun M4 =>
      bnd (sI M4 48 8 ((mI M4 48 8) + (1 : Int32))) fun M5 =>
      some ((), M5)) := id rfl
theorem bq_X6_ask {β : Type} (x1 : Int32) (x2 : Int32) (x3 : Int32) (M : Mem) (f : Unit × Mem → Option β) : (d_X6_ask x1 x2 x3 M).bind f = Option.bind (
      okk (vp_in (mI M 48 8) 120) <|
      bnd (sI M 51 (mI M 48 8).toNatClampNeg x1) fun M1 =>
      okk (vp_in (mI M1 48 8) 120) <|
      bnd (sI M1 52 (mI M1 48 8).toNatClampNeg (mI M1 48 7)) fun M2 =>
      okk (vp_in (mI M2 48 8) 120) <|
      bnd (sI M2 53 (mI M2 48 8).toNatClampNeg x2) fun M3 =>
      okk (vp_in (mI M3 48 8) 120) <|
      bnd (sI M3 54 (mI M3 48 8).toNatClampNeg x3) fun M4 =>
      bnd (sI M4 48 8 ((mI M4 48 8) + (1 : Int32))) fun M5 =>
      some ((), M5)) f := id rfl
theorem tq_X6_learn (x2 : Int32) (x3 : Int32) (M : Mem) : d_X6_learn x2 x3 M = (
      (d_X3_fromTop 18 x2 M).bind fun y1 =>
      okk (vp_in y1.1 549) <|
      okk (vp_in (mI y1.2 23 y1.1.toNatClampNeg) 378) <|
      okk (vp_in (mI y1.2 23 y1.1.toNatClampNeg) 378) <|
      bnd (sI y1.2 55 (mI y1.2 23 y1.1.toNatClampNeg).toNatClampNeg ((mI y1.2 55 (mI y1.2 23 y1.1.toNatClampNeg).toNatClampNeg) ||| x3)) fun M1 =>
      some ((), M1)) := id rfl
theorem bq_X6_learn {β : Type} (x2 : Int32) (x3 : Int32) (M : Mem) (f : Unit × Mem → Option β) : (d_X6_learn x2 x3 M).bind f = Option.bind (
      (d_X3_fromTop 18 x2 M).bind fun y1 =>
      okk (vp_in y1.1 549) <|
      okk (vp_in (mI y1.2 23 y1.1.toNatClampNeg) 378) <|
      okk (vp_in (mI y1.2 23 y1.1.toNatClampNeg) 378) <|
      bnd (sI y1.2 55 (mI y1.2 23 y1.1.toNatClampNeg).toNatClampNeg ((mI y1.2 55 (mI y1.2 23 y1.1.toNatClampNeg).toNatClampNeg) ||| x3)) fun M1 =>
      some ((), M1)) f := id rfl
theorem tq_X6_askKind (x2 : Int32) (M : Mem) : d_X6_askKind x2 M = (
      (d_X6_isKnown x2 (1 : Int32) M).bind fun y1 =>
      if y1.1 = 0 then (
        (d_X3_answerTo 18 (107 : Int32) x2 y1.2).bind fun y2 =>
        (d_X6_ask (107 : Int32) x2 y2.1 y2.2).bind fun y3 =>
        (d_X3_fromTop 18 x2 y3.2).bind fun y4 =>
        (d_X8_isNumber 18 y4.1 y4.2).bind fun y5 =>
        if y5.1 = 0 then (
          (d_X6_learn x2 (3 : Int32) y5.2).bind fun y6 =>
          some ((), y6.2))
        else (
          (d_X6_learn x2 (1 : Int32) y5.2).bind fun y7 =>
          some ((), y7.2)))
      else (
        some ((), y1.2))) := id rfl
theorem bq_X6_askKind {β : Type} (x2 : Int32) (M : Mem) (f : Unit × Mem → Option β) : (d_X6_askKind x2 M).bind f = Option.bind (
      (d_X6_isKnown x2 (1 : Int32) M).bind fun y1 =>
      if y1.1 = 0 then (
        (d_X3_answerTo 18 (107 : Int32) x2 y1.2).bind fun y2 =>
        (d_X6_ask (107 : Int32) x2 y2.1 y2.2).bind fun y3 =>
        (d_X3_fromTop 18 x2 y3.2).bind fun y4 =>
        (d_X8_isNumber 18 y4.1 y4.2).bind fun y5 =>
        if y5.1 = 0 then (
          (d_X6_learn x2 (3 : Int32) y5.2).bind fun y6 =>
          some ((), y6.2))
        else (
          (d_X6_learn x2 (1 : Int32) y5.2).bind fun y7 =>
          some ((), y7.2)))
      else (
        some ((), y1.2))) f := id rfl
theorem tq_X6_askNullness (x2 : Int32) (M : Mem) : d_X6_askNullness x2 M = (
      (d_X6_isKnown (1 : Int32) (2 : Int32) M).bind fun y1 =>
      if y1.1 = 0 then (
        (d_X3_answerTo 18 x2 (1 : Int32) y1.2).bind fun y2 =>
        (d_X6_ask x2 (1 : Int32) y2.1 y2.2).bind fun y3 =>
        (d_X6_learn (1 : Int32) (2 : Int32) y3.2).bind fun y4 =>
        some ((), y4.2))
      else (
        some ((), y1.2))) := id rfl
theorem bq_X6_askNullness {β : Type} (x2 : Int32) (M : Mem) (f : Unit × Mem → Option β) : (d_X6_askNullness x2 M).bind f = Option.bind (
      (d_X6_isKnown (1 : Int32) (2 : Int32) M).bind fun y1 =>
      if y1.1 = 0 then (
        (d_X3_answerTo 18 x2 (1 : Int32) y1.2).bind fun y2 =>
        (d_X6_ask x2 (1 : Int32) y2.1 y2.2).bind fun y3 =>
        (d_X6_learn (1 : Int32) (2 : Int32) y3.2).bind fun y4 =>
        some ((), y4.2))
      else (
        some ((), y1.2))) f := id rfl
theorem tq_X6_askShape (x2 : Int32) (M : Mem) : d_X6_askShape x2 M = (
      (d_X6_isKnown x2 (8 : Int32) M).bind fun y1 =>
      if y1.1 = 0 then (
        (d_X3_answerTo 18 (115 : Int32) x2 y1.2).bind fun y2 =>
        (d_X6_ask (115 : Int32) x2 y2.1 y2.2).bind fun y3 =>
        (d_X6_learn x2 (11 : Int32) y3.2).bind fun y4 =>
        some ((), y4.2))
      else (
        some ((), y1.2))) := id rfl
theorem bq_X6_askShape {β : Type} (x2 : Int32) (M : Mem) (f : Unit × Mem → Option β) : (d_X6_askShape x2 M).bind f = Option.bind (
      (d_X6_isKnown x2 (8 : Int32) M).bind fun y1 =>
      if y1.1 = 0 then (
        (d_X3_answerTo 18 (115 : Int32) x2 y1.2).bind fun y2 =>
        (d_X6_ask (115 : Int32) x2 y2.1 y2.2).bind fun y3 =>
        (d_X6_learn x2 (11 : Int32) y3.2).bind fun y4 =>
        some ((), y4.2))
      else (
        some ((), y1.2))) f := id rfl
theorem tq_X6_forgetOtherShapes_22b (k22 : (Int32) → Mem → Option (Unit × Mem)) (x2 : Int32) (M : Mem) : d_X6_forgetOtherShapes_22b k22 x2 M = (
      if (mI M 48 9) ≤ x2 then (
        (d_X6_learn (2 : Int32) (8 : Int32) M).bind fun y1 =>
        some ((), y1.2))
      else (
        okk (vp_in x2 378) <|
        okk (vp_in x2 378) <|
        bnd (sI M 55 x2.toNatClampNeg ((mI M 55 x2.toNatClampNeg) &&& (-9 : Int32))) fun M1 =>
        bnd ((x2 + (1 : Int32))) fun b1 =>
        k22 (b1) M1)) := id rfl
theorem bq_X6_forgetOtherShapes_22b {β : Type} (k22 : (Int32) → Mem → Option (Unit × Mem)) (x2 : Int32) (M : Mem) (f : Unit × Mem → Option β) : (d_X6_forgetOtherShapes_22b k22 x2 M).bind f = Option.bind (
      if (mI M 48 9) ≤ x2 then (
        (d_X6_learn (2 : Int32) (8 : Int32) M).bind fun y1 =>
        some ((), y1.2))
      else (
        okk (vp_in x2 378) <|
        okk (vp_in x2 378) <|
        bnd (sI M 55 x2.toNatClampNeg ((mI M 55 x2.toNatClampNeg) &&& (-9 : Int32))) fun M1 =>
        bnd ((x2 + (1 : Int32))) fun b1 =>
        k22 (b1) M1)) f := id rfl
theorem tq_X6_forgetOtherShapes (M : Mem) : d_X6_forgetOtherShapes M = (
      (d_X3_shapeFromTop 18 (2 : Int32) M).bind fun y1 =>
      (d_X7_has y1.1 (mI y1.2 18 8) y1.2).bind fun y2 =>
      if y2.1 = 0 then (
        d_X6_forgetOtherShapes_22 fuel ((0 : Int32)) y2.2)
      else (
        some ((), y2.2))) := id rfl
theorem bq_X6_forgetOtherShapes {β : Type} (M : Mem) (f : Unit × Mem → Option β) : (d_X6_forgetOtherShapes M).bind f = Option.bind (
      (d_X3_shapeFromTop 18 (2 : Int32) M).bind fun y1 =>
      (d_X7_has y1.1 (mI y1.2 18 8) y1.2).bind fun y2 =>
      if y2.1 = 0 then (
        d_X6_forgetOtherShapes_22 fuel ((0 : Int32)) y2.2)
      else (
        some ((), y2.2))) f := id rfl
theorem tq_X6_noteTwoValues_102 (x2 : Int32) (M : Mem) : d_X6_noteTwoValues_102 x2 M = (
      if (xIdx 4 x2) < 0 then (
        some ((), M))
      else (
        (d_X3_answerTo 18 (111 : Int32) (2 : Int32) M).bind fun y1 =>
        (d_X6_ask (111 : Int32) (2 : Int32) y1.1 y1.2).bind fun y2 =>
        some ((), y2.2))) := id rfl
theorem bq_X6_noteTwoValues_102 {β : Type} (x2 : Int32) (M : Mem) (f : Unit × Mem → Option β) : (d_X6_noteTwoValues_102 x2 M).bind f = Option.bind (
      if (xIdx 4 x2) < 0 then (
        some ((), M))
      else (
        (d_X3_answerTo 18 (111 : Int32) (2 : Int32) M).bind fun y1 =>
        (d_X6_ask (111 : Int32) (2 : Int32) y1.1 y1.2).bind fun y2 =>
        some ((), y2.2))) f := id rfl
theorem tq_X6_noteTwoValues_95 (x2 : Int32) (M : Mem) : d_X6_noteTwoValues_95 x2 M = (
      (d_X6_askNullness (122 : Int32) M).bind fun y1 =>
      d_X6_noteTwoValues_102 x2 y1.2) := id rfl
theorem bq_X6_noteTwoValues_95 {β : Type} (x2 : Int32) (M : Mem) (f : Unit × Mem → Option β) : (d_X6_noteTwoValues_95 x2 M).bind f = Option.bind (
      (d_X6_askNullness (122 : Int32) M).bind fun y1 =>
      d_X6_noteTwoValues_102 x2 y1.2) f := id rfl
theorem tq_X6_noteTwoValues_35 (x2 : Int32) (s0 : Int32) (M : Mem) : d_X6_noteTwoValues_35 x2 s0 M = (
      (d_X6_madeOf s0 M).bind fun y1 =>
      bnd (sI y1.2 48 15 y1.1) fun M1 =>
      if s0 = 0 then (
        (d_X6_askKind (2 : Int32) M1).bind fun y2 =>
        (d_X6_askKind (1 : Int32) y2.2).bind fun y3 =>
        (d_X3_fromTop 18 (2 : Int32) y3.2).bind fun y4 =>
        (d_X3_fromTop 18 (1 : Int32) y4.2).bind fun y5 =>
        (d_X8_areIntegers 18 y4.1 y5.1 y5.2).bind fun y6 =>
        if y6.1 = 0 then (
          some ((), y6.2))
        else (
          if x2 = (47 : Int32) then (
            d_X6_noteTwoValues_95 x2 y6.2)
          else (
            if x2 = (37 : Int32) then (
              d_X6_noteTwoValues_95 x2 y6.2)
            else (
              d_X6_noteTwoValues_102 x2 y6.2))))
      else (
        some ((), M1))) := id rfl
theorem bq_X6_noteTwoValues_35 {β : Type} (x2 : Int32) (s0 : Int32) (M : Mem) (f : Unit × Mem → Option β) : (d_X6_noteTwoValues_35 x2 s0 M).bind f = Option.bind (
      (d_X6_madeOf s0 M).bind fun y1 =>
      bnd (sI y1.2 48 15 y1.1) fun M1 =>
      if s0 = 0 then (
        (d_X6_askKind (2 : Int32) M1).bind fun y2 =>
        (d_X6_askKind (1 : Int32) y2.2).bind fun y3 =>
        (d_X3_fromTop 18 (2 : Int32) y3.2).bind fun y4 =>
        (d_X3_fromTop 18 (1 : Int32) y4.2).bind fun y5 =>
        (d_X8_areIntegers 18 y4.1 y5.1 y5.2).bind fun y6 =>
        if y6.1 = 0 then (
          some ((), y6.2))
        else (
          if x2 = (47 : Int32) then (
            d_X6_noteTwoValues_95 x2 y6.2)
          else (
            if x2 = (37 : Int32) then (
              d_X6_noteTwoValues_95 x2 y6.2)
            else (
              d_X6_noteTwoValues_102 x2 y6.2))))
      else (
        some ((), M1))) f := id rfl
theorem tq_X6_noteTwoValues_34 (x2 : Int32) (M : Mem) : d_X6_noteTwoValues_34 x2 M = (
      d_X6_noteTwoValues_35 x2 (0 : Int32) M) := id rfl
theorem bq_X6_noteTwoValues_34 {β : Type} (x2 : Int32) (M : Mem) (f : Unit × Mem → Option β) : (d_X6_noteTwoValues_34 x2 M).bind f = Option.bind (
      d_X6_noteTwoValues_35 x2 (0 : Int32) M) f := id rfl
theorem tq_X6_noteTwoValues (x2 : Int32) (M : Mem) : d_X6_noteTwoValues x2 M = (
      if 0 ≤ (xIdx 3 x2) then (
        (d_X6_isKnown (2 : Int32) (4 : Int32) M).bind fun y1 =>
        if y1.1 = 0 then (
          d_X6_noteTwoValues_34 x2 y1.2)
        else (
          (d_X6_isKnown (1 : Int32) (4 : Int32) y1.2).bind fun y2 =>
          if y2.1 = 0 then (
            d_X6_noteTwoValues_34 x2 y2.2)
          else (
            d_X6_noteTwoValues_35 x2 (1 : Int32) y2.2)))
      else (
        some ((), M))) := id rfl
theorem bq_X6_noteTwoValues {β : Type} (x2 : Int32) (M : Mem) (f : Unit × Mem → Option β) : (d_X6_noteTwoValues x2 M).bind f = Option.bind (
      if 0 ≤ (xIdx 3 x2) then (
        (d_X6_isKnown (2 : Int32) (4 : Int32) M).bind fun y1 =>
        if y1.1 = 0 then (
          d_X6_noteTwoValues_34 x2 y1.2)
        else (
          (d_X6_isKnown (1 : Int32) (4 : Int32) y1.2).bind fun y2 =>
          if y2.1 = 0 then (
            d_X6_noteTwoValues_34 x2 y2.2)
          else (
            d_X6_noteTwoValues_35 x2 (1 : Int32) y2.2)))
      else (
        some ((), M))) f := id rfl
theorem tq_X6_noteAhead_213 (M : Mem) : d_X6_noteAhead_213 M = (
      bnd (sI M 48 7 ((mI M 48 7) + (1 : Int32))) fun M1 =>
      some ((), M1)) := id rfl
theorem bq_X6_noteAhead_213 {β : Type} (M : Mem) (f : Unit × Mem → Option β) : (d_X6_noteAhead_213 M).bind f = Option.bind (
      bnd (sI M 48 7 ((mI M 48 7) + (1 : Int32))) fun M1 =>
      some ((), M1)) f := id rfl
theorem tq_X6_noteAhead (M : Mem) : d_X6_noteAhead M = (
      bnd ((mI M 18 7)) fun b1 =>
      (d_X3_lineAhead 18 M).bind fun y1 =>
      okk (vp_in (mI M 48 7) 30) <|
      bnd (sI y1.2 49 (mI M 48 7).toNatClampNeg y1.1) fun M1 =>
      okk (vp_in (mI M1 48 7) 31) <|
      bnd (sI M1 50 (mI M1 48 7).toNatClampNeg (mI M1 48 8)) fun M2 =>
      bnd (sI M2 48 15 (0 : Int32)) fun M3 =>
      if b1 = (103 : Int32) ∨ b1 = (109 : Int32) then (
        (d_X6_askShape (1 : Int32) M3).bind fun y2 =>
        d_X6_noteAhead_213 y2.2)
      else if b1 = (105 : Int32) ∨ b1 = (107 : Int32) then (
        bnd (sI M3 48 15 (7 : Int32)) fun M4 =>
        d_X6_noteAhead_213 M4)
      else if b1 = (110 : Int32) then (
        bnd (sI M3 48 15 (11 : Int32)) fun M5 =>
        d_X6_noteAhead_213 M5)
      else if b1 = (112 : Int32) then (
        (d_X6_askShape (2 : Int32) M3).bind fun y3 =>
        (d_X6_forgetOtherShapes y3.2).bind fun y4 =>
        d_X6_noteAhead_213 y4.2)
      else if b1 = (119 : Int32) then (
        (d_X6_isKnown (1 : Int32) (4 : Int32) M3).bind fun y5 =>
        (d_X6_madeOf y5.1 y5.2).bind fun y6 =>
        bnd (sI y6.2 48 15 y6.1) fun M6 =>
        (d_X6_askKind (1 : Int32) M6).bind fun y7 =>
        d_X6_noteAhead_213 y7.2)
      else if b1 = (122 : Int32) then (
        (d_X6_askNullness (116 : Int32) M3).bind fun y8 =>
        d_X6_noteAhead_213 y8.2)
      else (
        (d_X6_noteTwoValues b1 M3).bind fun y9 =>
        d_X6_noteAhead_213 y9.2)) := id rfl
theorem bq_X6_noteAhead {β : Type} (M : Mem) (f : Unit × Mem → Option β) : (d_X6_noteAhead M).bind f = Option.bind (
      bnd ((mI M 18 7)) fun b1 =>
      (d_X3_lineAhead 18 M).bind fun y1 =>
      okk (vp_in (mI M 48 7) 30) <|
      bnd (sI y1.2 49 (mI M 48 7).toNatClampNeg y1.1) fun M1 =>
      okk (vp_in (mI M1 48 7) 31) <|
      bnd (sI M1 50 (mI M1 48 7).toNatClampNeg (mI M1 48 8)) fun M2 =>
      bnd (sI M2 48 15 (0 : Int32)) fun M3 =>
      if b1 = (103 : Int32) ∨ b1 = (109 : Int32) then (
        (d_X6_askShape (1 : Int32) M3).bind fun y2 =>
        d_X6_noteAhead_213 y2.2)
      else if b1 = (105 : Int32) ∨ b1 = (107 : Int32) then (
        bnd (sI M3 48 15 (7 : Int32)) fun M4 =>
        d_X6_noteAhead_213 M4)
      else if b1 = (110 : Int32) then (
        bnd (sI M3 48 15 (11 : Int32)) fun M5 =>
        d_X6_noteAhead_213 M5)
      else if b1 = (112 : Int32) then (
        (d_X6_askShape (2 : Int32) M3).bind fun y3 =>
        (d_X6_forgetOtherShapes y3.2).bind fun y4 =>
        d_X6_noteAhead_213 y4.2)
      else if b1 = (119 : Int32) then (
        (d_X6_isKnown (1 : Int32) (4 : Int32) M3).bind fun y5 =>
        (d_X6_madeOf y5.1 y5.2).bind fun y6 =>
        bnd (sI y6.2 48 15 y6.1) fun M6 =>
        (d_X6_askKind (1 : Int32) M6).bind fun y7 =>
        d_X6_noteAhead_213 y7.2)
      else if b1 = (122 : Int32) then (
        (d_X6_askNullness (116 : Int32) M3).bind fun y8 =>
        d_X6_noteAhead_213 y8.2)
      else (
        (d_X6_noteTwoValues b1 M3).bind fun y9 =>
        d_X6_noteAhead_213 y9.2)) f := id rfl
theorem tq_X6_giveFacts (x2 : Int32) (x3 : Int32) (M : Mem) : d_X6_giveFacts x2 x3 M = (
      okk (vp_in x2 549) <|
      bnd (sI M 23 x2.toNatClampNeg (mI M 48 9)) fun M1 =>
      okk (vp_in (mI M1 48 9) 378) <|
      bnd (sI M1 55 (mI M1 48 9).toNatClampNeg x3) fun M2 =>
      bnd (sI M2 48 9 ((mI M2 48 9) + (1 : Int32))) fun M3 =>
      some ((), M3)) := id rfl
theorem bq_X6_giveFacts {β : Type} (x2 : Int32) (x3 : Int32) (M : Mem) (f : Unit × Mem → Option β) : (d_X6_giveFacts x2 x3 M).bind f = Option.bind (
      okk (vp_in x2 549) <|
      bnd (sI M 23 x2.toNatClampNeg (mI M 48 9)) fun M1 =>
      okk (vp_in (mI M1 48 9) 378) <|
      bnd (sI M1 55 (mI M1 48 9).toNatClampNeg x3) fun M2 =>
      bnd (sI M2 48 9 ((mI M2 48 9) + (1 : Int32))) fun M3 =>
      some ((), M3)) f := id rfl
theorem tq_X6_noteBehind_62b (k62 : (Int32) → Mem → Option (Unit × Mem)) (x3 : Int32) (x4 : Int32) (M : Mem) : d_X6_noteBehind_62b k62 x3 x4 M = (
      if (6 : Int32) ≤ x4 then (
        some ((), M))
      else (
        (d_X11_localPlace x3 x4 M).bind fun y1 =>
        (d_X6_giveFacts y1.1 (3 : Int32) y1.2).bind fun y2 =>
        bnd ((x4 + (1 : Int32))) fun b1 =>
        k62 (b1) y2.2)) := id rfl
theorem bq_X6_noteBehind_62b {β : Type} (k62 : (Int32) → Mem → Option (Unit × Mem)) (x3 : Int32) (x4 : Int32) (M : Mem) (f : Unit × Mem → Option β) : (d_X6_noteBehind_62b k62 x3 x4 M).bind f = Option.bind (
      if (6 : Int32) ≤ x4 then (
        some ((), M))
      else (
        (d_X11_localPlace x3 x4 M).bind fun y1 =>
        (d_X6_giveFacts y1.1 (3 : Int32) y1.2).bind fun y2 =>
        bnd ((x4 + (1 : Int32))) fun b1 =>
        k62 (b1) y2.2)) f := id rfl
theorem tq_X6_noteBehind_41 (M : Mem) : d_X6_noteBehind_41 M = (
      bnd (((mI M 18 9) - (1 : Int32))) fun b1 =>
      (d_X3_functionAhead 18 M).bind fun y1 =>
      okk (vp_in y1.1 8) <|
      bnd ((mI y1.2 3 y1.1.toNatClampNeg)) fun b2 =>
      d_X6_noteBehind_62 b1 fuel (b2) y1.2) := id rfl
theorem bq_X6_noteBehind_41 {β : Type} (M : Mem) (f : Unit × Mem → Option β) : (d_X6_noteBehind_41 M).bind f = Option.bind (
      bnd (((mI M 18 9) - (1 : Int32))) fun b1 =>
      (d_X3_functionAhead 18 M).bind fun y1 =>
      okk (vp_in y1.1 8) <|
      bnd ((mI y1.2 3 y1.1.toNatClampNeg)) fun b2 =>
      d_X6_noteBehind_62 b1 fuel (b2) y1.2) f := id rfl
theorem tq_X6_noteBehind (x2 : Int32) (M : Mem) : d_X6_noteBehind x2 M = (
      if (xIdx 5 x2) < 0 then (
        if x2 = (99 : Int32) then (
          d_X6_noteBehind_41 M)
        else (
          if x2 = (109 : Int32) then (
            d_X6_noteBehind_41 M)
          else (
            some ((), M))))
      else (
        (d_X3_fromTop 18 (1 : Int32) M).bind fun y1 =>
        (d_X6_giveFacts y1.1 (mI y1.2 48 15) y1.2).bind fun y2 =>
        some ((), y2.2))) := id rfl
theorem bq_X6_noteBehind {β : Type} (x2 : Int32) (M : Mem) (f : Unit × Mem → Option β) : (d_X6_noteBehind x2 M).bind f = Option.bind (
      if (xIdx 5 x2) < 0 then (
        if x2 = (99 : Int32) then (
          d_X6_noteBehind_41 M)
        else (
          if x2 = (109 : Int32) then (
            d_X6_noteBehind_41 M)
          else (
            some ((), M))))
      else (
        (d_X3_fromTop 18 (1 : Int32) M).bind fun y1 =>
        (d_X6_giveFacts y1.1 (mI y1.2 48 15) y1.2).bind fun y2 =>
        some ((), y2.2))) f := id rfl
theorem tq_X7_takeBack_27 (k2 : (Int32) → Mem → Option (Unit × Mem)) (x1 : Int32) (x2 : Int32) (M : Mem) : d_X7_takeBack_27 k2 x1 x2 M = (
      bnd ((x2 + (1 : Int32))) fun b1 =>
      k2 (b1) M) := id rfl
theorem bq_X7_takeBack_27 {β : Type} (k2 : (Int32) → Mem → Option (Unit × Mem)) (x1 : Int32) (x2 : Int32) (M : Mem) (f : Unit × Mem → Option β) : (d_X7_takeBack_27 k2 x1 x2 M).bind f = Option.bind (
      bnd ((x2 + (1 : Int32))) fun b1 =>
      k2 (b1) M) f := id rfl
theorem tq_X7_takeBack_2b (k2 : (Int32) → Mem → Option (Unit × Mem)) (x1 : Int32) (x2 : Int32) (M : Mem) : d_X7_takeBack_2b k2 x1 x2 M = (
      if (x1 * (6 : Int32)) ≤ x2 then (
        bnd (sI M 11 6 x1) fun M1 =>
        some ((), M1))
      else (
        okk (vp_in x2 360) <|
        if (mI M 16 x2.toNatClampNeg) < x1 then (
          d_X7_takeBack_27 k2 x1 x2 M)
        else (
          okk (vp_in x2 360) <|
          bnd (sI M 16 x2.toNatClampNeg (-1 : Int32)) fun M2 =>
          d_X7_takeBack_27 k2 x1 x2 M2))) := id rfl
theorem bq_X7_takeBack_2b {β : Type} (k2 : (Int32) → Mem → Option (Unit × Mem)) (x1 : Int32) (x2 : Int32) (M : Mem) (f : Unit × Mem → Option β) : (d_X7_takeBack_2b k2 x1 x2 M).bind f = Option.bind (
      if (x1 * (6 : Int32)) ≤ x2 then (
        bnd (sI M 11 6 x1) fun M1 =>
        some ((), M1))
      else (
        okk (vp_in x2 360) <|
        if (mI M 16 x2.toNatClampNeg) < x1 then (
          d_X7_takeBack_27 k2 x1 x2 M)
        else (
          okk (vp_in x2 360) <|
          bnd (sI M 16 x2.toNatClampNeg (-1 : Int32)) fun M2 =>
          d_X7_takeBack_27 k2 x1 x2 M2))) f := id rfl
theorem tq_X7_takeBack (x1 : Int32) (M : Mem) : d_X7_takeBack x1 M = (
      d_X7_takeBack_2 x1 fuel ((0 : Int32)) M) := id rfl
theorem bq_X7_takeBack {β : Type} (x1 : Int32) (M : Mem) (f : Unit × Mem → Option β) : (d_X7_takeBack x1 M).bind f = Option.bind (
      d_X7_takeBack_2 x1 fuel ((0 : Int32)) M) f := id rfl
theorem tq_X8_bitsAt (o : Nat) (x1 : Int32) (M : Mem) : d_X8_bitsAt o x1 M = (
      (d_X8_isUndefined o x1 M).bind fun y1 =>
      if y1.1 = 0 then (
        okk (vp_in x1 549) <|
        if (mI y1.2 (o + 2) x1.toNatClampNeg) = (102 : Int32) then (
          okk (vp_in x1 549) <|
          (d_X4_bitsOf (mD y1.2 (o + 4) x1.toNatClampNeg) y1.2).bind fun y2 =>
          some (y2.1, y2.2))
        else (
          okk (vp_in x1 549) <|
          some (((mI y1.2 (o + 3) x1.toNatClampNeg).toInt64), y1.2)))
      else (
        some ((9221120237041090560 : Int64), y1.2))) := id rfl
theorem bq_X8_bitsAt {β : Type} (o : Nat) (x1 : Int32) (M : Mem) (f : Int64 × Mem → Option β) : (d_X8_bitsAt o x1 M).bind f = Option.bind (
      (d_X8_isUndefined o x1 M).bind fun y1 =>
      if y1.1 = 0 then (
        okk (vp_in x1 549) <|
        if (mI y1.2 (o + 2) x1.toNatClampNeg) = (102 : Int32) then (
          okk (vp_in x1 549) <|
          (d_X4_bitsOf (mD y1.2 (o + 4) x1.toNatClampNeg) y1.2).bind fun y2 =>
          some (y2.1, y2.2))
        else (
          okk (vp_in x1 549) <|
          some (((mI y1.2 (o + 3) x1.toNatClampNeg).toInt64), y1.2)))
      else (
        some ((9221120237041090560 : Int64), y1.2))) f := id rfl
theorem tq_X9_bars (r0 : Nat) (x1 : Int32) (M : Mem) : d_X9_bars r0 x1 M = (
      okk (mK M r0 = 9) <|
      (mR M r0 10).bind fun r_1 =>
      okk (mK M r_1 = 21) <|
      okk (vp_in x1 (mN M r_1)) <|
      if (mI M r_1 x1.toNatClampNeg) < (2 : Int32) then (
        some ((0 : Int32), M))
      else (
        some ((1 : Int32), M))) := id rfl
theorem bq_X9_bars {β : Type} (r0 : Nat) (x1 : Int32) (M : Mem) (f : Int32 × Mem → Option β) : (d_X9_bars r0 x1 M).bind f = Option.bind (
      okk (mK M r0 = 9) <|
      (mR M r0 10).bind fun r_1 =>
      okk (mK M r_1 = 21) <|
      okk (vp_in x1 (mN M r_1)) <|
      if (mI M r_1 x1.toNatClampNeg) < (2 : Int32) then (
        some ((0 : Int32), M))
      else (
        some ((1 : Int32), M))) f := id rfl
theorem tq_X9_breakOff (r0 : Nat) (x1 : Int32) (M : Mem) : d_X9_breakOff r0 x1 M = (
      okk (mK M r0 = 9) <|
      (mR M r0 9).bind fun r_1 =>
      okk (mK M r_1 = 21) <|
      okk (vp_in x1 (mN M r_1)) <|
      bnd (sI M r_1 x1.toNatClampNeg (0 : Int32)) fun M1 =>
      okk (mK M1 r0 = 9) <|
      (mR M1 r0 10).bind fun r_2 =>
      okk (mK M1 r_2 = 21) <|
      okk (vp_in x1 (mN M1 r_2)) <|
      okk (mK M1 r_2 = 21) <|
      okk (vp_in x1 (mN M1 r_2)) <|
      bnd (sI M1 r_2 x1.toNatClampNeg ((mI M1 r_2 x1.toNatClampNeg) + (1 : Int32))) fun M2 =>
      some ((), M2)) := id rfl
theorem bq_X9_breakOff {β : Type} (r0 : Nat) (x1 : Int32) (M : Mem) (f : Unit × Mem → Option β) : (d_X9_breakOff r0 x1 M).bind f = Option.bind (
      okk (mK M r0 = 9) <|
      (mR M r0 9).bind fun r_1 =>
      okk (mK M r_1 = 21) <|
      okk (vp_in x1 (mN M r_1)) <|
      bnd (sI M r_1 x1.toNatClampNeg (0 : Int32)) fun M1 =>
      okk (mK M1 r0 = 9) <|
      (mR M1 r0 10).bind fun r_2 =>
      okk (mK M1 r_2 = 21) <|
      okk (vp_in x1 (mN M1 r_2)) <|
      okk (mK M1 r_2 = 21) <|
      okk (vp_in x1 (mN M1 r_2)) <|
      bnd (sI M1 r_2 x1.toNatClampNeg ((mI M1 r_2 x1.toNatClampNeg) + (1 : Int32))) fun M2 =>
      some ((), M2)) f := id rfl
theorem tq_X10_begin (M : Mem) : d_X10_begin M = (
      bnd (sI M 38 7 (0 : Int32)) fun M1 =>
      bnd (sI M1 38 8 (0 : Int32)) fun M2 =>
      some ((), M2)) := id rfl
theorem bq_X10_begin {β : Type} (M : Mem) (f : Unit × Mem → Option β) : (d_X10_begin M).bind f = Option.bind (
      bnd (sI M 38 7 (0 : Int32)) fun M1 =>
      bnd (sI M1 38 8 (0 : Int32)) fun M2 =>
      some ((), M2)) f := id rfl
theorem tq_X10_follow (x1 : Int32) (M : Mem) : d_X10_follow x1 M = (
      bnd (sI M 38 10 x1) fun M1 =>
      okk (vp_in x1 20) <|
      (mR M1 68 x1.toNatClampNeg).bind fun r_1 =>
      bnd (sR M1 38 9 (some r_1)) fun M2 =>
      (mR M2 38 9).bind fun r_2 =>
      okk (mK M2 r_2 = 9) <|
      okk (mK M2 r_2 = 9) <|
      bnd (sI M2 r_2 15 ((mI M2 r_2 15) + (1 : Int32))) fun M3 =>
      bnd (sI M3 38 11 (0 : Int32)) fun M4 =>
      bnd (sI M4 38 8 (1 : Int32)) fun M5 =>
      some ((), M5)) := id rfl
theorem bq_X10_follow {β : Type} (x1 : Int32) (M : Mem) (f : Unit × Mem → Option β) : (d_X10_follow x1 M).bind f = Option.bind (
      bnd (sI M 38 10 x1) fun M1 =>
      okk (vp_in x1 20) <|
      (mR M1 68 x1.toNatClampNeg).bind fun r_1 =>
      bnd (sR M1 38 9 (some r_1)) fun M2 =>
      (mR M2 38 9).bind fun r_2 =>
      okk (mK M2 r_2 = 9) <|
      okk (mK M2 r_2 = 9) <|
      bnd (sI M2 r_2 15 ((mI M2 r_2 15) + (1 : Int32))) fun M3 =>
      bnd (sI M3 38 11 (0 : Int32)) fun M4 =>
      bnd (sI M4 38 8 (1 : Int32)) fun M5 =>
      some ((), M5)) f := id rfl
theorem tq_X10_exitAt (x1 : Int32) (M : Mem) : d_X10_exitAt x1 M = (
      (mR M 38 9).bind fun r_1 =>
      okk (mK M r_1 = 9) <|
      (mR M r_1 8).bind fun r_2 =>
      okk (mK M r_2 = 21) <|
      okk (vp_in x1 (mN M r_2)) <|
      okk (mK M r_2 = 21) <|
      okk (vp_in x1 (mN M r_2)) <|
      bnd (sI M r_2 x1.toNatClampNeg ((mI M r_2 x1.toNatClampNeg) + (1 : Int32))) fun M1 =>
      (mR M1 38 9).bind fun r_3 =>
      okk (mK M1 r_3 = 9) <|
      (mR M1 r_3 11).bind fun r_4 =>
      okk (mK M1 r_4 = 21) <|
      okk (vp_in x1 (mN M1 r_4)) <|
      if (mI M1 r_4 x1.toNatClampNeg) = (-1 : Int32) then (
        (mR M1 38 9).bind fun r_5 =>
        okk (mK M1 r_5 = 9) <|
        (mR M1 r_5 9).bind fun r_6 =>
        okk (mK M1 r_6 = 21) <|
        okk (vp_in x1 (mN M1 r_6)) <|
        okk (mK M1 r_6 = 21) <|
        okk (vp_in x1 (mN M1 r_6)) <|
        bnd (sI M1 r_6 x1.toNatClampNeg ((mI M1 r_6 x1.toNatClampNeg) + (1 : Int32))) fun M2 =>
        bnd (sI M2 38 8 (0 : Int32)) fun M3 =>
        (mR M3 38 9).bind fun r_7 =>
        okk (mK M3 r_7 = 9) <|
        (mR M3 r_7 9).bind fun r_8 =>
        okk (mK M3 r_8 = 21) <|
        okk (vp_in x1 (mN M3 r_8)) <|
        if (mI M3 r_8 x1.toNatClampNeg) < (mI M3 38 6) then (
          some ((), M3))
        else (
          (mR M3 38 9).bind fun r_9 =>
          okk (mK M3 r_9 = 9) <|
          (d_X9_bars r_9 x1 M3).bind fun y1 =>
          if y1.1 = 0 then (
            (mR y1.2 38 9).bind fun r_10 =>
            (d_X6_beginSide r_10 (mI y1.2 38 10) x1 (mI y1.2 38 12) y1.2).bind fun y2 =>
            some ((), y2.2))
          else (
            some ((), y1.2))))
      else (
        (mR M1 38 9).bind fun r_11 =>
        okk (mK M1 r_11 = 9) <|
        (mR M1 r_11 11).bind fun r_12 =>
        okk (mK M1 r_12 = 21) <|
        okk (vp_in x1 (mN M1 r_12)) <|
        (d_X10_follow (mI M1 r_12 x1.toNatClampNeg) M1).bind fun y3 =>
        some ((), y3.2))) := id rfl
theorem bq_X10_exitAt {β : Type} (x1 : Int32) (M : Mem) (f : Unit × Mem → Option β) : (d_X10_exitAt x1 M).bind f = Option.bind (
      (mR M 38 9).bind fun r_1 =>
      okk (mK M r_1 = 9) <|
      (mR M r_1 8).bind fun r_2 =>
      okk (mK M r_2 = 21) <|
      okk (vp_in x1 (mN M r_2)) <|
      okk (mK M r_2 = 21) <|
      okk (vp_in x1 (mN M r_2)) <|
      bnd (sI M r_2 x1.toNatClampNeg ((mI M r_2 x1.toNatClampNeg) + (1 : Int32))) fun M1 =>
      (mR M1 38 9).bind fun r_3 =>
      okk (mK M1 r_3 = 9) <|
      (mR M1 r_3 11).bind fun r_4 =>
      okk (mK M1 r_4 = 21) <|
      okk (vp_in x1 (mN M1 r_4)) <|
      if (mI M1 r_4 x1.toNatClampNeg) = (-1 : Int32) then (
        (mR M1 38 9).bind fun r_5 =>
        okk (mK M1 r_5 = 9) <|
        (mR M1 r_5 9).bind fun r_6 =>
        okk (mK M1 r_6 = 21) <|
        okk (vp_in x1 (mN M1 r_6)) <|
        okk (mK M1 r_6 = 21) <|
        okk (vp_in x1 (mN M1 r_6)) <|
        bnd (sI M1 r_6 x1.toNatClampNeg ((mI M1 r_6 x1.toNatClampNeg) + (1 : Int32))) fun M2 =>
        bnd (sI M2 38 8 (0 : Int32)) fun M3 =>
        (mR M3 38 9).bind fun r_7 =>
        okk (mK M3 r_7 = 9) <|
        (mR M3 r_7 9).bind fun r_8 =>
        okk (mK M3 r_8 = 21) <|
        okk (vp_in x1 (mN M3 r_8)) <|
        if (mI M3 r_8 x1.toNatClampNeg) < (mI M3 38 6) then (
          some ((), M3))
        else (
          (mR M3 38 9).bind fun r_9 =>
          okk (mK M3 r_9 = 9) <|
          (d_X9_bars r_9 x1 M3).bind fun y1 =>
          if y1.1 = 0 then (
            (mR y1.2 38 9).bind fun r_10 =>
            (d_X6_beginSide r_10 (mI y1.2 38 10) x1 (mI y1.2 38 12) y1.2).bind fun y2 =>
            some ((), y2.2))
          else (
            some ((), y1.2))))
      else (
        (mR M1 38 9).bind fun r_11 =>
        okk (mK M1 r_11 = 9) <|
        (mR M1 r_11 11).bind fun r_12 =>
        okk (mK M1 r_12 = 21) <|
        okk (vp_in x1 (mN M1 r_12)) <|
        (d_X10_follow (mI M1 r_12 x1.toNatClampNeg) M1).bind fun y3 =>
        some ((), y3.2))) f := id rfl
theorem tq_X10_enter (x1 : Int32) (M : Mem) : d_X10_enter x1 M = (
      okk (vp_in x1 20) <|
      (mR M 68 x1.toNatClampNeg).bind fun r_1 =>
      bnd (sI M 67 5 ((mI M 67 5) + (1 : Int32))) fun M1 =>
      okk (mK M1 r_1 = 9) <|
      bnd (sI M1 r_1 16 (mI M1 67 5)) fun M2 =>
      bnd (sI M2 38 12 (mI M2 18 9)) fun M3 =>
      (d_X10_follow x1 M3).bind fun y1 =>
      some ((), y1.2)) := id rfl
theorem bq_X10_enter {β : Type} (x1 : Int32) (M : Mem) (f : Unit × Mem → Option β) : (d_X10_enter x1 M).bind f = Option.bind (
      okk (vp_in x1 20) <|
      (mR M 68 x1.toNatClampNeg).bind fun r_1 =>
      bnd (sI M 67 5 ((mI M 67 5) + (1 : Int32))) fun M1 =>
      okk (mK M1 r_1 = 9) <|
      bnd (sI M1 r_1 16 (mI M1 67 5)) fun M2 =>
      bnd (sI M2 38 12 (mI M2 18 9)) fun M3 =>
      (d_X10_follow x1 M3).bind fun y1 =>
      some ((), y1.2)) f := id rfl
theorem tq_X10_turnInTrace_41b (k41 : (Int32) → Mem → Option (Unit × Mem)) (x1 : Int32) (M : Mem) : d_X10_turnInTrace_41b k41 x1 M = (
      (mR M 38 9).bind fun r_1 =>
      okk (mK M r_1 = 9) <|
      (mR M r_1 3).bind fun r_2 =>
      okk (mK M r_2 = 21) <|
      okk (vp_in ((mI M 38 11) + (1 : Int32)) (mN M r_2)) <|
      if (mI M r_2 ((mI M 38 11) + (1 : Int32)).toNatClampNeg) ≤ x1 then (
        (d_X3_execute 18 M).bind fun y1 =>
        bnd (sI y1.2 38 7 ((mI y1.2 38 7) + (1 : Int32))) fun M1 =>
        bnd (sI M1 38 11 ((mI M1 38 11) + (1 : Int32))) fun M2 =>
        (mR M2 38 9).bind fun r_3 =>
        okk (mK M2 r_3 = 9) <|
        if (mI M2 38 11) < (mI M2 r_3 0) then (
          some ((), M2))
        else (
          (mR M2 38 9).bind fun r_4 =>
          okk (mK M2 r_4 = 9) <|
          (d_X10_enter (mI M2 r_4 12) M2).bind fun y2 =>
          some ((), y2.2)))
      else (
        (mR M 38 9).bind fun r_5 =>
        okk (mK M r_5 = 9) <|
        (mR M r_5 4).bind fun r_6 =>
        okk (mK M r_6 = 21) <|
        okk (vp_in x1 (mN M r_6)) <|
        (mR M 38 9).bind fun r_7 =>
        okk (mK M r_7 = 9) <|
        (mR M r_7 6).bind fun r_8 =>
        okk (mK M r_8 = 21) <|
        okk (vp_in x1 (mN M r_8)) <|
        (d_X3_answerTo 18 (((mI M r_6 x1.toNatClampNeg).toUInt32 % 65536).toInt32) (mI M r_8 x1.toNatClampNeg) M).bind fun y3 =>
        (mR y3.2 38 9).bind fun r_9 =>
        okk (mK y3.2 r_9 = 9) <|
        (mR y3.2 r_9 7).bind fun r_10 =>
        okk (mK y3.2 r_10 = 21) <|
        okk (vp_in x1 (mN y3.2 r_10)) <|
        if y3.1 = (mI y3.2 r_10 x1.toNatClampNeg) then (
          bnd ((x1 + (1 : Int32))) fun b1 =>
          k41 (b1) y3.2)
        else (
          (d_X10_exitAt x1 y3.2).bind fun y4 =>
          some ((), y4.2)))) := id rfl
theorem bq_X10_turnInTrace_41b {β : Type} (k41 : (Int32) → Mem → Option (Unit × Mem)) (x1 : Int32) (M : Mem) (f : Unit × Mem → Option β) : (d_X10_turnInTrace_41b k41 x1 M).bind f = Option.bind (
      (mR M 38 9).bind fun r_1 =>
      okk (mK M r_1 = 9) <|
      (mR M r_1 3).bind fun r_2 =>
      okk (mK M r_2 = 21) <|
      okk (vp_in ((mI M 38 11) + (1 : Int32)) (mN M r_2)) <|
      if (mI M r_2 ((mI M 38 11) + (1 : Int32)).toNatClampNeg) ≤ x1 then (
        (d_X3_execute 18 M).bind fun y1 =>
        bnd (sI y1.2 38 7 ((mI y1.2 38 7) + (1 : Int32))) fun M1 =>
        bnd (sI M1 38 11 ((mI M1 38 11) + (1 : Int32))) fun M2 =>
        (mR M2 38 9).bind fun r_3 =>
        okk (mK M2 r_3 = 9) <|
        if (mI M2 38 11) < (mI M2 r_3 0) then (
          some ((), M2))
        else (
          (mR M2 38 9).bind fun r_4 =>
          okk (mK M2 r_4 = 9) <|
          (d_X10_enter (mI M2 r_4 12) M2).bind fun y2 =>
          some ((), y2.2)))
      else (
        (mR M 38 9).bind fun r_5 =>
        okk (mK M r_5 = 9) <|
        (mR M r_5 4).bind fun r_6 =>
        okk (mK M r_6 = 21) <|
        okk (vp_in x1 (mN M r_6)) <|
        (mR M 38 9).bind fun r_7 =>
        okk (mK M r_7 = 9) <|
        (mR M r_7 6).bind fun r_8 =>
        okk (mK M r_8 = 21) <|
        okk (vp_in x1 (mN M r_8)) <|
        (d_X3_answerTo 18 (((mI M r_6 x1.toNatClampNeg).toUInt32 % 65536).toInt32) (mI M r_8 x1.toNatClampNeg) M).bind fun y3 =>
        (mR y3.2 38 9).bind fun r_9 =>
        okk (mK y3.2 r_9 = 9) <|
        (mR y3.2 r_9 7).bind fun r_10 =>
        okk (mK y3.2 r_10 = 21) <|
        okk (vp_in x1 (mN y3.2 r_10)) <|
        if y3.1 = (mI y3.2 r_10 x1.toNatClampNeg) then (
          bnd ((x1 + (1 : Int32))) fun b1 =>
          k41 (b1) y3.2)
        else (
          (d_X10_exitAt x1 y3.2).bind fun y4 =>
          some ((), y4.2)))) f := id rfl
theorem tq_X10_turnInTrace (M : Mem) : d_X10_turnInTrace M = (
      (d_X3_isAtLimit 18 M).bind fun y1 =>
      if y1.1 = 0 then (
        (d_X3_failureAhead 18 y1.2).bind fun y2 =>
        if y2.1 = (45 : Int32) then (
          (mR y2.2 38 9).bind fun r_1 =>
          okk (mK y2.2 r_1 = 9) <|
          (mR y2.2 r_1 3).bind fun r_2 =>
          okk (mK y2.2 r_2 = 21) <|
          okk (vp_in (mI y2.2 38 11) (mN y2.2 r_2)) <|
          bnd ((mI y2.2 r_2 (mI y2.2 38 11).toNatClampNeg)) fun b1 =>
          d_X10_turnInTrace_41 fuel (b1) y2.2)
        else (
          bnd (sI y2.2 38 8 (0 : Int32)) fun M2 =>
          some ((), M2)))
      else (
        bnd (sI y1.2 38 8 (0 : Int32)) fun M1 =>
        some ((), M1))) := id rfl
theorem bq_X10_turnInTrace {β : Type} (M : Mem) (f : Unit × Mem → Option β) : (d_X10_turnInTrace M).bind f = Option.bind (
      (d_X3_isAtLimit 18 M).bind fun y1 =>
      if y1.1 = 0 then (
        (d_X3_failureAhead 18 y1.2).bind fun y2 =>
        if y2.1 = (45 : Int32) then (
          (mR y2.2 38 9).bind fun r_1 =>
          okk (mK y2.2 r_1 = 9) <|
          (mR y2.2 r_1 3).bind fun r_2 =>
          okk (mK y2.2 r_2 = 21) <|
          okk (vp_in (mI y2.2 38 11) (mN y2.2 r_2)) <|
          bnd ((mI y2.2 r_2 (mI y2.2 38 11).toNatClampNeg)) fun b1 =>
          d_X10_turnInTrace_41 fuel (b1) y2.2)
        else (
          bnd (sI y2.2 38 8 (0 : Int32)) fun M2 =>
          some ((), M2)))
      else (
        bnd (sI y1.2 38 8 (0 : Int32)) fun M1 =>
        some ((), M1))) f := id rfl
theorem tq_X10_breakOff (M : Mem) : d_X10_breakOff M = (
      if (mI M 48 10) = 0 then (
        some ((), M))
      else (
        bnd (sI M 48 10 (0 : Int32)) fun M1 =>
        if (mI M1 48 13) = (-1 : Int32) then (
          (d_X2_breakOff (mI M1 48 11) M1).bind fun y2 =>
          some ((), y2.2))
        else (
          okk (vp_in (mI M1 48 13) 20) <|
          (mR M1 68 (mI M1 48 13).toNatClampNeg).bind fun r_1 =>
          okk (mK M1 r_1 = 9) <|
          (d_X9_breakOff r_1 (mI M1 48 14) M1).bind fun y1 =>
          some ((), y1.2)))) := id rfl
theorem bq_X10_breakOff {β : Type} (M : Mem) (f : Unit × Mem → Option β) : (d_X10_breakOff M).bind f = Option.bind (
      if (mI M 48 10) = 0 then (
        some ((), M))
      else (
        bnd (sI M 48 10 (0 : Int32)) fun M1 =>
        if (mI M1 48 13) = (-1 : Int32) then (
          (d_X2_breakOff (mI M1 48 11) M1).bind fun y2 =>
          some ((), y2.2))
        else (
          okk (vp_in (mI M1 48 13) 20) <|
          (mR M1 68 (mI M1 48 13).toNatClampNeg).bind fun r_1 =>
          okk (mK M1 r_1 = 9) <|
          (d_X9_breakOff r_1 (mI M1 48 14) M1).bind fun y1 =>
          some ((), y1.2)))) f := id rfl
theorem tq_X10_canExecute_33 (M : Mem) : d_X10_canExecute_33 M = (
      (d_X3_failureAhead 18 M).bind fun y1 =>
      if y1.1 = (45 : Int32) then (
        some ((1 : Int32), y1.2))
      else (
        (d_X10_breakOff y1.2).bind fun y2 =>
        (d_X3_failWith 18 y1.1 y2.2).bind fun y3 =>
        some ((0 : Int32), y3.2))) := id rfl
theorem bq_X10_canExecute_33 {β : Type} (M : Mem) (f : Int32 × Mem → Option β) : (d_X10_canExecute_33 M).bind f = Option.bind (
      (d_X3_failureAhead 18 M).bind fun y1 =>
      if y1.1 = (45 : Int32) then (
        some ((1 : Int32), y1.2))
      else (
        (d_X10_breakOff y1.2).bind fun y2 =>
        (d_X3_failWith 18 y1.1 y2.2).bind fun y3 =>
        some ((0 : Int32), y3.2))) f := id rfl
theorem tq_X10_canExecute (M : Mem) : d_X10_canExecute M = (
      (d_X3_isAtLimit 18 M).bind fun y1 =>
      if y1.1 = 0 then (
        (d_X6_isFull y1.2).bind fun y2 =>
        if y2.1 = 0 then (
          d_X10_canExecute_33 y2.2)
        else (
          (d_X10_breakOff y2.2).bind fun y3 =>
          d_X10_canExecute_33 y3.2))
      else (
        (d_X3_endAtLimit 18 y1.2).bind fun y4 =>
        some ((0 : Int32), y4.2))) := id rfl
theorem bq_X10_canExecute {β : Type} (M : Mem) (f : Int32 × Mem → Option β) : (d_X10_canExecute M).bind f = Option.bind (
      (d_X3_isAtLimit 18 M).bind fun y1 =>
      if y1.1 = 0 then (
        (d_X6_isFull y1.2).bind fun y2 =>
        if y2.1 = 0 then (
          d_X10_canExecute_33 y2.2)
        else (
          (d_X10_breakOff y2.2).bind fun y3 =>
          d_X10_canExecute_33 y3.2))
      else (
        (d_X3_endAtLimit 18 y1.2).bind fun y4 =>
        some ((0 : Int32), y4.2))) f := id rfl
theorem tq_X10_meetCache (x1 : Int32) (M : Mem) : d_X10_meetCache x1 M = (
      if x1 = (103 : Int32) then (
        (d_X3_siteAhead 18 M).bind fun y7 =>
        (d_X3_shapeFromTop 18 (1 : Int32) y7.2).bind fun y8 =>
        (d_X0_meet y7.1 y8.1 y8.2).bind fun y9 =>
        some ((), y9.2))
      else (
        if x1 = (112 : Int32) then (
          (d_X3_siteAhead 18 M).bind fun y4 =>
          (d_X3_shapeFromTop 18 (2 : Int32) y4.2).bind fun y5 =>
          (d_X0_meet y4.1 y5.1 y5.2).bind fun y6 =>
          some ((), y6.2))
        else (
          if x1 = (109 : Int32) then (
            (d_X3_siteAhead 18 M).bind fun y1 =>
            (d_X3_classFromTop 18 y1.2).bind fun y2 =>
            (d_X0_meet y1.1 y2.1 y2.2).bind fun y3 =>
            some ((), y3.2))
          else (
            some ((), M))))) := id rfl
theorem bq_X10_meetCache {β : Type} (x1 : Int32) (M : Mem) (f : Unit × Mem → Option β) : (d_X10_meetCache x1 M).bind f = Option.bind (
      if x1 = (103 : Int32) then (
        (d_X3_siteAhead 18 M).bind fun y7 =>
        (d_X3_shapeFromTop 18 (1 : Int32) y7.2).bind fun y8 =>
        (d_X0_meet y7.1 y8.1 y8.2).bind fun y9 =>
        some ((), y9.2))
      else (
        if x1 = (112 : Int32) then (
          (d_X3_siteAhead 18 M).bind fun y4 =>
          (d_X3_shapeFromTop 18 (2 : Int32) y4.2).bind fun y5 =>
          (d_X0_meet y4.1 y5.1 y5.2).bind fun y6 =>
          some ((), y6.2))
        else (
          if x1 = (109 : Int32) then (
            (d_X3_siteAhead 18 M).bind fun y1 =>
            (d_X3_classFromTop 18 y1.2).bind fun y2 =>
            (d_X0_meet y1.1 y2.1 y2.2).bind fun y3 =>
            some ((), y3.2))
          else (
            some ((), M))))) f := id rfl
theorem tq_X10_finish_169 (x1 : Int32) (x2 : Int32) (M : Mem) : d_X10_finish_169 x1 x2 M = (
      bnd (sI M 48 10 (0 : Int32)) fun M1 =>
      if x1 = (-1 : Int32) then (
        (d_X10_enter x2 M1).bind fun y2 =>
        some ((), y2.2))
      else (
        (d_X10_enter x1 M1).bind fun y1 =>
        some ((), y1.2))) := id rfl
theorem bq_X10_finish_169 {β : Type} (x1 : Int32) (x2 : Int32) (M : Mem) (f : Unit × Mem → Option β) : (d_X10_finish_169 x1 x2 M).bind f = Option.bind (
      bnd (sI M 48 10 (0 : Int32)) fun M1 =>
      if x1 = (-1 : Int32) then (
        (d_X10_enter x2 M1).bind fun y2 =>
        some ((), y2.2))
      else (
        (d_X10_enter x1 M1).bind fun y1 =>
        some ((), y1.2))) f := id rfl
theorem tq_X10_finish_101 (x1 : Int32) (x2 : Int32) (s1 : Int32) (s2 : Nat) (s3 : Nat) (s5 : Int32) (M : Mem) : d_X10_finish_101 x1 x2 s1 s2 s3 s5 M = (
      okk (s3 ≤ nx M) <| okk (129 ≤ s3) <|
      (d_X9_init s3 48 s5 M).bind fun y1 =>
      okk (vp_in s1 20) <|
      okk (mK y1.2 s2 = 9) <|
      bnd (sR y1.2 68 s1.toNatClampNeg (some s2)) fun M1 =>
      bnd (sI M1 67 3 ((mI M1 67 3) + (1 : Int32))) fun M2 =>
      if x1 = (-1 : Int32) then (
        okk (vp_in (mI M2 48 11) 320) <|
        bnd (sI M2 47 (mI M2 48 11).toNatClampNeg x2) fun M4 =>
        d_X10_finish_169 x1 x2 M4)
      else (
        okk (vp_in (mI M2 48 13) 20) <|
        (mR M2 68 (mI M2 48 13).toNatClampNeg).bind fun r_1 =>
        okk (mK M2 r_1 = 9) <|
        (mR M2 r_1 11).bind fun r_2 =>
        okk (mK M2 r_2 = 21) <|
        okk (vp_in (mI M2 48 14) (mN M2 r_2)) <|
        bnd (sI M2 r_2 (mI M2 48 14).toNatClampNeg x2) fun M3 =>
        d_X10_finish_169 x1 x2 M3)) := id rfl
theorem bq_X10_finish_101 {β : Type} (x1 : Int32) (x2 : Int32) (s1 : Int32) (s2 : Nat) (s3 : Nat) (s5 : Int32) (M : Mem) (f : Unit × Mem → Option β) : (d_X10_finish_101 x1 x2 s1 s2 s3 s5 M).bind f = Option.bind (
      okk (s3 ≤ nx M) <| okk (129 ≤ s3) <|
      (d_X9_init s3 48 s5 M).bind fun y1 =>
      okk (vp_in s1 20) <|
      okk (mK y1.2 s2 = 9) <|
      bnd (sR y1.2 68 s1.toNatClampNeg (some s2)) fun M1 =>
      bnd (sI M1 67 3 ((mI M1 67 3) + (1 : Int32))) fun M2 =>
      if x1 = (-1 : Int32) then (
        okk (vp_in (mI M2 48 11) 320) <|
        bnd (sI M2 47 (mI M2 48 11).toNatClampNeg x2) fun M4 =>
        d_X10_finish_169 x1 x2 M4)
      else (
        okk (vp_in (mI M2 48 13) 20) <|
        (mR M2 68 (mI M2 48 13).toNatClampNeg).bind fun r_1 =>
        okk (mK M2 r_1 = 9) <|
        (mR M2 r_1 11).bind fun r_2 =>
        okk (mK M2 r_2 = 21) <|
        okk (vp_in (mI M2 48 14) (mN M2 r_2)) <|
        bnd (sI M2 r_2 (mI M2 48 14).toNatClampNeg x2) fun M3 =>
        d_X10_finish_169 x1 x2 M3)) f := id rfl
theorem tq_X10_finish_33 (s0 : Int32) (M : Mem) : d_X10_finish_33 s0 M = (
      (d_X1_isFull M).bind fun y1 =>
      if y1.1 = 0 then (
        (d_X1_makeRoom (mI y1.2 48 7) s0 y1.2).bind fun y3 =>
        if y3.1 = 0 then (
          (d_X10_breakOff y3.2).bind fun y4 =>
          some ((), y4.2))
        else (
          bnd ((mI y3.2 67 3)) fun b1 =>
          bnd (nx y3.2) fun r_1 => okk (r_1 < 2147483648) <|
          bnd (sN y3.2 r_1 9 17) fun M1 =>
          if s0 = (-1 : Int32) then (
            d_X10_finish_101 s0 b1 b1 r_1 r_1 b1 M1)
          else (
            d_X10_finish_101 s0 b1 b1 r_1 r_1 s0 M1)))
      else (
        (d_X10_breakOff y1.2).bind fun y2 =>
        some ((), y2.2))) := id rfl
theorem bq_X10_finish_33 {β : Type} (s0 : Int32) (M : Mem) (f : Unit × Mem → Option β) : (d_X10_finish_33 s0 M).bind f = Option.bind (
      (d_X1_isFull M).bind fun y1 =>
      if y1.1 = 0 then (
        (d_X1_makeRoom (mI y1.2 48 7) s0 y1.2).bind fun y3 =>
        if y3.1 = 0 then (
          (d_X10_breakOff y3.2).bind fun y4 =>
          some ((), y4.2))
        else (
          bnd ((mI y3.2 67 3)) fun b1 =>
          bnd (nx y3.2) fun r_1 => okk (r_1 < 2147483648) <|
          bnd (sN y3.2 r_1 9 17) fun M1 =>
          if s0 = (-1 : Int32) then (
            d_X10_finish_101 s0 b1 b1 r_1 r_1 b1 M1)
          else (
            d_X10_finish_101 s0 b1 b1 r_1 r_1 s0 M1)))
      else (
        (d_X10_breakOff y1.2).bind fun y2 =>
        some ((), y2.2))) f := id rfl
theorem tq_X10_finish (M : Mem) : d_X10_finish M = (
      if (mI M 48 13) = (-1 : Int32) then (
        d_X10_finish_33 (-1 : Int32) M)
      else (
        okk (vp_in (mI M 48 13) 20) <|
        (mR M 68 (mI M 48 13).toNatClampNeg).bind fun r_1 =>
        okk (mK M r_1 = 9) <|
        d_X10_finish_33 (mI M r_1 12) M)) := id rfl
theorem bq_X10_finish {β : Type} (M : Mem) (f : Unit × Mem → Option β) : (d_X10_finish M).bind f = Option.bind (
      if (mI M 48 13) = (-1 : Int32) then (
        d_X10_finish_33 (-1 : Int32) M)
      else (
        okk (vp_in (mI M 48 13) 20) <|
        (mR M 68 (mI M 48 13).toNatClampNeg).bind fun r_1 =>
        okk (mK M r_1 = 9) <|
        d_X10_finish_33 (mI M r_1 12) M)) f := id rfl
theorem tq_X10_arrive_29 (x1 : Int32) (M : Mem) : d_X10_arrive_29 x1 M = (
      (d_X10_breakOff M).bind fun y1 =>
      okk (vp_in x1 320) <|
      if (mI y1.2 47 x1.toNatClampNeg) = (-1 : Int32) then (
        okk (vp_in x1 320) <|
        okk (vp_in x1 320) <|
        bnd (sI y1.2 45 x1.toNatClampNeg ((mI y1.2 45 x1.toNatClampNeg) + (1 : Int32))) fun M1 =>
        okk (vp_in x1 320) <|
        if (mI M1 45 x1.toNatClampNeg) < (mI M1 38 5) then (
          some ((), M1))
        else (
          (d_X2_bars x1 M1).bind fun y2 =>
          if y2.1 = 0 then (
            (d_X6_beginRoot x1 y2.2).bind fun y3 =>
            some ((), y3.2))
          else (
            some ((), y2.2))))
      else (
        okk (vp_in x1 320) <|
        (d_X10_enter (mI y1.2 47 x1.toNatClampNeg) y1.2).bind fun y4 =>
        some ((), y4.2))) := id rfl
theorem bq_X10_arrive_29 {β : Type} (x1 : Int32) (M : Mem) (f : Unit × Mem → Option β) : (d_X10_arrive_29 x1 M).bind f = Option.bind (
      (d_X10_breakOff M).bind fun y1 =>
      okk (vp_in x1 320) <|
      if (mI y1.2 47 x1.toNatClampNeg) = (-1 : Int32) then (
        okk (vp_in x1 320) <|
        okk (vp_in x1 320) <|
        bnd (sI y1.2 45 x1.toNatClampNeg ((mI y1.2 45 x1.toNatClampNeg) + (1 : Int32))) fun M1 =>
        okk (vp_in x1 320) <|
        if (mI M1 45 x1.toNatClampNeg) < (mI M1 38 5) then (
          some ((), M1))
        else (
          (d_X2_bars x1 M1).bind fun y2 =>
          if y2.1 = 0 then (
            (d_X6_beginRoot x1 y2.2).bind fun y3 =>
            some ((), y3.2))
          else (
            some ((), y2.2))))
      else (
        okk (vp_in x1 320) <|
        (d_X10_enter (mI y1.2 47 x1.toNatClampNeg) y1.2).bind fun y4 =>
        some ((), y4.2))) f := id rfl
theorem tq_X10_arrive (x1 : Int32) (M : Mem) : d_X10_arrive x1 M = (
      if (mI M 48 10) = 0 then (
        d_X10_arrive_29 x1 M)
      else (
        (d_X6_isClosedBy M).bind fun y1 =>
        if y1.1 = 0 then (
          d_X10_arrive_29 x1 y1.2)
        else (
          (d_X10_finish y1.2).bind fun y2 =>
          some ((), y2.2)))) := id rfl
theorem bq_X10_arrive {β : Type} (x1 : Int32) (M : Mem) (f : Unit × Mem → Option β) : (d_X10_arrive x1 M).bind f = Option.bind (
      if (mI M 48 10) = 0 then (
        d_X10_arrive_29 x1 M)
      else (
        (d_X6_isClosedBy M).bind fun y1 =>
        if y1.1 = 0 then (
          d_X10_arrive_29 x1 y1.2)
        else (
          (d_X10_finish y1.2).bind fun y2 =>
          some ((), y2.2)))) f := id rfl
theorem tq_X10_executeOutside_91 (x2 : Int32) (M : Mem) : d_X10_executeOutside_91 x2 M = (
      if x2 = 0 then (
        some ((), M))
      else (
        (d_X3_siteAhead 18 M).bind fun y1 =>
        (d_X10_arrive y1.1 y1.2).bind fun y2 =>
        some ((), y2.2))) := id rfl
theorem bq_X10_executeOutside_91 {β : Type} (x2 : Int32) (M : Mem) (f : Unit × Mem → Option β) : (d_X10_executeOutside_91 x2 M).bind f = Option.bind (
      if x2 = 0 then (
        some ((), M))
      else (
        (d_X3_siteAhead 18 M).bind fun y1 =>
        (d_X10_arrive y1.1 y1.2).bind fun y2 =>
        some ((), y2.2))) f := id rfl
theorem tq_X10_executeOutside_61 (x1 : Int32) (M : Mem) : d_X10_executeOutside_61 x1 M = (
      (d_X3_execute 18 M).bind fun y1 =>
      if (mI y1.2 48 10) = 0 then (
        d_X10_executeOutside_91 y1.1 y1.2)
      else (
        (d_X6_noteBehind x1 y1.2).bind fun y2 =>
        d_X10_executeOutside_91 y1.1 y2.2)) := id rfl
theorem bq_X10_executeOutside_61 {β : Type} (x1 : Int32) (M : Mem) (f : Unit × Mem → Option β) : (d_X10_executeOutside_61 x1 M).bind f = Option.bind (
      (d_X3_execute 18 M).bind fun y1 =>
      if (mI y1.2 48 10) = 0 then (
        d_X10_executeOutside_91 y1.1 y1.2)
      else (
        (d_X6_noteBehind x1 y1.2).bind fun y2 =>
        d_X10_executeOutside_91 y1.1 y2.2)) f := id rfl
theorem tq_X10_executeOutside_35 (x1 : Int32) (M : Mem) : d_X10_executeOutside_35 x1 M = (
      (d_X10_meetCache x1 M).bind fun y1 =>
      if (mI y1.2 48 10) = 0 then (
        d_X10_executeOutside_61 x1 y1.2)
      else (
        (d_X6_noteAhead y1.2).bind fun y2 =>
        d_X10_executeOutside_61 x1 y2.2)) := id rfl
theorem bq_X10_executeOutside_35 {β : Type} (x1 : Int32) (M : Mem) (f : Unit × Mem → Option β) : (d_X10_executeOutside_35 x1 M).bind f = Option.bind (
      (d_X10_meetCache x1 M).bind fun y1 =>
      if (mI y1.2 48 10) = 0 then (
        d_X10_executeOutside_61 x1 y1.2)
      else (
        (d_X6_noteAhead y1.2).bind fun y2 =>
        d_X10_executeOutside_61 x1 y2.2)) f := id rfl
theorem tq_X10_executeOutside (M : Mem) : d_X10_executeOutside M = (
      bnd ((mI M 18 7)) fun b1 =>
      if b1 = (114 : Int32) then (
        if (mI M 18 9) = (mI M 48 12) then (
          (d_X10_breakOff M).bind fun y1 =>
          d_X10_executeOutside_35 b1 y1.2)
        else (
          d_X10_executeOutside_35 b1 M))
      else (
        d_X10_executeOutside_35 b1 M)) := id rfl
theorem bq_X10_executeOutside {β : Type} (M : Mem) (f : Unit × Mem → Option β) : (d_X10_executeOutside M).bind f = Option.bind (
      bnd ((mI M 18 7)) fun b1 =>
      if b1 = (114 : Int32) then (
        if (mI M 18 9) = (mI M 48 12) then (
          (d_X10_breakOff M).bind fun y1 =>
          d_X10_executeOutside_35 b1 y1.2)
        else (
          d_X10_executeOutside_35 b1 M))
      else (
        d_X10_executeOutside_35 b1 M)) f := id rfl
theorem tq_X11_addFunction_9 (M : Mem) : d_X11_addFunction_9 M = (
      some (.inr "java/lang/IllegalArgumentException", tk M 6)) := id rfl
theorem bq_X11_addFunction_9 {β : Type} (M : Mem) (f : (Int32 ⊕ String) × Mem → Option β) : (d_X11_addFunction_9 M).bind f = Option.bind (
      some (.inr "java/lang/IllegalArgumentException", tk M 6)) f := id rfl
theorem tq_X11_addFunction (x1 : Int32) (M : Mem) : d_X11_addFunction x1 M = (
      if x1 < 0 then (
        d_X11_addFunction_9 M)
      else (
        if x1 ≤ (3 : Int32) then (
          if (mI M 2 8) < (8 : Int32) then (
            (d_X5_addFunctionWith x1 M).bind fun y1 =>
            some (.inl y1.1, y1.2))
          else (
            some (.inr "java/lang/IllegalStateException", tk M 6)))
        else (
          d_X11_addFunction_9 M))) := id rfl
theorem bq_X11_addFunction {β : Type} (x1 : Int32) (M : Mem) (f : (Int32 ⊕ String) × Mem → Option β) : (d_X11_addFunction x1 M).bind f = Option.bind (
      if x1 < 0 then (
        d_X11_addFunction_9 M)
      else (
        if x1 ≤ (3 : Int32) then (
          if (mI M 2 8) < (8 : Int32) then (
            (d_X5_addFunctionWith x1 M).bind fun y1 =>
            some (.inl y1.1, y1.2))
          else (
            some (.inr "java/lang/IllegalStateException", tk M 6)))
        else (
          d_X11_addFunction_9 M))) f := id rfl
theorem tq_X11_needFunction (x1 : Int32) (M : Mem) : d_X11_needFunction x1 M = (
      (d_X5_hasFunction x1 M).bind fun y1 =>
      if y1.1 = 0 then (
        some (.inr "java/lang/IndexOutOfBoundsException", tk y1.2 6))
      else (
        some (.inl (), y1.2))) := id rfl
theorem bq_X11_needFunction {β : Type} (x1 : Int32) (M : Mem) (f : (Unit ⊕ String) × Mem → Option β) : (d_X11_needFunction x1 M).bind f = Option.bind (
      (d_X5_hasFunction x1 M).bind fun y1 =>
      if y1.1 = 0 then (
        some (.inr "java/lang/IndexOutOfBoundsException", tk y1.2 6))
      else (
        some (.inl (), y1.2))) f := id rfl
theorem tq_X11_code (x1 : Int32) (x2 : Int32) (x3 : Int32) (M : Mem) : d_X11_code x1 x2 x3 M = (
      (d_X11_needFunction x1 M).bind fun y1 => match y1 with
      | (.inl y1, N1) => (
        if 0 ≤ (xIdx 0 x2) then (
          (d_X5_allowsOperand x2 x3 N1).bind fun y2 =>
          if y2.1 = 0 then (
            some (.inr "java/lang/IllegalArgumentException", tk y2.2 6))
          else (
            okk (vp_in x1 8) <|
            if (mI y2.2 4 x1.toNatClampNeg) < (40 : Int32) then (
              (d_X5_append x1 x2 x3 y2.2).bind fun y3 =>
              some (.inl y3.1, y3.2))
            else (
              some (.inr "java/lang/IllegalStateException", tk y2.2 6))))
        else (
          some (.inr "java/lang/IllegalArgumentException", tk N1 6)))
      | (.inr E1, N1) => (
        some (.inr E1, N1))) := id rfl
theorem bq_X11_code {β : Type} (x1 : Int32) (x2 : Int32) (x3 : Int32) (M : Mem) (f : (Int32 ⊕ String) × Mem → Option β) : (d_X11_code x1 x2 x3 M).bind f = Option.bind (
      (d_X11_needFunction x1 M).bind fun y1 => match y1 with
      | (.inl y1, N1) => (
        if 0 ≤ (xIdx 0 x2) then (
          (d_X5_allowsOperand x2 x3 N1).bind fun y2 =>
          if y2.1 = 0 then (
            some (.inr "java/lang/IllegalArgumentException", tk y2.2 6))
          else (
            okk (vp_in x1 8) <|
            if (mI y2.2 4 x1.toNatClampNeg) < (40 : Int32) then (
              (d_X5_append x1 x2 x3 y2.2).bind fun y3 =>
              some (.inl y3.1, y3.2))
            else (
              some (.inr "java/lang/IllegalStateException", tk y2.2 6))))
        else (
          some (.inr "java/lang/IllegalArgumentException", tk N1 6)))
      | (.inr E1, N1) => (
        some (.inr E1, N1))) f := id rfl
theorem tq_X11_needIndex_10 (M : Mem) : d_X11_needIndex_10 M = (
      some (.inr "java/lang/IllegalArgumentException", tk M 6)) := id rfl
theorem bq_X11_needIndex_10 {β : Type} (M : Mem) (f : (Unit ⊕ String) × Mem → Option β) : (d_X11_needIndex_10 M).bind f = Option.bind (
      some (.inr "java/lang/IllegalArgumentException", tk M 6)) f := id rfl
theorem tq_X11_needIndex (x1 : Int32) (M : Mem) : d_X11_needIndex x1 M = (
      if x1 < 0 then (
        d_X11_needIndex_10 M)
      else (
        if x1 < (40 : Int32) then (
          some (.inl (), M))
        else (
          d_X11_needIndex_10 M))) := id rfl
theorem bq_X11_needIndex {β : Type} (x1 : Int32) (M : Mem) (f : (Unit ⊕ String) × Mem → Option β) : (d_X11_needIndex x1 M).bind f = Option.bind (
      if x1 < 0 then (
        d_X11_needIndex_10 M)
      else (
        if x1 < (40 : Int32) then (
          some (.inl (), M))
        else (
          d_X11_needIndex_10 M))) f := id rfl
theorem tq_X11_setHandler (x1 : Int32) (x2 : Int32) (M : Mem) : d_X11_setHandler x1 x2 M = (
      (d_X11_needFunction x1 M).bind fun y1 => match y1 with
      | (.inl y1, N1) => (
        (d_X11_needIndex x2 N1).bind fun y2 => match y2 with
        | (.inl y2, N2) => (
          okk (vp_in x1 8) <|
          bnd ((mI N2 5 x1.toNatClampNeg)) fun b1 =>
          okk (vp_in x1 8) <|
          bnd (sI N2 5 x1.toNatClampNeg x2) fun M1 =>
          some (.inl b1, M1))
        | (.inr E2, N2) => (
          some (.inr E2, N2)))
      | (.inr E1, N1) => (
        some (.inr E1, N1))) := id rfl
theorem bq_X11_setHandler {β : Type} (x1 : Int32) (x2 : Int32) (M : Mem) (f : (Int32 ⊕ String) × Mem → Option β) : (d_X11_setHandler x1 x2 M).bind f = Option.bind (
      (d_X11_needFunction x1 M).bind fun y1 => match y1 with
      | (.inl y1, N1) => (
        (d_X11_needIndex x2 N1).bind fun y2 => match y2 with
        | (.inl y2, N2) => (
          okk (vp_in x1 8) <|
          bnd ((mI N2 5 x1.toNatClampNeg)) fun b1 =>
          okk (vp_in x1 8) <|
          bnd (sI N2 5 x1.toNatClampNeg x2) fun M1 =>
          some (.inl b1, M1))
        | (.inr E2, N2) => (
          some (.inr E2, N2)))
      | (.inr E1, N1) => (
        some (.inr E1, N1))) f := id rfl
theorem tq_X11_addClass_26 (x1 : Int32) (M : Mem) : d_X11_addClass_26 x1 M = (
      if (mI M 2 9) < (5 : Int32) then (
        if (mI M 11 6) < (60 : Int32) then (
          (d_X5_addClassBelow x1 M).bind fun y1 =>
          (d_X7_addEmpty y1.1 y1.2).bind fun y2 =>
          okk (vp_in y1.1 5) <|
          bnd (sI y2.2 17 y1.1.toNatClampNeg y2.1) fun M1 =>
          some (.inl y1.1, M1))
        else (
          some (.inr "java/lang/UnsupportedOperationException", tk M 6)))
      else (
        some (.inr "java/lang/IllegalStateException", tk M 6))) := id rfl
theorem bq_X11_addClass_26 {β : Type} (x1 : Int32) (M : Mem) (f : (Int32 ⊕ String) × Mem → Option β) : (d_X11_addClass_26 x1 M).bind f = Option.bind (
      if (mI M 2 9) < (5 : Int32) then (
        if (mI M 11 6) < (60 : Int32) then (
          (d_X5_addClassBelow x1 M).bind fun y1 =>
          (d_X7_addEmpty y1.1 y1.2).bind fun y2 =>
          okk (vp_in y1.1 5) <|
          bnd (sI y2.2 17 y1.1.toNatClampNeg y2.1) fun M1 =>
          some (.inl y1.1, M1))
        else (
          some (.inr "java/lang/UnsupportedOperationException", tk M 6)))
      else (
        some (.inr "java/lang/IllegalStateException", tk M 6))) f := id rfl
theorem tq_X11_addClass (x1 : Int32) (M : Mem) : d_X11_addClass x1 M = (
      if x1 = (-1 : Int32) then (
        d_X11_addClass_26 x1 M)
      else (
        (d_X5_hasClass x1 M).bind fun y1 =>
        if y1.1 = 0 then (
          some (.inr "java/lang/IndexOutOfBoundsException", tk y1.2 6))
        else (
          d_X11_addClass_26 x1 y1.2))) := id rfl
theorem bq_X11_addClass {β : Type} (x1 : Int32) (M : Mem) (f : (Int32 ⊕ String) × Mem → Option β) : (d_X11_addClass x1 M).bind f = Option.bind (
      if x1 = (-1 : Int32) then (
        d_X11_addClass_26 x1 M)
      else (
        (d_X5_hasClass x1 M).bind fun y1 =>
        if y1.1 = 0 then (
          some (.inr "java/lang/IndexOutOfBoundsException", tk y1.2 6))
        else (
          d_X11_addClass_26 x1 y1.2))) f := id rfl
theorem tq_X11_isName (x0 : Int32) (M : Mem) : d_X11_isName x0 M = (
      if x0 < 0 then (
        some ((0 : Int32), M))
      else (
        if (6 : Int32) ≤ x0 then (
          some ((0 : Int32), M))
        else (
          some ((1 : Int32), M)))) := id rfl
theorem bq_X11_isName {β : Type} (x0 : Int32) (M : Mem) (f : Int32 × Mem → Option β) : (d_X11_isName x0 M).bind f = Option.bind (
      if x0 < 0 then (
        some ((0 : Int32), M))
      else (
        if (6 : Int32) ≤ x0 then (
          some ((0 : Int32), M))
        else (
          some ((1 : Int32), M)))) f := id rfl
theorem tq_X11_setMethod (x1 : Int32) (x2 : Int32) (x3 : Int32) (M : Mem) : d_X11_setMethod x1 x2 x3 M = (
      (d_X5_hasClass x1 M).bind fun y1 =>
      if y1.1 = 0 then (
        some (.inr "java/lang/IndexOutOfBoundsException", tk y1.2 6))
      else (
        (d_X11_isName x2 y1.2).bind fun y2 =>
        if y2.1 = 0 then (
          some (.inr "java/lang/IllegalArgumentException", tk y2.2 6))
        else (
          (d_X5_hasFunction x3 y2.2).bind fun y3 =>
          if y3.1 = 0 then (
            some (.inr "java/util/NoSuchElementException", tk y3.2 6))
          else (
            okk (vp_in x3 8) <|
            if (mI y3.2 3 x3.toNatClampNeg) = (1 : Int32) then (
              okk (vp_in ((x1 * (6 : Int32)) + x2) 30) <|
              bnd (sI y3.2 10 ((x1 * (6 : Int32)) + x2).toNatClampNeg x3) fun M1 =>
              (d_X0_emptyMethods M1).bind fun y4 =>
              (d_X1_throwThoseWith (109 : Int32) (0 : Int32) y4.2).bind fun y5 =>
              some (.inl y5.1, y5.2))
            else (
              some (.inr "java/lang/UnsupportedOperationException", tk y3.2 6)))))) := id rfl
theorem bq_X11_setMethod {β : Type} (x1 : Int32) (x2 : Int32) (x3 : Int32) (M : Mem) (f : (Int32 ⊕ String) × Mem → Option β) : (d_X11_setMethod x1 x2 x3 M).bind f = Option.bind (
      (d_X5_hasClass x1 M).bind fun y1 =>
      if y1.1 = 0 then (
        some (.inr "java/lang/IndexOutOfBoundsException", tk y1.2 6))
      else (
        (d_X11_isName x2 y1.2).bind fun y2 =>
        if y2.1 = 0 then (
          some (.inr "java/lang/IllegalArgumentException", tk y2.2 6))
        else (
          (d_X5_hasFunction x3 y2.2).bind fun y3 =>
          if y3.1 = 0 then (
            some (.inr "java/util/NoSuchElementException", tk y3.2 6))
          else (
            okk (vp_in x3 8) <|
            if (mI y3.2 3 x3.toNatClampNeg) = (1 : Int32) then (
              okk (vp_in ((x1 * (6 : Int32)) + x2) 30) <|
              bnd (sI y3.2 10 ((x1 * (6 : Int32)) + x2).toNatClampNeg x3) fun M1 =>
              (d_X0_emptyMethods M1).bind fun y4 =>
              (d_X1_throwThoseWith (109 : Int32) (0 : Int32) y4.2).bind fun y5 =>
              some (.inl y5.1, y5.2))
            else (
              some (.inr "java/lang/UnsupportedOperationException", tk y3.2 6)))))) f := id rfl
theorem tq_X11_setCell_10 (M : Mem) : d_X11_setCell_10 M = (
      some (.inr "java/lang/IllegalArgumentException", tk M 6)) := id rfl
theorem bq_X11_setCell_10 {β : Type} (M : Mem) (f : (Int32 ⊕ String) × Mem → Option β) : (d_X11_setCell_10 M).bind f = Option.bind (
      some (.inr "java/lang/IllegalArgumentException", tk M 6)) f := id rfl
theorem tq_X11_setCell (x1 : Int32) (x2 : Int32) (M : Mem) : d_X11_setCell x1 x2 M = (
      if x1 < 0 then (
        d_X11_setCell_10 M)
      else (
        if x1 < (8 : Int32) then (
          okk (vp_in x1 8) <|
          if (mI M 8 x1.toNatClampNeg) = x2 then (
            some (.inl (0 : Int32), M))
          else (
            okk (vp_in x1 8) <|
            bnd (sI M 8 x1.toNatClampNeg x2) fun M1 =>
            (d_X1_throwThoseWith (107 : Int32) x1 M1).bind fun y1 =>
            some (.inl y1.1, y1.2)))
        else (
          d_X11_setCell_10 M))) := id rfl
theorem bq_X11_setCell {β : Type} (x1 : Int32) (x2 : Int32) (M : Mem) (f : (Int32 ⊕ String) × Mem → Option β) : (d_X11_setCell x1 x2 M).bind f = Option.bind (
      if x1 < 0 then (
        d_X11_setCell_10 M)
      else (
        if x1 < (8 : Int32) then (
          okk (vp_in x1 8) <|
          if (mI M 8 x1.toNatClampNeg) = x2 then (
            some (.inl (0 : Int32), M))
          else (
            okk (vp_in x1 8) <|
            bnd (sI M 8 x1.toNatClampNeg x2) fun M1 =>
            (d_X1_throwThoseWith (107 : Int32) x1 M1).bind fun y1 =>
            some (.inl y1.1, y1.2)))
        else (
          d_X11_setCell_10 M))) f := id rfl
theorem tq_X11_setLimits_35 (M : Mem) : d_X11_setLimits_35 M = (
      some (.inr "java/lang/IllegalArgumentException", tk M 6)) := id rfl
theorem bq_X11_setLimits_35 {β : Type} (M : Mem) (f : (Int32 ⊕ String) × Mem → Option β) : (d_X11_setLimits_35 M).bind f = Option.bind (
      some (.inr "java/lang/IllegalArgumentException", tk M 6)) f := id rfl
theorem tq_X11_setLimits (x1 : Int32) (x2 : Int32) (x3 : Int32) (M : Mem) : d_X11_setLimits x1 x2 x3 M = (
      if x1 < (2 : Int32) then (
        d_X11_setLimits_35 M)
      else (
        if (50 : Int32) < x1 then (
          d_X11_setLimits_35 M)
        else (
          if x2 < (1 : Int32) then (
            d_X11_setLimits_35 M)
          else (
            if (20 : Int32) < x2 then (
              d_X11_setLimits_35 M)
            else (
              if x3 < (10 : Int32) then (
                d_X11_setLimits_35 M)
              else (
                if x3 ≤ (200 : Int32) then (
                  bnd (sI M 38 5 x1) fun M1 =>
                  bnd (sI M1 38 6 x2) fun M2 =>
                  bnd (sI M2 67 4 x3) fun M3 =>
                  (d_X1_shrink M3).bind fun y1 =>
                  some (.inl y1.1, y1.2))
                else (
                  d_X11_setLimits_35 M))))))) := id rfl
theorem bq_X11_setLimits {β : Type} (x1 : Int32) (x2 : Int32) (x3 : Int32) (M : Mem) (f : (Int32 ⊕ String) × Mem → Option β) : (d_X11_setLimits x1 x2 x3 M).bind f = Option.bind (
      if x1 < (2 : Int32) then (
        d_X11_setLimits_35 M)
      else (
        if (50 : Int32) < x1 then (
          d_X11_setLimits_35 M)
        else (
          if x2 < (1 : Int32) then (
            d_X11_setLimits_35 M)
          else (
            if (20 : Int32) < x2 then (
              d_X11_setLimits_35 M)
            else (
              if x3 < (10 : Int32) then (
                d_X11_setLimits_35 M)
              else (
                if x3 ≤ (200 : Int32) then (
                  bnd (sI M 38 5 x1) fun M1 =>
                  bnd (sI M1 38 6 x2) fun M2 =>
                  bnd (sI M2 67 4 x3) fun M3 =>
                  (d_X1_shrink M3).bind fun y1 =>
                  some (.inl y1.1, y1.2))
                else (
                  d_X11_setLimits_35 M))))))) f := id rfl
theorem tq_X11_run_138 (M : Mem) : d_X11_run_138 M = (
      (d_X10_breakOff M).bind fun y1 =>
      (d_X3_endedLike y1.2).bind fun y2 =>
      okk (isBo y2.1) <|
      bnd (sI y2.2 1 5 y2.1) fun M1 =>
      some (.inl (mI M1 18 12), M1)) := id rfl
theorem bq_X11_run_138 {β : Type} (M : Mem) (f : (Int32 ⊕ String) × Mem → Option β) : (d_X11_run_138 M).bind f = Option.bind (
      (d_X10_breakOff M).bind fun y1 =>
      (d_X3_endedLike y1.2).bind fun y2 =>
      okk (isBo y2.1) <|
      bnd (sI y2.2 1 5 y2.1) fun M1 =>
      some (.inl (mI M1 18 12), M1)) f := id rfl
theorem tq_X11_run_132 (k78 : (Int32) → Mem → Option ((Int32 ⊕ String) × Mem)) (x4 : Int32) (M : Mem) : d_X11_run_132 k78 x4 M = (
      bnd ((x4 + (1 : Int32))) fun b1 =>
      k78 (b1) M) := id rfl
theorem bq_X11_run_132 {β : Type} (k78 : (Int32) → Mem → Option ((Int32 ⊕ String) × Mem)) (x4 : Int32) (M : Mem) (f : (Int32 ⊕ String) × Mem → Option β) : (d_X11_run_132 k78 x4 M).bind f = Option.bind (
      bnd ((x4 + (1 : Int32))) fun b1 =>
      k78 (b1) M) f := id rfl
theorem tq_X11_run_78b (k78 : (Int32) → Mem → Option ((Int32 ⊕ String) × Mem)) (x4 : Int32) (M : Mem) : d_X11_run_78b k78 x4 M = (
      if (1000000 : Int32) ≤ x4 then (
        d_X11_run_138 M)
      else (
        (d_X3_isRunning 18 M).bind fun y1 =>
        if y1.1 = 0 then (
          d_X11_run_138 y1.2)
        else (
          if (mI y1.2 38 8) = 0 then (
            (d_X10_canExecute y1.2).bind fun y2 =>
            if y2.1 = 0 then (
              d_X11_run_132 k78 x4 y2.2)
            else (
              (d_X10_executeOutside y2.2).bind fun y3 =>
              d_X11_run_132 k78 x4 y3.2))
          else (
            (d_X10_turnInTrace y1.2).bind fun y4 =>
            d_X11_run_132 k78 x4 y4.2)))) := id rfl
theorem bq_X11_run_78b {β : Type} (k78 : (Int32) → Mem → Option ((Int32 ⊕ String) × Mem)) (x4 : Int32) (M : Mem) (f : (Int32 ⊕ String) × Mem → Option β) : (d_X11_run_78b k78 x4 M).bind f = Option.bind (
      if (1000000 : Int32) ≤ x4 then (
        d_X11_run_138 M)
      else (
        (d_X3_isRunning 18 M).bind fun y1 =>
        if y1.1 = 0 then (
          d_X11_run_138 y1.2)
        else (
          if (mI y1.2 38 8) = 0 then (
            (d_X10_canExecute y1.2).bind fun y2 =>
            if y2.1 = 0 then (
              d_X11_run_132 k78 x4 y2.2)
            else (
              (d_X10_executeOutside y2.2).bind fun y3 =>
              d_X11_run_132 k78 x4 y3.2))
          else (
            (d_X10_turnInTrace y1.2).bind fun y4 =>
            d_X11_run_132 k78 x4 y4.2)))) f := id rfl
theorem tq_X11_run (x1 : Int32) (x2 : Int32) (M : Mem) : d_X11_run x1 x2 M = (
      (d_X11_needFunction x1 M).bind fun y1 => match y1 with
      | (.inl y1, N1) => (
        okk (vp_in x1 8) <|
        if (mI N1 3 x1.toNatClampNeg) = 0 then (
          some (.inr "java/lang/UnsupportedOperationException", tk N1 6))
        else (
          bnd ((mI N1 11 6)) fun b1 =>
          (d_X3_begin 28 x1 x2 N1).bind fun y2 =>
          (d_X3_runOut 28 y2.2).bind fun y3 =>
          (d_X7_takeBack b1 y3.2).bind fun y4 =>
          (d_X3_begin 18 x1 x2 y4.2).bind fun y5 =>
          (d_X10_begin y5.2).bind fun y6 =>
          d_X11_run_78 fuel ((0 : Int32)) y6.2))
      | (.inr E1, N1) => (
        some (.inr E1, N1))) := id rfl
theorem bq_X11_run {β : Type} (x1 : Int32) (x2 : Int32) (M : Mem) (f : (Int32 ⊕ String) × Mem → Option β) : (d_X11_run x1 x2 M).bind f = Option.bind (
      (d_X11_needFunction x1 M).bind fun y1 => match y1 with
      | (.inl y1, N1) => (
        okk (vp_in x1 8) <|
        if (mI N1 3 x1.toNatClampNeg) = 0 then (
          some (.inr "java/lang/UnsupportedOperationException", tk N1 6))
        else (
          bnd ((mI N1 11 6)) fun b1 =>
          (d_X3_begin 28 x1 x2 N1).bind fun y2 =>
          (d_X3_runOut 28 y2.2).bind fun y3 =>
          (d_X7_takeBack b1 y3.2).bind fun y4 =>
          (d_X3_begin 18 x1 x2 y4.2).bind fun y5 =>
          (d_X10_begin y5.2).bind fun y6 =>
          d_X11_run_78 fuel ((0 : Int32)) y6.2))
      | (.inr E1, N1) => (
        some (.inr E1, N1))) f := id rfl
theorem tq_X11_outcome (M : Mem) : d_X11_outcome M = (
      okk (isCh (mI M 18 13)) <|
      some ((mI M 18 13), M)) := id rfl
theorem bq_X11_outcome {β : Type} (M : Mem) (f : Int32 × Mem → Option β) : (d_X11_outcome M).bind f = Option.bind (
      okk (isCh (mI M 18 13)) <|
      some ((mI M 18 13), M)) f := id rfl
theorem tq_X11_needEnding (x1 : Int32) (M : Mem) : d_X11_needEnding x1 M = (
      if (mI M 18 13) = x1 then (
        some (.inl (), M))
      else (
        some (.inr "java/util/NoSuchElementException", tk M 6))) := id rfl
theorem bq_X11_needEnding {β : Type} (x1 : Int32) (M : Mem) (f : (Unit ⊕ String) × Mem → Option β) : (d_X11_needEnding x1 M).bind f = Option.bind (
      if (mI M 18 13) = x1 then (
        some (.inl (), M))
      else (
        some (.inr "java/util/NoSuchElementException", tk M 6))) f := id rfl
theorem tq_X11_resultKind (M : Mem) : d_X11_resultKind M = (
      (d_X11_needEnding (118 : Int32) M).bind fun y1 => match y1 with
      | (.inl y1, N1) => (
        okk (isCh (mI N1 20 548)) <|
        some (.inl (mI N1 20 548), N1))
      | (.inr E1, N1) => (
        some (.inr E1, N1))) := id rfl
theorem bq_X11_resultKind {β : Type} (M : Mem) (f : (Int32 ⊕ String) × Mem → Option β) : (d_X11_resultKind M).bind f = Option.bind (
      (d_X11_needEnding (118 : Int32) M).bind fun y1 => match y1 with
      | (.inl y1, N1) => (
        okk (isCh (mI N1 20 548)) <|
        some (.inl (mI N1 20 548), N1))
      | (.inr E1, N1) => (
        some (.inr E1, N1))) f := id rfl
theorem tq_X11_result (M : Mem) : d_X11_result M = (
      (d_X11_needEnding (118 : Int32) M).bind fun y1 => match y1 with
      | (.inl y1, N1) => (
        (d_X8_bitsAt 18 (548 : Int32) N1).bind fun y2 =>
        some (.inl y2.1, y2.2))
      | (.inr E1, N1) => (
        some (.inr E1, N1))) := id rfl
theorem bq_X11_result {β : Type} (M : Mem) (f : (Int64 ⊕ String) × Mem → Option β) : (d_X11_result M).bind f = Option.bind (
      (d_X11_needEnding (118 : Int32) M).bind fun y1 => match y1 with
      | (.inl y1, N1) => (
        (d_X8_bitsAt 18 (548 : Int32) N1).bind fun y2 =>
        some (.inl y2.1, y2.2))
      | (.inr E1, N1) => (
        some (.inr E1, N1))) f := id rfl
theorem tq_X11_failure (M : Mem) : d_X11_failure M = (
      (d_X11_needEnding (120 : Int32) M).bind fun y1 => match y1 with
      | (.inl y1, N1) => (
        okk (isCh (mI N1 18 14)) <|
        some (.inl (mI N1 18 14), N1))
      | (.inr E1, N1) => (
        some (.inr E1, N1))) := id rfl
theorem bq_X11_failure {β : Type} (M : Mem) (f : (Int32 ⊕ String) × Mem → Option β) : (d_X11_failure M).bind f = Option.bind (
      (d_X11_needEnding (120 : Int32) M).bind fun y1 => match y1 with
      | (.inl y1, N1) => (
        okk (isCh (mI N1 18 14)) <|
        some (.inl (mI N1 18 14), N1))
      | (.inr E1, N1) => (
        some (.inr E1, N1))) f := id rfl
theorem tq_X11_line (M : Mem) : d_X11_line M = (
      (d_X11_needEnding (120 : Int32) M).bind fun y1 => match y1 with
      | (.inl y1, N1) => (
        some (.inl (mI N1 18 15), N1))
      | (.inr E1, N1) => (
        some (.inr E1, N1))) := id rfl
theorem bq_X11_line {β : Type} (M : Mem) (f : (Int32 ⊕ String) × Mem → Option β) : (d_X11_line M).bind f = Option.bind (
      (d_X11_needEnding (120 : Int32) M).bind fun y1 => match y1 with
      | (.inl y1, N1) => (
        some (.inl (mI N1 18 15), N1))
      | (.inr E1, N1) => (
        some (.inr E1, N1))) f := id rfl
theorem tq_X11_told (M : Mem) : d_X11_told M = (
      some ((mI M 18 11), M)) := id rfl
theorem bq_X11_told {β : Type} (M : Mem) (f : Int32 × Mem → Option β) : (d_X11_told M).bind f = Option.bind (
      some ((mI M 18 11), M)) f := id rfl
theorem tq_X11_needTold_15 (M : Mem) : d_X11_needTold_15 M = (
      some (.inr "java/lang/IndexOutOfBoundsException", tk M 6)) := id rfl
theorem bq_X11_needTold_15 {β : Type} (M : Mem) (f : (Unit ⊕ String) × Mem → Option β) : (d_X11_needTold_15 M).bind f = Option.bind (
      some (.inr "java/lang/IndexOutOfBoundsException", tk M 6)) f := id rfl
theorem tq_X11_needTold (x1 : Int32) (M : Mem) : d_X11_needTold x1 M = (
      if x1 < 0 then (
        d_X11_needTold_15 M)
      else (
        if x1 < (mI M 18 11) then (
          some (.inl (), M))
        else (
          d_X11_needTold_15 M))) := id rfl
theorem bq_X11_needTold {β : Type} (x1 : Int32) (M : Mem) (f : (Unit ⊕ String) × Mem → Option β) : (d_X11_needTold x1 M).bind f = Option.bind (
      if x1 < 0 then (
        d_X11_needTold_15 M)
      else (
        if x1 < (mI M 18 11) then (
          some (.inl (), M))
        else (
          d_X11_needTold_15 M))) f := id rfl
theorem tq_X11_toldKind (x1 : Int32) (M : Mem) : d_X11_toldKind x1 M = (
      (d_X11_needTold x1 M).bind fun y1 => match y1 with
      | (.inl y1, N1) => (
        okk (vp_in ((528 : Int32) + x1) 549) <|
        okk (isCh (mI N1 20 ((528 : Int32) + x1).toNatClampNeg)) <|
        some (.inl (mI N1 20 ((528 : Int32) + x1).toNatClampNeg), N1))
      | (.inr E1, N1) => (
        some (.inr E1, N1))) := id rfl
theorem bq_X11_toldKind {β : Type} (x1 : Int32) (M : Mem) (f : (Int32 ⊕ String) × Mem → Option β) : (d_X11_toldKind x1 M).bind f = Option.bind (
      (d_X11_needTold x1 M).bind fun y1 => match y1 with
      | (.inl y1, N1) => (
        okk (vp_in ((528 : Int32) + x1) 549) <|
        okk (isCh (mI N1 20 ((528 : Int32) + x1).toNatClampNeg)) <|
        some (.inl (mI N1 20 ((528 : Int32) + x1).toNatClampNeg), N1))
      | (.inr E1, N1) => (
        some (.inr E1, N1))) f := id rfl
theorem tq_X11_toldAt (x1 : Int32) (M : Mem) : d_X11_toldAt x1 M = (
      (d_X11_needTold x1 M).bind fun y1 => match y1 with
      | (.inl y1, N1) => (
        (d_X8_bitsAt 18 ((528 : Int32) + x1) N1).bind fun y2 =>
        some (.inl y2.1, y2.2))
      | (.inr E1, N1) => (
        some (.inr E1, N1))) := id rfl
theorem bq_X11_toldAt {β : Type} (x1 : Int32) (M : Mem) (f : (Int64 ⊕ String) × Mem → Option β) : (d_X11_toldAt x1 M).bind f = Option.bind (
      (d_X11_needTold x1 M).bind fun y1 => match y1 with
      | (.inl y1, N1) => (
        (d_X8_bitsAt 18 ((528 : Int32) + x1) N1).bind fun y2 =>
        some (.inl y2.1, y2.2))
      | (.inr E1, N1) => (
        some (.inr E1, N1))) f := id rfl
theorem tq_X11_objects (M : Mem) : d_X11_objects M = (
      some ((mI M 18 10), M)) := id rfl
theorem bq_X11_objects {β : Type} (M : Mem) (f : Int32 × Mem → Option β) : (d_X11_objects M).bind f = Option.bind (
      some ((mI M 18 10), M)) f := id rfl
theorem tq_X11_needObject_15 (M : Mem) : d_X11_needObject_15 M = (
      some (.inr "java/lang/IndexOutOfBoundsException", tk M 6)) := id rfl
theorem bq_X11_needObject_15 {β : Type} (M : Mem) (f : (Unit ⊕ String) × Mem → Option β) : (d_X11_needObject_15 M).bind f = Option.bind (
      some (.inr "java/lang/IndexOutOfBoundsException", tk M 6)) f := id rfl
theorem tq_X11_needObject (x1 : Int32) (M : Mem) : d_X11_needObject x1 M = (
      if x1 < 0 then (
        d_X11_needObject_15 M)
      else (
        if x1 < (mI M 18 10) then (
          some (.inl (), M))
        else (
          d_X11_needObject_15 M))) := id rfl
theorem bq_X11_needObject {β : Type} (x1 : Int32) (M : Mem) (f : (Unit ⊕ String) × Mem → Option β) : (d_X11_needObject x1 M).bind f = Option.bind (
      if x1 < 0 then (
        d_X11_needObject_15 M)
      else (
        if x1 < (mI M 18 10) then (
          some (.inl (), M))
        else (
          d_X11_needObject_15 M))) f := id rfl
theorem tq_X11_shapeOf (x1 : Int32) (M : Mem) : d_X11_shapeOf x1 M = (
      (d_X11_needObject x1 M).bind fun y1 => match y1 with
      | (.inl y1, N1) => (
        okk (vp_in x1 60) <|
        some (.inl (mI N1 27 x1.toNatClampNeg), N1))
      | (.inr E1, N1) => (
        some (.inr E1, N1))) := id rfl
theorem bq_X11_shapeOf {β : Type} (x1 : Int32) (M : Mem) (f : (Int32 ⊕ String) × Mem → Option β) : (d_X11_shapeOf x1 M).bind f = Option.bind (
      (d_X11_needObject x1 M).bind fun y1 => match y1 with
      | (.inl y1, N1) => (
        okk (vp_in x1 60) <|
        some (.inl (mI N1 27 x1.toNatClampNeg), N1))
      | (.inr E1, N1) => (
        some (.inr E1, N1))) f := id rfl
theorem tq_X11_field_32 (M : Mem) : d_X11_field_32 M = (
      some (.inr "java/util/NoSuchElementException", tk M 6)) := id rfl
theorem bq_X11_field_32 {β : Type} (M : Mem) (f : (Int64 ⊕ String) × Mem → Option β) : (d_X11_field_32 M).bind f = Option.bind (
      some (.inr "java/util/NoSuchElementException", tk M 6)) f := id rfl
theorem tq_X11_field (x1 : Int32) (x2 : Int32) (M : Mem) : d_X11_field x1 x2 M = (
      (d_X11_needObject x1 M).bind fun y1 => match y1 with
      | (.inl y1, N1) => (
        (d_X11_isName x2 N1).bind fun y2 =>
        if y2.1 = 0 then (
          d_X11_field_32 y2.2)
        else (
          okk (vp_in x1 60) <|
          (d_X7_has (mI y2.2 27 x1.toNatClampNeg) x2 y2.2).bind fun y3 =>
          if y3.1 = 0 then (
            d_X11_field_32 y3.2)
          else (
            (d_X11_fieldPlace x1 x2 y3.2).bind fun y4 =>
            (d_X8_bitsAt 18 y4.1 y4.2).bind fun y5 =>
            some (.inl y5.1, y5.2))))
      | (.inr E1, N1) => (
        some (.inr E1, N1))) := id rfl
theorem bq_X11_field {β : Type} (x1 : Int32) (x2 : Int32) (M : Mem) (f : (Int64 ⊕ String) × Mem → Option β) : (d_X11_field x1 x2 M).bind f = Option.bind (
      (d_X11_needObject x1 M).bind fun y1 => match y1 with
      | (.inl y1, N1) => (
        (d_X11_isName x2 N1).bind fun y2 =>
        if y2.1 = 0 then (
          d_X11_field_32 y2.2)
        else (
          okk (vp_in x1 60) <|
          (d_X7_has (mI y2.2 27 x1.toNatClampNeg) x2 y2.2).bind fun y3 =>
          if y3.1 = 0 then (
            d_X11_field_32 y3.2)
          else (
            (d_X11_fieldPlace x1 x2 y3.2).bind fun y4 =>
            (d_X8_bitsAt 18 y4.1 y4.2).bind fun y5 =>
            some (.inl y5.1, y5.2))))
      | (.inr E1, N1) => (
        some (.inr E1, N1))) f := id rfl
theorem tq_X11_shapes (M : Mem) : d_X11_shapes M = (
      some ((mI M 11 6), M)) := id rfl
theorem bq_X11_shapes {β : Type} (M : Mem) (f : Int32 × Mem → Option β) : (d_X11_shapes M).bind f = Option.bind (
      some ((mI M 11 6), M)) f := id rfl
theorem tq_X11_needShape_15 (M : Mem) : d_X11_needShape_15 M = (
      some (.inr "java/lang/IndexOutOfBoundsException", tk M 6)) := id rfl
theorem bq_X11_needShape_15 {β : Type} (M : Mem) (f : (Unit ⊕ String) × Mem → Option β) : (d_X11_needShape_15 M).bind f = Option.bind (
      some (.inr "java/lang/IndexOutOfBoundsException", tk M 6)) f := id rfl
theorem tq_X11_needShape (x1 : Int32) (M : Mem) : d_X11_needShape x1 M = (
      if x1 < 0 then (
        d_X11_needShape_15 M)
      else (
        if x1 < (mI M 11 6) then (
          some (.inl (), M))
        else (
          d_X11_needShape_15 M))) := id rfl
theorem bq_X11_needShape {β : Type} (x1 : Int32) (M : Mem) (f : (Unit ⊕ String) × Mem → Option β) : (d_X11_needShape x1 M).bind f = Option.bind (
      if x1 < 0 then (
        d_X11_needShape_15 M)
      else (
        if x1 < (mI M 11 6) then (
          some (.inl (), M))
        else (
          d_X11_needShape_15 M))) f := id rfl
theorem tq_X11_fields (x1 : Int32) (M : Mem) : d_X11_fields x1 M = (
      (d_X11_needShape x1 M).bind fun y1 => match y1 with
      | (.inl y1, N1) => (
        okk (vp_in x1 60) <|
        some (.inl (mI N1 13 x1.toNatClampNeg), N1))
      | (.inr E1, N1) => (
        some (.inr E1, N1))) := id rfl
theorem bq_X11_fields {β : Type} (x1 : Int32) (M : Mem) (f : (Int32 ⊕ String) × Mem → Option β) : (d_X11_fields x1 M).bind f = Option.bind (
      (d_X11_needShape x1 M).bind fun y1 => match y1 with
      | (.inl y1, N1) => (
        okk (vp_in x1 60) <|
        some (.inl (mI N1 13 x1.toNatClampNeg), N1))
      | (.inr E1, N1) => (
        some (.inr E1, N1))) f := id rfl
theorem tq_X11_fieldAt_22 (M : Mem) : d_X11_fieldAt_22 M = (
      some (.inr "java/util/NoSuchElementException", tk M 6)) := id rfl
theorem bq_X11_fieldAt_22 {β : Type} (M : Mem) (f : (Int32 ⊕ String) × Mem → Option β) : (d_X11_fieldAt_22 M).bind f = Option.bind (
      some (.inr "java/util/NoSuchElementException", tk M 6)) f := id rfl
theorem tq_X11_fieldAt (x1 : Int32) (x2 : Int32) (M : Mem) : d_X11_fieldAt x1 x2 M = (
      (d_X11_needShape x1 M).bind fun y1 => match y1 with
      | (.inl y1, N1) => (
        if x2 < 0 then (
          d_X11_fieldAt_22 N1)
        else (
          okk (vp_in x1 60) <|
          if x2 < (mI N1 13 x1.toNatClampNeg) then (
            okk (vp_in ((x1 * (6 : Int32)) + x2) 360) <|
            some (.inl (mI N1 15 ((x1 * (6 : Int32)) + x2).toNatClampNeg), N1))
          else (
            d_X11_fieldAt_22 N1)))
      | (.inr E1, N1) => (
        some (.inr E1, N1))) := id rfl
theorem bq_X11_fieldAt {β : Type} (x1 : Int32) (x2 : Int32) (M : Mem) (f : (Int32 ⊕ String) × Mem → Option β) : (d_X11_fieldAt x1 x2 M).bind f = Option.bind (
      (d_X11_needShape x1 M).bind fun y1 => match y1 with
      | (.inl y1, N1) => (
        if x2 < 0 then (
          d_X11_fieldAt_22 N1)
        else (
          okk (vp_in x1 60) <|
          if x2 < (mI N1 13 x1.toNatClampNeg) then (
            okk (vp_in ((x1 * (6 : Int32)) + x2) 360) <|
            some (.inl (mI N1 15 ((x1 * (6 : Int32)) + x2).toNatClampNeg), N1))
          else (
            d_X11_fieldAt_22 N1)))
      | (.inr E1, N1) => (
        some (.inr E1, N1))) f := id rfl
theorem tq_X11_nextShape_30 (M : Mem) : d_X11_nextShape_30 M = (
      some (.inr "java/util/NoSuchElementException", tk M 6)) := id rfl
theorem bq_X11_nextShape_30 {β : Type} (M : Mem) (f : (Int32 ⊕ String) × Mem → Option β) : (d_X11_nextShape_30 M).bind f = Option.bind (
      some (.inr "java/util/NoSuchElementException", tk M 6)) f := id rfl
theorem tq_X11_nextShape (x1 : Int32) (x2 : Int32) (M : Mem) : d_X11_nextShape x1 x2 M = (
      (d_X11_needShape x1 M).bind fun y1 => match y1 with
      | (.inl y1, N1) => (
        (d_X11_isName x2 N1).bind fun y2 =>
        if y2.1 = 0 then (
          d_X11_nextShape_30 y2.2)
        else (
          okk (vp_in ((x1 * (6 : Int32)) + x2) 360) <|
          if (mI y2.2 16 ((x1 * (6 : Int32)) + x2).toNatClampNeg) = (-1 : Int32) then (
            d_X11_nextShape_30 y2.2)
          else (
            okk (vp_in ((x1 * (6 : Int32)) + x2) 360) <|
            some (.inl (mI y2.2 16 ((x1 * (6 : Int32)) + x2).toNatClampNeg), y2.2))))
      | (.inr E1, N1) => (
        some (.inr E1, N1))) := id rfl
theorem bq_X11_nextShape {β : Type} (x1 : Int32) (x2 : Int32) (M : Mem) (f : (Int32 ⊕ String) × Mem → Option β) : (d_X11_nextShape x1 x2 M).bind f = Option.bind (
      (d_X11_needShape x1 M).bind fun y1 => match y1 with
      | (.inl y1, N1) => (
        (d_X11_isName x2 N1).bind fun y2 =>
        if y2.1 = 0 then (
          d_X11_nextShape_30 y2.2)
        else (
          okk (vp_in ((x1 * (6 : Int32)) + x2) 360) <|
          if (mI y2.2 16 ((x1 * (6 : Int32)) + x2).toNatClampNeg) = (-1 : Int32) then (
            d_X11_nextShape_30 y2.2)
          else (
            okk (vp_in ((x1 * (6 : Int32)) + x2) 360) <|
            some (.inl (mI y2.2 16 ((x1 * (6 : Int32)) + x2).toNatClampNeg), y2.2))))
      | (.inr E1, N1) => (
        some (.inr E1, N1))) f := id rfl
theorem tq_X11_cacheSite_39 (M : Mem) : d_X11_cacheSite_39 M = (
      some (.inr "java/util/NoSuchElementException", tk M 6)) := id rfl
theorem bq_X11_cacheSite_39 {β : Type} (M : Mem) (f : (Int32 ⊕ String) × Mem → Option β) : (d_X11_cacheSite_39 M).bind f = Option.bind (
      some (.inr "java/util/NoSuchElementException", tk M 6)) f := id rfl
theorem tq_X11_cacheSite (x1 : Int32) (x2 : Int32) (M : Mem) : d_X11_cacheSite x1 x2 M = (
      (d_X11_needFunction x1 M).bind fun y1 => match y1 with
      | (.inl y1, N1) => (
        (d_X5_hasCode x1 x2 N1).bind fun y2 =>
        if y2.1 = 0 then (
          d_X11_cacheSite_39 y2.2)
        else (
          (d_X11_siteOf x1 x2 y2.2).bind fun y3 =>
          okk (vp_in y3.1 320) <|
          if 0 ≤ (xIdx 6 (mI y3.2 6 y3.1.toNatClampNeg)) then (
            (d_X11_siteOf x1 x2 y3.2).bind fun y4 =>
            some (.inl y4.1, y4.2))
          else (
            d_X11_cacheSite_39 y3.2)))
      | (.inr E1, N1) => (
        some (.inr E1, N1))) := id rfl
theorem bq_X11_cacheSite {β : Type} (x1 : Int32) (x2 : Int32) (M : Mem) (f : (Int32 ⊕ String) × Mem → Option β) : (d_X11_cacheSite x1 x2 M).bind f = Option.bind (
      (d_X11_needFunction x1 M).bind fun y1 => match y1 with
      | (.inl y1, N1) => (
        (d_X5_hasCode x1 x2 N1).bind fun y2 =>
        if y2.1 = 0 then (
          d_X11_cacheSite_39 y2.2)
        else (
          (d_X11_siteOf x1 x2 y2.2).bind fun y3 =>
          okk (vp_in y3.1 320) <|
          if 0 ≤ (xIdx 6 (mI y3.2 6 y3.1.toNatClampNeg)) then (
            (d_X11_siteOf x1 x2 y3.2).bind fun y4 =>
            some (.inl y4.1, y4.2))
          else (
            d_X11_cacheSite_39 y3.2)))
      | (.inr E1, N1) => (
        some (.inr E1, N1))) f := id rfl
theorem tq_X11_cacheState (x1 : Int32) (x2 : Int32) (M : Mem) : d_X11_cacheState x1 x2 M = (
      (d_X11_cacheSite x1 x2 M).bind fun y1 => match y1 with
      | (.inl y1, N1) => (
        (d_X0_stateAt y1 N1).bind fun y2 =>
        okk (isCh y2.1) <|
        some (.inl y2.1, y2.2))
      | (.inr E1, N1) => (
        some (.inr E1, N1))) := id rfl
theorem bq_X11_cacheState {β : Type} (x1 : Int32) (x2 : Int32) (M : Mem) (f : (Int32 ⊕ String) × Mem → Option β) : (d_X11_cacheState x1 x2 M).bind f = Option.bind (
      (d_X11_cacheSite x1 x2 M).bind fun y1 => match y1 with
      | (.inl y1, N1) => (
        (d_X0_stateAt y1 N1).bind fun y2 =>
        okk (isCh y2.1) <|
        some (.inl y2.1, y2.2))
      | (.inr E1, N1) => (
        some (.inr E1, N1))) f := id rfl
theorem tq_X11_hits (x1 : Int32) (x2 : Int32) (M : Mem) : d_X11_hits x1 x2 M = (
      (d_X11_cacheSite x1 x2 M).bind fun y1 => match y1 with
      | (.inl y1, N1) => (
        okk (vp_in y1 320) <|
        some (.inl (mI N1 42 y1.toNatClampNeg), N1))
      | (.inr E1, N1) => (
        some (.inr E1, N1))) := id rfl
theorem bq_X11_hits {β : Type} (x1 : Int32) (x2 : Int32) (M : Mem) (f : (Int32 ⊕ String) × Mem → Option β) : (d_X11_hits x1 x2 M).bind f = Option.bind (
      (d_X11_cacheSite x1 x2 M).bind fun y1 => match y1 with
      | (.inl y1, N1) => (
        okk (vp_in y1 320) <|
        some (.inl (mI N1 42 y1.toNatClampNeg), N1))
      | (.inr E1, N1) => (
        some (.inr E1, N1))) f := id rfl
theorem tq_X11_misses (x1 : Int32) (x2 : Int32) (M : Mem) : d_X11_misses x1 x2 M = (
      (d_X11_cacheSite x1 x2 M).bind fun y1 => match y1 with
      | (.inl y1, N1) => (
        okk (vp_in y1 320) <|
        some (.inl (mI N1 43 y1.toNatClampNeg), N1))
      | (.inr E1, N1) => (
        some (.inr E1, N1))) := id rfl
theorem bq_X11_misses {β : Type} (x1 : Int32) (x2 : Int32) (M : Mem) (f : (Int32 ⊕ String) × Mem → Option β) : (d_X11_misses x1 x2 M).bind f = Option.bind (
      (d_X11_cacheSite x1 x2 M).bind fun y1 => match y1 with
      | (.inl y1, N1) => (
        okk (vp_in y1 320) <|
        some (.inl (mI N1 43 y1.toNatClampNeg), N1))
      | (.inr E1, N1) => (
        some (.inr E1, N1))) f := id rfl
theorem tq_X11_counter (x1 : Int32) (x2 : Int32) (M : Mem) : d_X11_counter x1 x2 M = (
      (d_X11_needFunction x1 M).bind fun y1 => match y1 with
      | (.inl y1, N1) => (
        (d_X11_needIndex x2 N1).bind fun y2 => match y2 with
        | (.inl y2, N2) => (
          (d_X11_siteOf x1 x2 N2).bind fun y3 =>
          okk (vp_in y3.1 320) <|
          some (.inl (mI y3.2 45 y3.1.toNatClampNeg), y3.2))
        | (.inr E2, N2) => (
          some (.inr E2, N2)))
      | (.inr E1, N1) => (
        some (.inr E1, N1))) := id rfl
theorem bq_X11_counter {β : Type} (x1 : Int32) (x2 : Int32) (M : Mem) (f : (Int32 ⊕ String) × Mem → Option β) : (d_X11_counter x1 x2 M).bind f = Option.bind (
      (d_X11_needFunction x1 M).bind fun y1 => match y1 with
      | (.inl y1, N1) => (
        (d_X11_needIndex x2 N1).bind fun y2 => match y2 with
        | (.inl y2, N2) => (
          (d_X11_siteOf x1 x2 N2).bind fun y3 =>
          okk (vp_in y3.1 320) <|
          some (.inl (mI y3.2 45 y3.1.toNatClampNeg), y3.2))
        | (.inr E2, N2) => (
          some (.inr E2, N2)))
      | (.inr E1, N1) => (
        some (.inr E1, N1))) f := id rfl
theorem tq_X11_isBarred (x1 : Int32) (x2 : Int32) (M : Mem) : d_X11_isBarred x1 x2 M = (
      (d_X11_needFunction x1 M).bind fun y1 => match y1 with
      | (.inl y1, N1) => (
        (d_X11_needIndex x2 N1).bind fun y2 => match y2 with
        | (.inl y2, N2) => (
          (d_X11_siteOf x1 x2 N2).bind fun y3 =>
          (d_X2_bars y3.1 y3.2).bind fun y4 =>
          okk (isBo y4.1) <|
          some (.inl y4.1, y4.2))
        | (.inr E2, N2) => (
          some (.inr E2, N2)))
      | (.inr E1, N1) => (
        some (.inr E1, N1))) := id rfl
theorem bq_X11_isBarred {β : Type} (x1 : Int32) (x2 : Int32) (M : Mem) (f : (Int32 ⊕ String) × Mem → Option β) : (d_X11_isBarred x1 x2 M).bind f = Option.bind (
      (d_X11_needFunction x1 M).bind fun y1 => match y1 with
      | (.inl y1, N1) => (
        (d_X11_needIndex x2 N1).bind fun y2 => match y2 with
        | (.inl y2, N2) => (
          (d_X11_siteOf x1 x2 N2).bind fun y3 =>
          (d_X2_bars y3.1 y3.2).bind fun y4 =>
          okk (isBo y4.1) <|
          some (.inl y4.1, y4.2))
        | (.inr E2, N2) => (
          some (.inr E2, N2)))
      | (.inr E1, N1) => (
        some (.inr E1, N1))) f := id rfl
theorem tq_X11_traces (M : Mem) : d_X11_traces M = (
      some ((mI M 67 3), M)) := id rfl
theorem bq_X11_traces {β : Type} (M : Mem) (f : Int32 × Mem → Option β) : (d_X11_traces M).bind f = Option.bind (
      some ((mI M 67 3), M)) f := id rfl
theorem tq_X11_traceAt_18 (M : Mem) : d_X11_traceAt_18 M = (
      some (.inr "java/lang/IndexOutOfBoundsException", tk M 6)) := id rfl
theorem bq_X11_traceAt_18 {β : Type} (M : Mem) (f : (Nat ⊕ String) × Mem → Option β) : (d_X11_traceAt_18 M).bind f = Option.bind (
      some (.inr "java/lang/IndexOutOfBoundsException", tk M 6)) f := id rfl
theorem tq_X11_traceAt (x1 : Int32) (M : Mem) : d_X11_traceAt x1 M = (
      if x1 < 0 then (
        d_X11_traceAt_18 M)
      else (
        if x1 < (mI M 67 3) then (
          okk (vp_in x1 20) <|
          (mR M 68 x1.toNatClampNeg).bind fun r_1 =>
          some (.inl r_1, M))
        else (
          d_X11_traceAt_18 M))) := id rfl
theorem bq_X11_traceAt {β : Type} (x1 : Int32) (M : Mem) (f : (Nat ⊕ String) × Mem → Option β) : (d_X11_traceAt x1 M).bind f = Option.bind (
      if x1 < 0 then (
        d_X11_traceAt_18 M)
      else (
        if x1 < (mI M 67 3) then (
          okk (vp_in x1 20) <|
          (mR M 68 x1.toNatClampNeg).bind fun r_1 =>
          some (.inl r_1, M))
        else (
          d_X11_traceAt_18 M))) f := id rfl
theorem tq_X11_isThere (x1 : Int32) (M : Mem) : d_X11_isThere x1 M = (
      (d_X11_traceAt x1 M).bind fun y1 => match y1 with
      | (.inl y1, N1) => (
        okk (mK N1 y1 = 9) <|
        okk (isBo (mI N1 y1 14)) <|
        some (.inl (mI N1 y1 14), N1))
      | (.inr E1, N1) => (
        some (.inr E1, N1))) := id rfl
theorem bq_X11_isThere {β : Type} (x1 : Int32) (M : Mem) (f : (Int32 ⊕ String) × Mem → Option β) : (d_X11_isThere x1 M).bind f = Option.bind (
      (d_X11_traceAt x1 M).bind fun y1 => match y1 with
      | (.inl y1, N1) => (
        okk (mK N1 y1 = 9) <|
        okk (isBo (mI N1 y1 14)) <|
        some (.inl (mI N1 y1 14), N1))
      | (.inr E1, N1) => (
        some (.inr E1, N1))) f := id rfl
theorem tq_X11_steps (x1 : Int32) (M : Mem) : d_X11_steps x1 M = (
      (d_X11_traceAt x1 M).bind fun y1 => match y1 with
      | (.inl y1, N1) => (
        okk (mK N1 y1 = 9) <|
        some (.inl (mI N1 y1 0), N1))
      | (.inr E1, N1) => (
        some (.inr E1, N1))) := id rfl
theorem bq_X11_steps {β : Type} (x1 : Int32) (M : Mem) (f : (Int32 ⊕ String) × Mem → Option β) : (d_X11_steps x1 M).bind f = Option.bind (
      (d_X11_traceAt x1 M).bind fun y1 => match y1 with
      | (.inl y1, N1) => (
        okk (mK N1 y1 = 9) <|
        some (.inl (mI N1 y1 0), N1))
      | (.inr E1, N1) => (
        some (.inr E1, N1))) f := id rfl
theorem tq_X11_lineAt_18 (M : Mem) : d_X11_lineAt_18 M = (
      some (.inr "java/util/NoSuchElementException", tk M 6)) := id rfl
theorem bq_X11_lineAt_18 {β : Type} (M : Mem) (f : (Int32 ⊕ String) × Mem → Option β) : (d_X11_lineAt_18 M).bind f = Option.bind (
      some (.inr "java/util/NoSuchElementException", tk M 6)) f := id rfl
theorem tq_X11_lineAt (x1 : Int32) (x2 : Int32) (M : Mem) : d_X11_lineAt x1 x2 M = (
      (d_X11_traceAt x1 M).bind fun y1 => match y1 with
      | (.inl y1, N1) => (
        if x2 < 0 then (
          d_X11_lineAt_18 N1)
        else (
          okk (mK N1 y1 = 9) <|
          if x2 < (mI N1 y1 0) then (
            okk (mK N1 y1 = 9) <|
            (mR N1 y1 2).bind fun r_1 =>
            okk (mK N1 r_1 = 21) <|
            okk (vp_in x2 (mN N1 r_1)) <|
            some (.inl (mI N1 r_1 x2.toNatClampNeg), N1))
          else (
            d_X11_lineAt_18 N1)))
      | (.inr E1, N1) => (
        some (.inr E1, N1))) := id rfl
theorem bq_X11_lineAt {β : Type} (x1 : Int32) (x2 : Int32) (M : Mem) (f : (Int32 ⊕ String) × Mem → Option β) : (d_X11_lineAt x1 x2 M).bind f = Option.bind (
      (d_X11_traceAt x1 M).bind fun y1 => match y1 with
      | (.inl y1, N1) => (
        if x2 < 0 then (
          d_X11_lineAt_18 N1)
        else (
          okk (mK N1 y1 = 9) <|
          if x2 < (mI N1 y1 0) then (
            okk (mK N1 y1 = 9) <|
            (mR N1 y1 2).bind fun r_1 =>
            okk (mK N1 r_1 = 21) <|
            okk (vp_in x2 (mN N1 r_1)) <|
            some (.inl (mI N1 r_1 x2.toNatClampNeg), N1))
          else (
            d_X11_lineAt_18 N1)))
      | (.inr E1, N1) => (
        some (.inr E1, N1))) f := id rfl
theorem tq_X11_guards (x1 : Int32) (M : Mem) : d_X11_guards x1 M = (
      (d_X11_traceAt x1 M).bind fun y1 => match y1 with
      | (.inl y1, N1) => (
        okk (mK N1 y1 = 9) <|
        some (.inl (mI N1 y1 1), N1))
      | (.inr E1, N1) => (
        some (.inr E1, N1))) := id rfl
theorem bq_X11_guards {β : Type} (x1 : Int32) (M : Mem) (f : (Int32 ⊕ String) × Mem → Option β) : (d_X11_guards x1 M).bind f = Option.bind (
      (d_X11_traceAt x1 M).bind fun y1 => match y1 with
      | (.inl y1, N1) => (
        okk (mK N1 y1 = 9) <|
        some (.inl (mI N1 y1 1), N1))
      | (.inr E1, N1) => (
        some (.inr E1, N1))) f := id rfl
theorem tq_X11_traceWithGuard_18 (M : Mem) : d_X11_traceWithGuard_18 M = (
      some (.inr "java/lang/IndexOutOfBoundsException", tk M 6)) := id rfl
theorem bq_X11_traceWithGuard_18 {β : Type} (M : Mem) (f : (Nat ⊕ String) × Mem → Option β) : (d_X11_traceWithGuard_18 M).bind f = Option.bind (
      some (.inr "java/lang/IndexOutOfBoundsException", tk M 6)) f := id rfl
theorem tq_X11_traceWithGuard (x1 : Int32) (x2 : Int32) (M : Mem) : d_X11_traceWithGuard x1 x2 M = (
      (d_X11_traceAt x1 M).bind fun y1 => match y1 with
      | (.inl y1, N1) => (
        if x2 < 0 then (
          d_X11_traceWithGuard_18 N1)
        else (
          okk (mK N1 y1 = 9) <|
          if x2 < (mI N1 y1 1) then (
            some (.inl y1, N1))
          else (
            d_X11_traceWithGuard_18 N1)))
      | (.inr E1, N1) => (
        some (.inr E1, N1))) := id rfl
theorem bq_X11_traceWithGuard {β : Type} (x1 : Int32) (x2 : Int32) (M : Mem) (f : (Nat ⊕ String) × Mem → Option β) : (d_X11_traceWithGuard x1 x2 M).bind f = Option.bind (
      (d_X11_traceAt x1 M).bind fun y1 => match y1 with
      | (.inl y1, N1) => (
        if x2 < 0 then (
          d_X11_traceWithGuard_18 N1)
        else (
          okk (mK N1 y1 = 9) <|
          if x2 < (mI N1 y1 1) then (
            some (.inl y1, N1))
          else (
            d_X11_traceWithGuard_18 N1)))
      | (.inr E1, N1) => (
        some (.inr E1, N1))) f := id rfl
theorem tq_X11_guardAt (x1 : Int32) (x2 : Int32) (M : Mem) : d_X11_guardAt x1 x2 M = (
      (d_X11_traceWithGuard x1 x2 M).bind fun y1 => match y1 with
      | (.inl y1, N1) => (
        okk (mK N1 y1 = 9) <|
        (mR N1 y1 4).bind fun r_1 =>
        okk (mK N1 r_1 = 21) <|
        okk (vp_in x2 (mN N1 r_1)) <|
        okk (isCh (((mI N1 r_1 x2.toNatClampNeg).toUInt32 % 65536).toInt32)) <|
        some (.inl (((mI N1 r_1 x2.toNatClampNeg).toUInt32 % 65536).toInt32), N1))
      | (.inr E1, N1) => (
        some (.inr E1, N1))) := id rfl
theorem bq_X11_guardAt {β : Type} (x1 : Int32) (x2 : Int32) (M : Mem) (f : (Int32 ⊕ String) × Mem → Option β) : (d_X11_guardAt x1 x2 M).bind f = Option.bind (
      (d_X11_traceWithGuard x1 x2 M).bind fun y1 => match y1 with
      | (.inl y1, N1) => (
        okk (mK N1 y1 = 9) <|
        (mR N1 y1 4).bind fun r_1 =>
        okk (mK N1 r_1 = 21) <|
        okk (vp_in x2 (mN N1 r_1)) <|
        okk (isCh (((mI N1 r_1 x2.toNatClampNeg).toUInt32 % 65536).toInt32)) <|
        some (.inl (((mI N1 r_1 x2.toNatClampNeg).toUInt32 % 65536).toInt32), N1))
      | (.inr E1, N1) => (
        some (.inr E1, N1))) f := id rfl
theorem tq_X11_guardStep (x1 : Int32) (x2 : Int32) (M : Mem) : d_X11_guardStep x1 x2 M = (
      (d_X11_traceWithGuard x1 x2 M).bind fun y1 => match y1 with
      | (.inl y1, N1) => (
        okk (mK N1 y1 = 9) <|
        (mR N1 y1 5).bind fun r_1 =>
        okk (mK N1 r_1 = 21) <|
        okk (vp_in x2 (mN N1 r_1)) <|
        some (.inl (mI N1 r_1 x2.toNatClampNeg), N1))
      | (.inr E1, N1) => (
        some (.inr E1, N1))) := id rfl
theorem bq_X11_guardStep {β : Type} (x1 : Int32) (x2 : Int32) (M : Mem) (f : (Int32 ⊕ String) × Mem → Option β) : (d_X11_guardStep x1 x2 M).bind f = Option.bind (
      (d_X11_traceWithGuard x1 x2 M).bind fun y1 => match y1 with
      | (.inl y1, N1) => (
        okk (mK N1 y1 = 9) <|
        (mR N1 y1 5).bind fun r_1 =>
        okk (mK N1 r_1 = 21) <|
        okk (vp_in x2 (mN N1 r_1)) <|
        some (.inl (mI N1 r_1 x2.toNatClampNeg), N1))
      | (.inr E1, N1) => (
        some (.inr E1, N1))) f := id rfl
theorem tq_X11_exits (x1 : Int32) (x2 : Int32) (M : Mem) : d_X11_exits x1 x2 M = (
      (d_X11_traceWithGuard x1 x2 M).bind fun y1 => match y1 with
      | (.inl y1, N1) => (
        okk (mK N1 y1 = 9) <|
        (mR N1 y1 8).bind fun r_1 =>
        okk (mK N1 r_1 = 21) <|
        okk (vp_in x2 (mN N1 r_1)) <|
        some (.inl (mI N1 r_1 x2.toNatClampNeg), N1))
      | (.inr E1, N1) => (
        some (.inr E1, N1))) := id rfl
theorem bq_X11_exits {β : Type} (x1 : Int32) (x2 : Int32) (M : Mem) (f : (Int32 ⊕ String) × Mem → Option β) : (d_X11_exits x1 x2 M).bind f = Option.bind (
      (d_X11_traceWithGuard x1 x2 M).bind fun y1 => match y1 with
      | (.inl y1, N1) => (
        okk (mK N1 y1 = 9) <|
        (mR N1 y1 8).bind fun r_1 =>
        okk (mK N1 r_1 = 21) <|
        okk (vp_in x2 (mN N1 r_1)) <|
        some (.inl (mI N1 r_1 x2.toNatClampNeg), N1))
      | (.inr E1, N1) => (
        some (.inr E1, N1))) f := id rfl
theorem tq_X11_sideOf (x1 : Int32) (x2 : Int32) (M : Mem) : d_X11_sideOf x1 x2 M = (
      (d_X11_traceWithGuard x1 x2 M).bind fun y1 => match y1 with
      | (.inl y1, N1) => (
        okk (mK N1 y1 = 9) <|
        (mR N1 y1 11).bind fun r_1 =>
        okk (mK N1 r_1 = 21) <|
        okk (vp_in x2 (mN N1 r_1)) <|
        bnd ((mI N1 r_1 x2.toNatClampNeg)) fun b1 =>
        if b1 = (-1 : Int32) then (
          some (.inr "java/util/NoSuchElementException", tk N1 6))
        else (
          some (.inl b1, N1)))
      | (.inr E1, N1) => (
        some (.inr E1, N1))) := id rfl
theorem bq_X11_sideOf {β : Type} (x1 : Int32) (x2 : Int32) (M : Mem) (f : (Int32 ⊕ String) × Mem → Option β) : (d_X11_sideOf x1 x2 M).bind f = Option.bind (
      (d_X11_traceWithGuard x1 x2 M).bind fun y1 => match y1 with
      | (.inl y1, N1) => (
        okk (mK N1 y1 = 9) <|
        (mR N1 y1 11).bind fun r_1 =>
        okk (mK N1 r_1 = 21) <|
        okk (vp_in x2 (mN N1 r_1)) <|
        bnd ((mI N1 r_1 x2.toNatClampNeg)) fun b1 =>
        if b1 = (-1 : Int32) then (
          some (.inr "java/util/NoSuchElementException", tk N1 6))
        else (
          some (.inl b1, N1)))
      | (.inr E1, N1) => (
        some (.inr E1, N1))) f := id rfl
theorem tq_X11_rootOf (x1 : Int32) (M : Mem) : d_X11_rootOf x1 M = (
      (d_X11_traceAt x1 M).bind fun y1 => match y1 with
      | (.inl y1, N1) => (
        okk (mK N1 y1 = 9) <|
        some (.inl (mI N1 y1 12), N1))
      | (.inr E1, N1) => (
        some (.inr E1, N1))) := id rfl
theorem bq_X11_rootOf {β : Type} (x1 : Int32) (M : Mem) (f : (Int32 ⊕ String) × Mem → Option β) : (d_X11_rootOf x1 M).bind f = Option.bind (
      (d_X11_traceAt x1 M).bind fun y1 => match y1 with
      | (.inl y1, N1) => (
        okk (mK N1 y1 = 9) <|
        some (.inl (mI N1 y1 12), N1))
      | (.inr E1, N1) => (
        some (.inr E1, N1))) f := id rfl
theorem tq_X11_begun (x1 : Int32) (M : Mem) : d_X11_begun x1 M = (
      (d_X11_traceAt x1 M).bind fun y1 => match y1 with
      | (.inl y1, N1) => (
        okk (mK N1 y1 = 9) <|
        some (.inl (mI N1 y1 15), N1))
      | (.inr E1, N1) => (
        some (.inr E1, N1))) := id rfl
theorem bq_X11_begun {β : Type} (x1 : Int32) (M : Mem) (f : (Int32 ⊕ String) × Mem → Option β) : (d_X11_begun x1 M).bind f = Option.bind (
      (d_X11_traceAt x1 M).bind fun y1 => match y1 with
      | (.inl y1, N1) => (
        okk (mK N1 y1 = 9) <|
        some (.inl (mI N1 y1 15), N1))
      | (.inr E1, N1) => (
        some (.inr E1, N1))) f := id rfl
theorem tq_X11_inTraces (M : Mem) : d_X11_inTraces M = (
      some ((mI M 38 7), M)) := id rfl
theorem bq_X11_inTraces {β : Type} (M : Mem) (f : Int32 × Mem → Option β) : (d_X11_inTraces M).bind f = Option.bind (
      some ((mI M 38 7), M)) f := id rfl
theorem tq_X11_codeSize (M : Mem) : d_X11_codeSize M = (
      (d_X1_size M).bind fun y1 =>
      some (y1.1, y1.2)) := id rfl
theorem bq_X11_codeSize {β : Type} (M : Mem) (f : Int32 × Mem → Option β) : (d_X11_codeSize M).bind f = Option.bind (
      (d_X1_size M).bind fun y1 =>
      some (y1.1, y1.2)) f := id rfl
theorem tq_X11_agrees (M : Mem) : d_X11_agrees M = (
      okk (isBo (mI M 1 5)) <|
      some ((mI M 1 5), M)) := id rfl
theorem bq_X11_agrees {β : Type} (M : Mem) (f : Int32 × Mem → Option β) : (d_X11_agrees M).bind f = Option.bind (
      okk (isBo (mI M 1 5)) <|
      some ((mI M 1 5), M)) f := id rfl
theorem tq_X11_tracedShare (M : Mem) : d_X11_tracedShare M = (
      if (mI M 18 12) = 0 then (
        some (.inr "java/lang/ArithmeticException", tk M 6))
      else (
        okk (vf_n32 (FP.fdiv (FP.i2f (mI M 38 7)) (FP.i2f (mI M 18 12)))) <|
        some (.inl (FP.fdiv (FP.i2f (mI M 38 7)) (FP.i2f (mI M 18 12))), M))) := id rfl
theorem bq_X11_tracedShare {β : Type} (M : Mem) (f : (UInt32 ⊕ String) × Mem → Option β) : (d_X11_tracedShare M).bind f = Option.bind (
      if (mI M 18 12) = 0 then (
        some (.inr "java/lang/ArithmeticException", tk M 6))
      else (
        okk (vf_n32 (FP.fdiv (FP.i2f (mI M 38 7)) (FP.i2f (mI M 18 12)))) <|
        some (.inl (FP.fdiv (FP.i2f (mI M 38 7)) (FP.i2f (mI M 18 12))), M))) f := id rfl
theorem tq_X11_meanGuards (M : Mem) : d_X11_meanGuards M = (
      (d_X1_countThere M).bind fun y1 =>
      if y1.1 = 0 then (
        some (.inr "java/lang/ArithmeticException", tk y1.2 6))
      else (
        (d_X1_guardsThere y1.2).bind fun y2 =>
        some (.inl (FP.ddiv (FP.i2d y2.1) (FP.i2d y1.1)), y2.2))) := id rfl
theorem bq_X11_meanGuards {β : Type} (M : Mem) (f : (UInt64 ⊕ String) × Mem → Option β) : (d_X11_meanGuards M).bind f = Option.bind (
      (d_X1_countThere M).bind fun y1 =>
      if y1.1 = 0 then (
        some (.inr "java/lang/ArithmeticException", tk y1.2 6))
      else (
        (d_X1_guardsThere y1.2).bind fun y2 =>
        some (.inl (FP.ddiv (FP.i2d y2.1) (FP.i2d y1.1)), y2.2))) f := id rfl
theorem tq_X11_isSound (M : Mem) : d_X11_isSound M = (
      if (mI M 1 5) = 0 then (
        some ((0 : Int32), M))
      else (
        (d_X1_size M).bind fun y1 =>
        if (mI y1.2 67 4) < y1.1 then (
          some ((0 : Int32), y1.2))
        else (
          (d_X1_hasRoots y1.2).bind fun y2 =>
          if y2.1 = 0 then (
            some ((0 : Int32), y2.2))
          else (
            (d_X0_areSmall y2.2).bind fun y3 =>
            if y3.1 = 0 then (
              some ((0 : Int32), y3.2))
            else (
              some ((1 : Int32), y3.2)))))) := id rfl
theorem bq_X11_isSound {β : Type} (M : Mem) (f : Int32 × Mem → Option β) : (d_X11_isSound M).bind f = Option.bind (
      if (mI M 1 5) = 0 then (
        some ((0 : Int32), M))
      else (
        (d_X1_size M).bind fun y1 =>
        if (mI y1.2 67 4) < y1.1 then (
          some ((0 : Int32), y1.2))
        else (
          (d_X1_hasRoots y1.2).bind fun y2 =>
          if y2.1 = 0 then (
            some ((0 : Int32), y2.2))
          else (
            (d_X0_areSmall y2.2).bind fun y3 =>
            if y3.1 = 0 then (
              some ((0 : Int32), y3.2))
            else (
              some ((1 : Int32), y3.2)))))) f := id rfl
theorem tq_L_addFunction (x1 : Int32) (M : Mem) : d_L_addFunction x1 M = (
      (d_X11_addFunction x1 M).bind fun y1 => match y1 with
      | (.inl y1, N1) => (
        bnd (sL N1 127 0 (y1.toInt64)) fun M1 =>
        some ((0 : Int32), M1))
      | (.inr E1, N1) => (
        if E1 = "java/lang/IllegalArgumentException" then (
          some ((1 : Int32), N1))
        else if E1 = "java/lang/IllegalStateException" then (
          some ((2 : Int32), N1))
        else none)) := id rfl
theorem bq_L_addFunction {β : Type} (x1 : Int32) (M : Mem) (f : Int32 × Mem → Option β) : (d_L_addFunction x1 M).bind f = Option.bind (
      (d_X11_addFunction x1 M).bind fun y1 => match y1 with
      | (.inl y1, N1) => (
        bnd (sL N1 127 0 (y1.toInt64)) fun M1 =>
        some ((0 : Int32), M1))
      | (.inr E1, N1) => (
        if E1 = "java/lang/IllegalArgumentException" then (
          some ((1 : Int32), N1))
        else if E1 = "java/lang/IllegalStateException" then (
          some ((2 : Int32), N1))
        else none)) f := id rfl
theorem tq_L_code (x1 : Int32) (x2 : Int32) (x3 : Int32) (M : Mem) : d_L_code x1 x2 x3 M = (
      (d_X11_code x1 x2 x3 M).bind fun y1 => match y1 with
      | (.inl y1, N1) => (
        bnd (sL N1 127 0 (y1.toInt64)) fun M1 =>
        some ((0 : Int32), M1))
      | (.inr E1, N1) => (
        if E1 = "java/lang/IndexOutOfBoundsException" then (
          some ((1 : Int32), N1))
        else if E1 = "java/lang/IllegalArgumentException" then (
          some ((2 : Int32), N1))
        else if E1 = "java/lang/IllegalStateException" then (
          some ((3 : Int32), N1))
        else none)) := id rfl
theorem bq_L_code {β : Type} (x1 : Int32) (x2 : Int32) (x3 : Int32) (M : Mem) (f : Int32 × Mem → Option β) : (d_L_code x1 x2 x3 M).bind f = Option.bind (
      (d_X11_code x1 x2 x3 M).bind fun y1 => match y1 with
      | (.inl y1, N1) => (
        bnd (sL N1 127 0 (y1.toInt64)) fun M1 =>
        some ((0 : Int32), M1))
      | (.inr E1, N1) => (
        if E1 = "java/lang/IndexOutOfBoundsException" then (
          some ((1 : Int32), N1))
        else if E1 = "java/lang/IllegalArgumentException" then (
          some ((2 : Int32), N1))
        else if E1 = "java/lang/IllegalStateException" then (
          some ((3 : Int32), N1))
        else none)) f := id rfl
theorem tq_L_setHandler (x1 : Int32) (x2 : Int32) (M : Mem) : d_L_setHandler x1 x2 M = (
      (d_X11_setHandler x1 x2 M).bind fun y1 => match y1 with
      | (.inl y1, N1) => (
        bnd (sL N1 127 0 (y1.toInt64)) fun M1 =>
        some ((0 : Int32), M1))
      | (.inr E1, N1) => (
        if E1 = "java/lang/IndexOutOfBoundsException" then (
          some ((1 : Int32), N1))
        else if E1 = "java/lang/IllegalArgumentException" then (
          some ((2 : Int32), N1))
        else none)) := id rfl
theorem bq_L_setHandler {β : Type} (x1 : Int32) (x2 : Int32) (M : Mem) (f : Int32 × Mem → Option β) : (d_L_setHandler x1 x2 M).bind f = Option.bind (
      (d_X11_setHandler x1 x2 M).bind fun y1 => match y1 with
      | (.inl y1, N1) => (
        bnd (sL N1 127 0 (y1.toInt64)) fun M1 =>
        some ((0 : Int32), M1))
      | (.inr E1, N1) => (
        if E1 = "java/lang/IndexOutOfBoundsException" then (
          some ((1 : Int32), N1))
        else if E1 = "java/lang/IllegalArgumentException" then (
          some ((2 : Int32), N1))
        else none)) f := id rfl
theorem tq_L_addClass (x1 : Int32) (M : Mem) : d_L_addClass x1 M = (
      (d_X11_addClass x1 M).bind fun y1 => match y1 with
      | (.inl y1, N1) => (
        bnd (sL N1 127 0 (y1.toInt64)) fun M1 =>
        some ((0 : Int32), M1))
      | (.inr E1, N1) => (
        if E1 = "java/lang/IndexOutOfBoundsException" then (
          some ((1 : Int32), N1))
        else if E1 = "java/lang/IllegalStateException" then (
          some ((2 : Int32), N1))
        else if E1 = "java/lang/UnsupportedOperationException" then (
          some ((3 : Int32), N1))
        else none)) := id rfl
theorem bq_L_addClass {β : Type} (x1 : Int32) (M : Mem) (f : Int32 × Mem → Option β) : (d_L_addClass x1 M).bind f = Option.bind (
      (d_X11_addClass x1 M).bind fun y1 => match y1 with
      | (.inl y1, N1) => (
        bnd (sL N1 127 0 (y1.toInt64)) fun M1 =>
        some ((0 : Int32), M1))
      | (.inr E1, N1) => (
        if E1 = "java/lang/IndexOutOfBoundsException" then (
          some ((1 : Int32), N1))
        else if E1 = "java/lang/IllegalStateException" then (
          some ((2 : Int32), N1))
        else if E1 = "java/lang/UnsupportedOperationException" then (
          some ((3 : Int32), N1))
        else none)) f := id rfl
theorem tq_L_setMethod (x1 : Int32) (x2 : Int32) (x3 : Int32) (M : Mem) : d_L_setMethod x1 x2 x3 M = (
      (d_X11_setMethod x1 x2 x3 M).bind fun y1 => match y1 with
      | (.inl y1, N1) => (
        bnd (sL N1 127 0 (y1.toInt64)) fun M1 =>
        some ((0 : Int32), M1))
      | (.inr E1, N1) => (
        if E1 = "java/lang/IndexOutOfBoundsException" then (
          some ((1 : Int32), N1))
        else if E1 = "java/lang/IllegalArgumentException" then (
          some ((2 : Int32), N1))
        else if E1 = "java/util/NoSuchElementException" then (
          some ((3 : Int32), N1))
        else if E1 = "java/lang/UnsupportedOperationException" then (
          some ((4 : Int32), N1))
        else none)) := id rfl
theorem bq_L_setMethod {β : Type} (x1 : Int32) (x2 : Int32) (x3 : Int32) (M : Mem) (f : Int32 × Mem → Option β) : (d_L_setMethod x1 x2 x3 M).bind f = Option.bind (
      (d_X11_setMethod x1 x2 x3 M).bind fun y1 => match y1 with
      | (.inl y1, N1) => (
        bnd (sL N1 127 0 (y1.toInt64)) fun M1 =>
        some ((0 : Int32), M1))
      | (.inr E1, N1) => (
        if E1 = "java/lang/IndexOutOfBoundsException" then (
          some ((1 : Int32), N1))
        else if E1 = "java/lang/IllegalArgumentException" then (
          some ((2 : Int32), N1))
        else if E1 = "java/util/NoSuchElementException" then (
          some ((3 : Int32), N1))
        else if E1 = "java/lang/UnsupportedOperationException" then (
          some ((4 : Int32), N1))
        else none)) f := id rfl
theorem tq_L_setCell (x1 : Int32) (x2 : Int32) (M : Mem) : d_L_setCell x1 x2 M = (
      (d_X11_setCell x1 x2 M).bind fun y1 => match y1 with
      | (.inl y1, N1) => (
        bnd (sL N1 127 0 (y1.toInt64)) fun M1 =>
        some ((0 : Int32), M1))
      | (.inr E1, N1) => (
        if E1 = "java/lang/IllegalArgumentException" then (
          some ((1 : Int32), N1))
        else none)) := id rfl
theorem bq_L_setCell {β : Type} (x1 : Int32) (x2 : Int32) (M : Mem) (f : Int32 × Mem → Option β) : (d_L_setCell x1 x2 M).bind f = Option.bind (
      (d_X11_setCell x1 x2 M).bind fun y1 => match y1 with
      | (.inl y1, N1) => (
        bnd (sL N1 127 0 (y1.toInt64)) fun M1 =>
        some ((0 : Int32), M1))
      | (.inr E1, N1) => (
        if E1 = "java/lang/IllegalArgumentException" then (
          some ((1 : Int32), N1))
        else none)) f := id rfl
theorem tq_L_setLimits (x1 : Int32) (x2 : Int32) (x3 : Int32) (M : Mem) : d_L_setLimits x1 x2 x3 M = (
      (d_X11_setLimits x1 x2 x3 M).bind fun y1 => match y1 with
      | (.inl y1, N1) => (
        bnd (sL N1 127 0 (y1.toInt64)) fun M1 =>
        some ((0 : Int32), M1))
      | (.inr E1, N1) => (
        if E1 = "java/lang/IllegalArgumentException" then (
          some ((1 : Int32), N1))
        else none)) := id rfl
theorem bq_L_setLimits {β : Type} (x1 : Int32) (x2 : Int32) (x3 : Int32) (M : Mem) (f : Int32 × Mem → Option β) : (d_L_setLimits x1 x2 x3 M).bind f = Option.bind (
      (d_X11_setLimits x1 x2 x3 M).bind fun y1 => match y1 with
      | (.inl y1, N1) => (
        bnd (sL N1 127 0 (y1.toInt64)) fun M1 =>
        some ((0 : Int32), M1))
      | (.inr E1, N1) => (
        if E1 = "java/lang/IllegalArgumentException" then (
          some ((1 : Int32), N1))
        else none)) f := id rfl
theorem tq_L_run (x1 : Int32) (x2 : Int32) (M : Mem) : d_L_run x1 x2 M = (
      (d_X11_run x1 x2 M).bind fun y1 => match y1 with
      | (.inl y1, N1) => (
        bnd (sL N1 127 0 (y1.toInt64)) fun M1 =>
        some ((0 : Int32), M1))
      | (.inr E1, N1) => (
        if E1 = "java/lang/IndexOutOfBoundsException" then (
          some ((1 : Int32), N1))
        else if E1 = "java/lang/UnsupportedOperationException" then (
          some ((2 : Int32), N1))
        else none)) := id rfl
theorem bq_L_run {β : Type} (x1 : Int32) (x2 : Int32) (M : Mem) (f : Int32 × Mem → Option β) : (d_L_run x1 x2 M).bind f = Option.bind (
      (d_X11_run x1 x2 M).bind fun y1 => match y1 with
      | (.inl y1, N1) => (
        bnd (sL N1 127 0 (y1.toInt64)) fun M1 =>
        some ((0 : Int32), M1))
      | (.inr E1, N1) => (
        if E1 = "java/lang/IndexOutOfBoundsException" then (
          some ((1 : Int32), N1))
        else if E1 = "java/lang/UnsupportedOperationException" then (
          some ((2 : Int32), N1))
        else none)) f := id rfl
theorem tq_L_resultKind (M : Mem) : d_L_resultKind M = (
      (d_X11_resultKind M).bind fun y1 => match y1 with
      | (.inl y1, N1) => (
        bnd (sL N1 127 0 (y1.toInt64)) fun M1 =>
        some ((0 : Int32), M1))
      | (.inr E1, N1) => (
        if E1 = "java/util/NoSuchElementException" then (
          some ((1 : Int32), N1))
        else none)) := id rfl
theorem bq_L_resultKind {β : Type} (M : Mem) (f : Int32 × Mem → Option β) : (d_L_resultKind M).bind f = Option.bind (
      (d_X11_resultKind M).bind fun y1 => match y1 with
      | (.inl y1, N1) => (
        bnd (sL N1 127 0 (y1.toInt64)) fun M1 =>
        some ((0 : Int32), M1))
      | (.inr E1, N1) => (
        if E1 = "java/util/NoSuchElementException" then (
          some ((1 : Int32), N1))
        else none)) f := id rfl
theorem tq_L_result (M : Mem) : d_L_result M = (
      (d_X11_result M).bind fun y1 => match y1 with
      | (.inl y1, N1) => (
        bnd (sL N1 127 0 y1) fun M1 =>
        some ((0 : Int32), M1))
      | (.inr E1, N1) => (
        if E1 = "java/util/NoSuchElementException" then (
          some ((1 : Int32), N1))
        else none)) := id rfl
theorem bq_L_result {β : Type} (M : Mem) (f : Int32 × Mem → Option β) : (d_L_result M).bind f = Option.bind (
      (d_X11_result M).bind fun y1 => match y1 with
      | (.inl y1, N1) => (
        bnd (sL N1 127 0 y1) fun M1 =>
        some ((0 : Int32), M1))
      | (.inr E1, N1) => (
        if E1 = "java/util/NoSuchElementException" then (
          some ((1 : Int32), N1))
        else none)) f := id rfl
theorem tq_L_failure (M : Mem) : d_L_failure M = (
      (d_X11_failure M).bind fun y1 => match y1 with
      | (.inl y1, N1) => (
        bnd (sL N1 127 0 (y1.toInt64)) fun M1 =>
        some ((0 : Int32), M1))
      | (.inr E1, N1) => (
        if E1 = "java/util/NoSuchElementException" then (
          some ((1 : Int32), N1))
        else none)) := id rfl
theorem bq_L_failure {β : Type} (M : Mem) (f : Int32 × Mem → Option β) : (d_L_failure M).bind f = Option.bind (
      (d_X11_failure M).bind fun y1 => match y1 with
      | (.inl y1, N1) => (
        bnd (sL N1 127 0 (y1.toInt64)) fun M1 =>
        some ((0 : Int32), M1))
      | (.inr E1, N1) => (
        if E1 = "java/util/NoSuchElementException" then (
          some ((1 : Int32), N1))
        else none)) f := id rfl
theorem tq_L_line (M : Mem) : d_L_line M = (
      (d_X11_line M).bind fun y1 => match y1 with
      | (.inl y1, N1) => (
        bnd (sL N1 127 0 (y1.toInt64)) fun M1 =>
        some ((0 : Int32), M1))
      | (.inr E1, N1) => (
        if E1 = "java/util/NoSuchElementException" then (
          some ((1 : Int32), N1))
        else none)) := id rfl
theorem bq_L_line {β : Type} (M : Mem) (f : Int32 × Mem → Option β) : (d_L_line M).bind f = Option.bind (
      (d_X11_line M).bind fun y1 => match y1 with
      | (.inl y1, N1) => (
        bnd (sL N1 127 0 (y1.toInt64)) fun M1 =>
        some ((0 : Int32), M1))
      | (.inr E1, N1) => (
        if E1 = "java/util/NoSuchElementException" then (
          some ((1 : Int32), N1))
        else none)) f := id rfl
theorem tq_L_toldKind (x1 : Int32) (M : Mem) : d_L_toldKind x1 M = (
      (d_X11_toldKind x1 M).bind fun y1 => match y1 with
      | (.inl y1, N1) => (
        bnd (sL N1 127 0 (y1.toInt64)) fun M1 =>
        some ((0 : Int32), M1))
      | (.inr E1, N1) => (
        if E1 = "java/lang/IndexOutOfBoundsException" then (
          some ((1 : Int32), N1))
        else none)) := id rfl
theorem bq_L_toldKind {β : Type} (x1 : Int32) (M : Mem) (f : Int32 × Mem → Option β) : (d_L_toldKind x1 M).bind f = Option.bind (
      (d_X11_toldKind x1 M).bind fun y1 => match y1 with
      | (.inl y1, N1) => (
        bnd (sL N1 127 0 (y1.toInt64)) fun M1 =>
        some ((0 : Int32), M1))
      | (.inr E1, N1) => (
        if E1 = "java/lang/IndexOutOfBoundsException" then (
          some ((1 : Int32), N1))
        else none)) f := id rfl
theorem tq_L_toldAt (x1 : Int32) (M : Mem) : d_L_toldAt x1 M = (
      (d_X11_toldAt x1 M).bind fun y1 => match y1 with
      | (.inl y1, N1) => (
        bnd (sL N1 127 0 y1) fun M1 =>
        some ((0 : Int32), M1))
      | (.inr E1, N1) => (
        if E1 = "java/lang/IndexOutOfBoundsException" then (
          some ((1 : Int32), N1))
        else none)) := id rfl
theorem bq_L_toldAt {β : Type} (x1 : Int32) (M : Mem) (f : Int32 × Mem → Option β) : (d_L_toldAt x1 M).bind f = Option.bind (
      (d_X11_toldAt x1 M).bind fun y1 => match y1 with
      | (.inl y1, N1) => (
        bnd (sL N1 127 0 y1) fun M1 =>
        some ((0 : Int32), M1))
      | (.inr E1, N1) => (
        if E1 = "java/lang/IndexOutOfBoundsException" then (
          some ((1 : Int32), N1))
        else none)) f := id rfl
theorem tq_L_shapeOf (x1 : Int32) (M : Mem) : d_L_shapeOf x1 M = (
      (d_X11_shapeOf x1 M).bind fun y1 => match y1 with
      | (.inl y1, N1) => (
        bnd (sL N1 127 0 (y1.toInt64)) fun M1 =>
        some ((0 : Int32), M1))
      | (.inr E1, N1) => (
        if E1 = "java/lang/IndexOutOfBoundsException" then (
          some ((1 : Int32), N1))
        else none)) := id rfl
theorem bq_L_shapeOf {β : Type} (x1 : Int32) (M : Mem) (f : Int32 × Mem → Option β) : (d_L_shapeOf x1 M).bind f = Option.bind (
      (d_X11_shapeOf x1 M).bind fun y1 => match y1 with
      | (.inl y1, N1) => (
        bnd (sL N1 127 0 (y1.toInt64)) fun M1 =>
        some ((0 : Int32), M1))
      | (.inr E1, N1) => (
        if E1 = "java/lang/IndexOutOfBoundsException" then (
          some ((1 : Int32), N1))
        else none)) f := id rfl
theorem tq_L_field (x1 : Int32) (x2 : Int32) (M : Mem) : d_L_field x1 x2 M = (
      (d_X11_field x1 x2 M).bind fun y1 => match y1 with
      | (.inl y1, N1) => (
        bnd (sL N1 127 0 y1) fun M1 =>
        some ((0 : Int32), M1))
      | (.inr E1, N1) => (
        if E1 = "java/lang/IndexOutOfBoundsException" then (
          some ((1 : Int32), N1))
        else if E1 = "java/util/NoSuchElementException" then (
          some ((2 : Int32), N1))
        else none)) := id rfl
theorem bq_L_field {β : Type} (x1 : Int32) (x2 : Int32) (M : Mem) (f : Int32 × Mem → Option β) : (d_L_field x1 x2 M).bind f = Option.bind (
      (d_X11_field x1 x2 M).bind fun y1 => match y1 with
      | (.inl y1, N1) => (
        bnd (sL N1 127 0 y1) fun M1 =>
        some ((0 : Int32), M1))
      | (.inr E1, N1) => (
        if E1 = "java/lang/IndexOutOfBoundsException" then (
          some ((1 : Int32), N1))
        else if E1 = "java/util/NoSuchElementException" then (
          some ((2 : Int32), N1))
        else none)) f := id rfl
theorem tq_L_fields (x1 : Int32) (M : Mem) : d_L_fields x1 M = (
      (d_X11_fields x1 M).bind fun y1 => match y1 with
      | (.inl y1, N1) => (
        bnd (sL N1 127 0 (y1.toInt64)) fun M1 =>
        some ((0 : Int32), M1))
      | (.inr E1, N1) => (
        if E1 = "java/lang/IndexOutOfBoundsException" then (
          some ((1 : Int32), N1))
        else none)) := id rfl
theorem bq_L_fields {β : Type} (x1 : Int32) (M : Mem) (f : Int32 × Mem → Option β) : (d_L_fields x1 M).bind f = Option.bind (
      (d_X11_fields x1 M).bind fun y1 => match y1 with
      | (.inl y1, N1) => (
        bnd (sL N1 127 0 (y1.toInt64)) fun M1 =>
        some ((0 : Int32), M1))
      | (.inr E1, N1) => (
        if E1 = "java/lang/IndexOutOfBoundsException" then (
          some ((1 : Int32), N1))
        else none)) f := id rfl
theorem tq_L_fieldAt (x1 : Int32) (x2 : Int32) (M : Mem) : d_L_fieldAt x1 x2 M = (
      (d_X11_fieldAt x1 x2 M).bind fun y1 => match y1 with
      | (.inl y1, N1) => (
        bnd (sL N1 127 0 (y1.toInt64)) fun M1 =>
        some ((0 : Int32), M1))
      | (.inr E1, N1) => (
        if E1 = "java/lang/IndexOutOfBoundsException" then (
          some ((1 : Int32), N1))
        else if E1 = "java/util/NoSuchElementException" then (
          some ((2 : Int32), N1))
        else none)) := id rfl
theorem bq_L_fieldAt {β : Type} (x1 : Int32) (x2 : Int32) (M : Mem) (f : Int32 × Mem → Option β) : (d_L_fieldAt x1 x2 M).bind f = Option.bind (
      (d_X11_fieldAt x1 x2 M).bind fun y1 => match y1 with
      | (.inl y1, N1) => (
        bnd (sL N1 127 0 (y1.toInt64)) fun M1 =>
        some ((0 : Int32), M1))
      | (.inr E1, N1) => (
        if E1 = "java/lang/IndexOutOfBoundsException" then (
          some ((1 : Int32), N1))
        else if E1 = "java/util/NoSuchElementException" then (
          some ((2 : Int32), N1))
        else none)) f := id rfl
theorem tq_L_nextShape (x1 : Int32) (x2 : Int32) (M : Mem) : d_L_nextShape x1 x2 M = (
      (d_X11_nextShape x1 x2 M).bind fun y1 => match y1 with
      | (.inl y1, N1) => (
        bnd (sL N1 127 0 (y1.toInt64)) fun M1 =>
        some ((0 : Int32), M1))
      | (.inr E1, N1) => (
        if E1 = "java/lang/IndexOutOfBoundsException" then (
          some ((1 : Int32), N1))
        else if E1 = "java/util/NoSuchElementException" then (
          some ((2 : Int32), N1))
        else none)) := id rfl
theorem bq_L_nextShape {β : Type} (x1 : Int32) (x2 : Int32) (M : Mem) (f : Int32 × Mem → Option β) : (d_L_nextShape x1 x2 M).bind f = Option.bind (
      (d_X11_nextShape x1 x2 M).bind fun y1 => match y1 with
      | (.inl y1, N1) => (
        bnd (sL N1 127 0 (y1.toInt64)) fun M1 =>
        some ((0 : Int32), M1))
      | (.inr E1, N1) => (
        if E1 = "java/lang/IndexOutOfBoundsException" then (
          some ((1 : Int32), N1))
        else if E1 = "java/util/NoSuchElementException" then (
          some ((2 : Int32), N1))
        else none)) f := id rfl
theorem tq_L_cacheState (x1 : Int32) (x2 : Int32) (M : Mem) : d_L_cacheState x1 x2 M = (
      (d_X11_cacheState x1 x2 M).bind fun y1 => match y1 with
      | (.inl y1, N1) => (
        bnd (sL N1 127 0 (y1.toInt64)) fun M1 =>
        some ((0 : Int32), M1))
      | (.inr E1, N1) => (
        if E1 = "java/lang/IndexOutOfBoundsException" then (
          some ((1 : Int32), N1))
        else if E1 = "java/util/NoSuchElementException" then (
          some ((2 : Int32), N1))
        else none)) := id rfl
theorem bq_L_cacheState {β : Type} (x1 : Int32) (x2 : Int32) (M : Mem) (f : Int32 × Mem → Option β) : (d_L_cacheState x1 x2 M).bind f = Option.bind (
      (d_X11_cacheState x1 x2 M).bind fun y1 => match y1 with
      | (.inl y1, N1) => (
        bnd (sL N1 127 0 (y1.toInt64)) fun M1 =>
        some ((0 : Int32), M1))
      | (.inr E1, N1) => (
        if E1 = "java/lang/IndexOutOfBoundsException" then (
          some ((1 : Int32), N1))
        else if E1 = "java/util/NoSuchElementException" then (
          some ((2 : Int32), N1))
        else none)) f := id rfl
theorem tq_L_hits (x1 : Int32) (x2 : Int32) (M : Mem) : d_L_hits x1 x2 M = (
      (d_X11_hits x1 x2 M).bind fun y1 => match y1 with
      | (.inl y1, N1) => (
        bnd (sL N1 127 0 (y1.toInt64)) fun M1 =>
        some ((0 : Int32), M1))
      | (.inr E1, N1) => (
        if E1 = "java/lang/IndexOutOfBoundsException" then (
          some ((1 : Int32), N1))
        else if E1 = "java/util/NoSuchElementException" then (
          some ((2 : Int32), N1))
        else none)) := id rfl
theorem bq_L_hits {β : Type} (x1 : Int32) (x2 : Int32) (M : Mem) (f : Int32 × Mem → Option β) : (d_L_hits x1 x2 M).bind f = Option.bind (
      (d_X11_hits x1 x2 M).bind fun y1 => match y1 with
      | (.inl y1, N1) => (
        bnd (sL N1 127 0 (y1.toInt64)) fun M1 =>
        some ((0 : Int32), M1))
      | (.inr E1, N1) => (
        if E1 = "java/lang/IndexOutOfBoundsException" then (
          some ((1 : Int32), N1))
        else if E1 = "java/util/NoSuchElementException" then (
          some ((2 : Int32), N1))
        else none)) f := id rfl
theorem tq_L_misses (x1 : Int32) (x2 : Int32) (M : Mem) : d_L_misses x1 x2 M = (
      (d_X11_misses x1 x2 M).bind fun y1 => match y1 with
      | (.inl y1, N1) => (
        bnd (sL N1 127 0 (y1.toInt64)) fun M1 =>
        some ((0 : Int32), M1))
      | (.inr E1, N1) => (
        if E1 = "java/lang/IndexOutOfBoundsException" then (
          some ((1 : Int32), N1))
        else if E1 = "java/util/NoSuchElementException" then (
          some ((2 : Int32), N1))
        else none)) := id rfl
theorem bq_L_misses {β : Type} (x1 : Int32) (x2 : Int32) (M : Mem) (f : Int32 × Mem → Option β) : (d_L_misses x1 x2 M).bind f = Option.bind (
      (d_X11_misses x1 x2 M).bind fun y1 => match y1 with
      | (.inl y1, N1) => (
        bnd (sL N1 127 0 (y1.toInt64)) fun M1 =>
        some ((0 : Int32), M1))
      | (.inr E1, N1) => (
        if E1 = "java/lang/IndexOutOfBoundsException" then (
          some ((1 : Int32), N1))
        else if E1 = "java/util/NoSuchElementException" then (
          some ((2 : Int32), N1))
        else none)) f := id rfl
theorem tq_L_counter (x1 : Int32) (x2 : Int32) (M : Mem) : d_L_counter x1 x2 M = (
      (d_X11_counter x1 x2 M).bind fun y1 => match y1 with
      | (.inl y1, N1) => (
        bnd (sL N1 127 0 (y1.toInt64)) fun M1 =>
        some ((0 : Int32), M1))
      | (.inr E1, N1) => (
        if E1 = "java/lang/IndexOutOfBoundsException" then (
          some ((1 : Int32), N1))
        else if E1 = "java/lang/IllegalArgumentException" then (
          some ((2 : Int32), N1))
        else none)) := id rfl
theorem bq_L_counter {β : Type} (x1 : Int32) (x2 : Int32) (M : Mem) (f : Int32 × Mem → Option β) : (d_L_counter x1 x2 M).bind f = Option.bind (
      (d_X11_counter x1 x2 M).bind fun y1 => match y1 with
      | (.inl y1, N1) => (
        bnd (sL N1 127 0 (y1.toInt64)) fun M1 =>
        some ((0 : Int32), M1))
      | (.inr E1, N1) => (
        if E1 = "java/lang/IndexOutOfBoundsException" then (
          some ((1 : Int32), N1))
        else if E1 = "java/lang/IllegalArgumentException" then (
          some ((2 : Int32), N1))
        else none)) f := id rfl
theorem tq_L_isBarred (x1 : Int32) (x2 : Int32) (M : Mem) : d_L_isBarred x1 x2 M = (
      (d_X11_isBarred x1 x2 M).bind fun y1 => match y1 with
      | (.inl y1, N1) => (
        if y1 = 0 then (
          bnd (sL N1 127 0 (0 : Int64)) fun M1 =>
          some ((0 : Int32), M1))
        else (
          bnd (sL N1 127 0 (1 : Int64)) fun M2 =>
          some ((0 : Int32), M2)))
      | (.inr E1, N1) => (
        if E1 = "java/lang/IndexOutOfBoundsException" then (
          some ((1 : Int32), N1))
        else if E1 = "java/lang/IllegalArgumentException" then (
          some ((2 : Int32), N1))
        else none)) := id rfl
theorem bq_L_isBarred {β : Type} (x1 : Int32) (x2 : Int32) (M : Mem) (f : Int32 × Mem → Option β) : (d_L_isBarred x1 x2 M).bind f = Option.bind (
      (d_X11_isBarred x1 x2 M).bind fun y1 => match y1 with
      | (.inl y1, N1) => (
        if y1 = 0 then (
          bnd (sL N1 127 0 (0 : Int64)) fun M1 =>
          some ((0 : Int32), M1))
        else (
          bnd (sL N1 127 0 (1 : Int64)) fun M2 =>
          some ((0 : Int32), M2)))
      | (.inr E1, N1) => (
        if E1 = "java/lang/IndexOutOfBoundsException" then (
          some ((1 : Int32), N1))
        else if E1 = "java/lang/IllegalArgumentException" then (
          some ((2 : Int32), N1))
        else none)) f := id rfl
theorem tq_L_isThere (x1 : Int32) (M : Mem) : d_L_isThere x1 M = (
      (d_X11_isThere x1 M).bind fun y1 => match y1 with
      | (.inl y1, N1) => (
        if y1 = 0 then (
          bnd (sL N1 127 0 (0 : Int64)) fun M1 =>
          some ((0 : Int32), M1))
        else (
          bnd (sL N1 127 0 (1 : Int64)) fun M2 =>
          some ((0 : Int32), M2)))
      | (.inr E1, N1) => (
        if E1 = "java/lang/IndexOutOfBoundsException" then (
          some ((1 : Int32), N1))
        else none)) := id rfl
theorem bq_L_isThere {β : Type} (x1 : Int32) (M : Mem) (f : Int32 × Mem → Option β) : (d_L_isThere x1 M).bind f = Option.bind (
      (d_X11_isThere x1 M).bind fun y1 => match y1 with
      | (.inl y1, N1) => (
        if y1 = 0 then (
          bnd (sL N1 127 0 (0 : Int64)) fun M1 =>
          some ((0 : Int32), M1))
        else (
          bnd (sL N1 127 0 (1 : Int64)) fun M2 =>
          some ((0 : Int32), M2)))
      | (.inr E1, N1) => (
        if E1 = "java/lang/IndexOutOfBoundsException" then (
          some ((1 : Int32), N1))
        else none)) f := id rfl
theorem tq_L_steps (x1 : Int32) (M : Mem) : d_L_steps x1 M = (
      (d_X11_steps x1 M).bind fun y1 => match y1 with
      | (.inl y1, N1) => (
        bnd (sL N1 127 0 (y1.toInt64)) fun M1 =>
        some ((0 : Int32), M1))
      | (.inr E1, N1) => (
        if E1 = "java/lang/IndexOutOfBoundsException" then (
          some ((1 : Int32), N1))
        else none)) := id rfl
theorem bq_L_steps {β : Type} (x1 : Int32) (M : Mem) (f : Int32 × Mem → Option β) : (d_L_steps x1 M).bind f = Option.bind (
      (d_X11_steps x1 M).bind fun y1 => match y1 with
      | (.inl y1, N1) => (
        bnd (sL N1 127 0 (y1.toInt64)) fun M1 =>
        some ((0 : Int32), M1))
      | (.inr E1, N1) => (
        if E1 = "java/lang/IndexOutOfBoundsException" then (
          some ((1 : Int32), N1))
        else none)) f := id rfl
theorem tq_L_lineAt (x1 : Int32) (x2 : Int32) (M : Mem) : d_L_lineAt x1 x2 M = (
      (d_X11_lineAt x1 x2 M).bind fun y1 => match y1 with
      | (.inl y1, N1) => (
        bnd (sL N1 127 0 (y1.toInt64)) fun M1 =>
        some ((0 : Int32), M1))
      | (.inr E1, N1) => (
        if E1 = "java/lang/IndexOutOfBoundsException" then (
          some ((1 : Int32), N1))
        else if E1 = "java/util/NoSuchElementException" then (
          some ((2 : Int32), N1))
        else none)) := id rfl
theorem bq_L_lineAt {β : Type} (x1 : Int32) (x2 : Int32) (M : Mem) (f : Int32 × Mem → Option β) : (d_L_lineAt x1 x2 M).bind f = Option.bind (
      (d_X11_lineAt x1 x2 M).bind fun y1 => match y1 with
      | (.inl y1, N1) => (
        bnd (sL N1 127 0 (y1.toInt64)) fun M1 =>
        some ((0 : Int32), M1))
      | (.inr E1, N1) => (
        if E1 = "java/lang/IndexOutOfBoundsException" then (
          some ((1 : Int32), N1))
        else if E1 = "java/util/NoSuchElementException" then (
          some ((2 : Int32), N1))
        else none)) f := id rfl
theorem tq_L_guards (x1 : Int32) (M : Mem) : d_L_guards x1 M = (
      (d_X11_guards x1 M).bind fun y1 => match y1 with
      | (.inl y1, N1) => (
        bnd (sL N1 127 0 (y1.toInt64)) fun M1 =>
        some ((0 : Int32), M1))
      | (.inr E1, N1) => (
        if E1 = "java/lang/IndexOutOfBoundsException" then (
          some ((1 : Int32), N1))
        else none)) := id rfl
theorem bq_L_guards {β : Type} (x1 : Int32) (M : Mem) (f : Int32 × Mem → Option β) : (d_L_guards x1 M).bind f = Option.bind (
      (d_X11_guards x1 M).bind fun y1 => match y1 with
      | (.inl y1, N1) => (
        bnd (sL N1 127 0 (y1.toInt64)) fun M1 =>
        some ((0 : Int32), M1))
      | (.inr E1, N1) => (
        if E1 = "java/lang/IndexOutOfBoundsException" then (
          some ((1 : Int32), N1))
        else none)) f := id rfl
theorem tq_L_guardAt (x1 : Int32) (x2 : Int32) (M : Mem) : d_L_guardAt x1 x2 M = (
      (d_X11_guardAt x1 x2 M).bind fun y1 => match y1 with
      | (.inl y1, N1) => (
        bnd (sL N1 127 0 (y1.toInt64)) fun M1 =>
        some ((0 : Int32), M1))
      | (.inr E1, N1) => (
        if E1 = "java/lang/IndexOutOfBoundsException" then (
          some ((1 : Int32), N1))
        else none)) := id rfl
theorem bq_L_guardAt {β : Type} (x1 : Int32) (x2 : Int32) (M : Mem) (f : Int32 × Mem → Option β) : (d_L_guardAt x1 x2 M).bind f = Option.bind (
      (d_X11_guardAt x1 x2 M).bind fun y1 => match y1 with
      | (.inl y1, N1) => (
        bnd (sL N1 127 0 (y1.toInt64)) fun M1 =>
        some ((0 : Int32), M1))
      | (.inr E1, N1) => (
        if E1 = "java/lang/IndexOutOfBoundsException" then (
          some ((1 : Int32), N1))
        else none)) f := id rfl
theorem tq_L_guardStep (x1 : Int32) (x2 : Int32) (M : Mem) : d_L_guardStep x1 x2 M = (
      (d_X11_guardStep x1 x2 M).bind fun y1 => match y1 with
      | (.inl y1, N1) => (
        bnd (sL N1 127 0 (y1.toInt64)) fun M1 =>
        some ((0 : Int32), M1))
      | (.inr E1, N1) => (
        if E1 = "java/lang/IndexOutOfBoundsException" then (
          some ((1 : Int32), N1))
        else none)) := id rfl
theorem bq_L_guardStep {β : Type} (x1 : Int32) (x2 : Int32) (M : Mem) (f : Int32 × Mem → Option β) : (d_L_guardStep x1 x2 M).bind f = Option.bind (
      (d_X11_guardStep x1 x2 M).bind fun y1 => match y1 with
      | (.inl y1, N1) => (
        bnd (sL N1 127 0 (y1.toInt64)) fun M1 =>
        some ((0 : Int32), M1))
      | (.inr E1, N1) => (
        if E1 = "java/lang/IndexOutOfBoundsException" then (
          some ((1 : Int32), N1))
        else none)) f := id rfl
theorem tq_L_exits (x1 : Int32) (x2 : Int32) (M : Mem) : d_L_exits x1 x2 M = (
      (d_X11_exits x1 x2 M).bind fun y1 => match y1 with
      | (.inl y1, N1) => (
        bnd (sL N1 127 0 (y1.toInt64)) fun M1 =>
        some ((0 : Int32), M1))
      | (.inr E1, N1) => (
        if E1 = "java/lang/IndexOutOfBoundsException" then (
          some ((1 : Int32), N1))
        else none)) := id rfl
theorem bq_L_exits {β : Type} (x1 : Int32) (x2 : Int32) (M : Mem) (f : Int32 × Mem → Option β) : (d_L_exits x1 x2 M).bind f = Option.bind (
      (d_X11_exits x1 x2 M).bind fun y1 => match y1 with
      | (.inl y1, N1) => (
        bnd (sL N1 127 0 (y1.toInt64)) fun M1 =>
        some ((0 : Int32), M1))
      | (.inr E1, N1) => (
        if E1 = "java/lang/IndexOutOfBoundsException" then (
          some ((1 : Int32), N1))
        else none)) f := id rfl
theorem tq_L_sideOf (x1 : Int32) (x2 : Int32) (M : Mem) : d_L_sideOf x1 x2 M = (
      (d_X11_sideOf x1 x2 M).bind fun y1 => match y1 with
      | (.inl y1, N1) => (
        bnd (sL N1 127 0 (y1.toInt64)) fun M1 =>
        some ((0 : Int32), M1))
      | (.inr E1, N1) => (
        if E1 = "java/lang/IndexOutOfBoundsException" then (
          some ((1 : Int32), N1))
        else if E1 = "java/util/NoSuchElementException" then (
          some ((2 : Int32), N1))
        else none)) := id rfl
theorem bq_L_sideOf {β : Type} (x1 : Int32) (x2 : Int32) (M : Mem) (f : Int32 × Mem → Option β) : (d_L_sideOf x1 x2 M).bind f = Option.bind (
      (d_X11_sideOf x1 x2 M).bind fun y1 => match y1 with
      | (.inl y1, N1) => (
        bnd (sL N1 127 0 (y1.toInt64)) fun M1 =>
        some ((0 : Int32), M1))
      | (.inr E1, N1) => (
        if E1 = "java/lang/IndexOutOfBoundsException" then (
          some ((1 : Int32), N1))
        else if E1 = "java/util/NoSuchElementException" then (
          some ((2 : Int32), N1))
        else none)) f := id rfl
theorem tq_L_rootOf (x1 : Int32) (M : Mem) : d_L_rootOf x1 M = (
      (d_X11_rootOf x1 M).bind fun y1 => match y1 with
      | (.inl y1, N1) => (
        bnd (sL N1 127 0 (y1.toInt64)) fun M1 =>
        some ((0 : Int32), M1))
      | (.inr E1, N1) => (
        if E1 = "java/lang/IndexOutOfBoundsException" then (
          some ((1 : Int32), N1))
        else none)) := id rfl
theorem bq_L_rootOf {β : Type} (x1 : Int32) (M : Mem) (f : Int32 × Mem → Option β) : (d_L_rootOf x1 M).bind f = Option.bind (
      (d_X11_rootOf x1 M).bind fun y1 => match y1 with
      | (.inl y1, N1) => (
        bnd (sL N1 127 0 (y1.toInt64)) fun M1 =>
        some ((0 : Int32), M1))
      | (.inr E1, N1) => (
        if E1 = "java/lang/IndexOutOfBoundsException" then (
          some ((1 : Int32), N1))
        else none)) f := id rfl
theorem tq_L_begun (x1 : Int32) (M : Mem) : d_L_begun x1 M = (
      (d_X11_begun x1 M).bind fun y1 => match y1 with
      | (.inl y1, N1) => (
        bnd (sL N1 127 0 (y1.toInt64)) fun M1 =>
        some ((0 : Int32), M1))
      | (.inr E1, N1) => (
        if E1 = "java/lang/IndexOutOfBoundsException" then (
          some ((1 : Int32), N1))
        else none)) := id rfl
theorem bq_L_begun {β : Type} (x1 : Int32) (M : Mem) (f : Int32 × Mem → Option β) : (d_L_begun x1 M).bind f = Option.bind (
      (d_X11_begun x1 M).bind fun y1 => match y1 with
      | (.inl y1, N1) => (
        bnd (sL N1 127 0 (y1.toInt64)) fun M1 =>
        some ((0 : Int32), M1))
      | (.inr E1, N1) => (
        if E1 = "java/lang/IndexOutOfBoundsException" then (
          some ((1 : Int32), N1))
        else none)) f := id rfl
theorem tq_L_tracedShare (M : Mem) : d_L_tracedShare M = (
      (d_X11_tracedShare M).bind fun y1 => match y1 with
      | (.inl y1, N1) => (
        okk (vf_n64 (FP.f2d y1)) <|
        bnd (sD N1 128 0 (FP.f2d y1)) fun M1 =>
        some ((0 : Int32), M1))
      | (.inr E1, N1) => (
        if E1 = "java/lang/ArithmeticException" then (
          some ((1 : Int32), N1))
        else none)) := id rfl
theorem bq_L_tracedShare {β : Type} (M : Mem) (f : Int32 × Mem → Option β) : (d_L_tracedShare M).bind f = Option.bind (
      (d_X11_tracedShare M).bind fun y1 => match y1 with
      | (.inl y1, N1) => (
        okk (vf_n64 (FP.f2d y1)) <|
        bnd (sD N1 128 0 (FP.f2d y1)) fun M1 =>
        some ((0 : Int32), M1))
      | (.inr E1, N1) => (
        if E1 = "java/lang/ArithmeticException" then (
          some ((1 : Int32), N1))
        else none)) f := id rfl
theorem tq_L_meanGuards (M : Mem) : d_L_meanGuards M = (
      (d_X11_meanGuards M).bind fun y1 => match y1 with
      | (.inl y1, N1) => (
        bnd (sD N1 128 0 y1) fun M1 =>
        some ((0 : Int32), M1))
      | (.inr E1, N1) => (
        if E1 = "java/lang/ArithmeticException" then (
          some ((1 : Int32), N1))
        else none)) := id rfl
theorem bq_L_meanGuards {β : Type} (M : Mem) (f : Int32 × Mem → Option β) : (d_L_meanGuards M).bind f = Option.bind (
      (d_X11_meanGuards M).bind fun y1 => match y1 with
      | (.inl y1, N1) => (
        bnd (sD N1 128 0 y1) fun M1 =>
        some ((0 : Int32), M1))
      | (.inr E1, N1) => (
        if E1 = "java/lang/ArithmeticException" then (
          some ((1 : Int32), N1))
        else none)) f := id rfl
theorem tq_L_law_2621 (k28 : (Int32) → Mem → Option (Int32 × Mem)) (x5 : Int32) (M : Mem) : d_L_law_2621 k28 x5 M = (
      bnd ((x5 + (4 : Int32))) fun b1 =>
      k28 (b1) M) := id rfl
theorem bq_L_law_2621 {β : Type} (k28 : (Int32) → Mem → Option (Int32 × Mem)) (x5 : Int32) (M : Mem) (f : Int32 × Mem → Option β) : (d_L_law_2621 k28 x5 M).bind f = Option.bind (
      bnd ((x5 + (4 : Int32))) fun b1 =>
      k28 (b1) M) f := id rfl
theorem tq_L_law_293 (k28 : (Int32) → Mem → Option (Int32 × Mem)) (x5 : Int32) (M : Mem) : d_L_law_293 k28 x5 M = (
      d_L_law_2621 k28 x5 M) := id rfl
theorem bq_L_law_293 {β : Type} (k28 : (Int32) → Mem → Option (Int32 × Mem)) (x5 : Int32) (M : Mem) (f : Int32 × Mem → Option β) : (d_L_law_293 k28 x5 M).bind f = Option.bind (
      d_L_law_2621 k28 x5 M) f := id rfl
theorem tq_L_law_375 (k28 : (Int32) → Mem → Option (Int32 × Mem)) (x5 : Int32) (M : Mem) : d_L_law_375 k28 x5 M = (
      d_L_law_2621 k28 x5 M) := id rfl
theorem bq_L_law_375 {β : Type} (k28 : (Int32) → Mem → Option (Int32 × Mem)) (x5 : Int32) (M : Mem) (f : Int32 × Mem → Option β) : (d_L_law_375 k28 x5 M).bind f = Option.bind (
      d_L_law_2621 k28 x5 M) f := id rfl
theorem tq_L_law_443 (k28 : (Int32) → Mem → Option (Int32 × Mem)) (x5 : Int32) (M : Mem) : d_L_law_443 k28 x5 M = (
      d_L_law_2621 k28 x5 M) := id rfl
theorem bq_L_law_443 {β : Type} (k28 : (Int32) → Mem → Option (Int32 × Mem)) (x5 : Int32) (M : Mem) (f : Int32 × Mem → Option β) : (d_L_law_443 k28 x5 M).bind f = Option.bind (
      d_L_law_2621 k28 x5 M) f := id rfl
theorem tq_L_law_499 (k28 : (Int32) → Mem → Option (Int32 × Mem)) (x5 : Int32) (M : Mem) : d_L_law_499 k28 x5 M = (
      d_L_law_2621 k28 x5 M) := id rfl
theorem bq_L_law_499 {β : Type} (k28 : (Int32) → Mem → Option (Int32 × Mem)) (x5 : Int32) (M : Mem) (f : Int32 × Mem → Option β) : (d_L_law_499 k28 x5 M).bind f = Option.bind (
      d_L_law_2621 k28 x5 M) f := id rfl
theorem tq_L_law_579 (k28 : (Int32) → Mem → Option (Int32 × Mem)) (x5 : Int32) (M : Mem) : d_L_law_579 k28 x5 M = (
      d_L_law_2621 k28 x5 M) := id rfl
theorem bq_L_law_579 {β : Type} (k28 : (Int32) → Mem → Option (Int32 × Mem)) (x5 : Int32) (M : Mem) (f : Int32 × Mem → Option β) : (d_L_law_579 k28 x5 M).bind f = Option.bind (
      d_L_law_2621 k28 x5 M) f := id rfl
theorem tq_L_law_647 (k28 : (Int32) → Mem → Option (Int32 × Mem)) (x5 : Int32) (M : Mem) : d_L_law_647 k28 x5 M = (
      d_L_law_2621 k28 x5 M) := id rfl
theorem bq_L_law_647 {β : Type} (k28 : (Int32) → Mem → Option (Int32 × Mem)) (x5 : Int32) (M : Mem) (f : Int32 × Mem → Option β) : (d_L_law_647 k28 x5 M).bind f = Option.bind (
      d_L_law_2621 k28 x5 M) f := id rfl
theorem tq_L_law_727 (k28 : (Int32) → Mem → Option (Int32 × Mem)) (x5 : Int32) (M : Mem) : d_L_law_727 k28 x5 M = (
      d_L_law_2621 k28 x5 M) := id rfl
theorem bq_L_law_727 {β : Type} (k28 : (Int32) → Mem → Option (Int32 × Mem)) (x5 : Int32) (M : Mem) (f : Int32 × Mem → Option β) : (d_L_law_727 k28 x5 M).bind f = Option.bind (
      d_L_law_2621 k28 x5 M) f := id rfl
theorem tq_L_law_795 (k28 : (Int32) → Mem → Option (Int32 × Mem)) (x5 : Int32) (M : Mem) : d_L_law_795 k28 x5 M = (
      d_L_law_2621 k28 x5 M) := id rfl
theorem bq_L_law_795 {β : Type} (k28 : (Int32) → Mem → Option (Int32 × Mem)) (x5 : Int32) (M : Mem) (f : Int32 × Mem → Option β) : (d_L_law_795 k28 x5 M).bind f = Option.bind (
      d_L_law_2621 k28 x5 M) f := id rfl
theorem tq_L_law_852 (k28 : (Int32) → Mem → Option (Int32 × Mem)) (x5 : Int32) (M : Mem) : d_L_law_852 k28 x5 M = (
      d_L_law_2621 k28 x5 M) := id rfl
theorem bq_L_law_852 {β : Type} (k28 : (Int32) → Mem → Option (Int32 × Mem)) (x5 : Int32) (M : Mem) (f : Int32 × Mem → Option β) : (d_L_law_852 k28 x5 M).bind f = Option.bind (
      d_L_law_2621 k28 x5 M) f := id rfl
theorem tq_L_law_895 (k28 : (Int32) → Mem → Option (Int32 × Mem)) (x5 : Int32) (M : Mem) : d_L_law_895 k28 x5 M = (
      d_L_law_2621 k28 x5 M) := id rfl
theorem bq_L_law_895 {β : Type} (k28 : (Int32) → Mem → Option (Int32 × Mem)) (x5 : Int32) (M : Mem) (f : Int32 × Mem → Option β) : (d_L_law_895 k28 x5 M).bind f = Option.bind (
      d_L_law_2621 k28 x5 M) f := id rfl
theorem tq_L_law_939 (k28 : (Int32) → Mem → Option (Int32 × Mem)) (x5 : Int32) (M : Mem) : d_L_law_939 k28 x5 M = (
      d_L_law_2621 k28 x5 M) := id rfl
theorem bq_L_law_939 {β : Type} (k28 : (Int32) → Mem → Option (Int32 × Mem)) (x5 : Int32) (M : Mem) (f : Int32 × Mem → Option β) : (d_L_law_939 k28 x5 M).bind f = Option.bind (
      d_L_law_2621 k28 x5 M) f := id rfl
theorem tq_L_law_983 (k28 : (Int32) → Mem → Option (Int32 × Mem)) (x5 : Int32) (M : Mem) : d_L_law_983 k28 x5 M = (
      d_L_law_2621 k28 x5 M) := id rfl
theorem bq_L_law_983 {β : Type} (k28 : (Int32) → Mem → Option (Int32 × Mem)) (x5 : Int32) (M : Mem) (f : Int32 × Mem → Option β) : (d_L_law_983 k28 x5 M).bind f = Option.bind (
      d_L_law_2621 k28 x5 M) f := id rfl
theorem tq_L_law_1052 (k28 : (Int32) → Mem → Option (Int32 × Mem)) (x5 : Int32) (M : Mem) : d_L_law_1052 k28 x5 M = (
      d_L_law_2621 k28 x5 M) := id rfl
theorem bq_L_law_1052 {β : Type} (k28 : (Int32) → Mem → Option (Int32 × Mem)) (x5 : Int32) (M : Mem) (f : Int32 × Mem → Option β) : (d_L_law_1052 k28 x5 M).bind f = Option.bind (
      d_L_law_2621 k28 x5 M) f := id rfl
theorem tq_L_law_1107 (k28 : (Int32) → Mem → Option (Int32 × Mem)) (x5 : Int32) (M : Mem) : d_L_law_1107 k28 x5 M = (
      d_L_law_2621 k28 x5 M) := id rfl
theorem bq_L_law_1107 {β : Type} (k28 : (Int32) → Mem → Option (Int32 × Mem)) (x5 : Int32) (M : Mem) (f : Int32 × Mem → Option β) : (d_L_law_1107 k28 x5 M).bind f = Option.bind (
      d_L_law_2621 k28 x5 M) f := id rfl
theorem tq_L_law_1176 (k28 : (Int32) → Mem → Option (Int32 × Mem)) (x5 : Int32) (M : Mem) : d_L_law_1176 k28 x5 M = (
      d_L_law_2621 k28 x5 M) := id rfl
theorem bq_L_law_1176 {β : Type} (k28 : (Int32) → Mem → Option (Int32 × Mem)) (x5 : Int32) (M : Mem) (f : Int32 × Mem → Option β) : (d_L_law_1176 k28 x5 M).bind f = Option.bind (
      d_L_law_2621 k28 x5 M) f := id rfl
theorem tq_L_law_1243 (k28 : (Int32) → Mem → Option (Int32 × Mem)) (x5 : Int32) (M : Mem) : d_L_law_1243 k28 x5 M = (
      d_L_law_2621 k28 x5 M) := id rfl
theorem bq_L_law_1243 {β : Type} (k28 : (Int32) → Mem → Option (Int32 × Mem)) (x5 : Int32) (M : Mem) (f : Int32 × Mem → Option β) : (d_L_law_1243 k28 x5 M).bind f = Option.bind (
      d_L_law_2621 k28 x5 M) f := id rfl
theorem tq_L_law_1312 (k28 : (Int32) → Mem → Option (Int32 × Mem)) (x5 : Int32) (M : Mem) : d_L_law_1312 k28 x5 M = (
      d_L_law_2621 k28 x5 M) := id rfl
theorem bq_L_law_1312 {β : Type} (k28 : (Int32) → Mem → Option (Int32 × Mem)) (x5 : Int32) (M : Mem) (f : Int32 × Mem → Option β) : (d_L_law_1312 k28 x5 M).bind f = Option.bind (
      d_L_law_2621 k28 x5 M) f := id rfl
theorem tq_L_law_1380 (k28 : (Int32) → Mem → Option (Int32 × Mem)) (x5 : Int32) (M : Mem) : d_L_law_1380 k28 x5 M = (
      d_L_law_2621 k28 x5 M) := id rfl
theorem bq_L_law_1380 {β : Type} (k28 : (Int32) → Mem → Option (Int32 × Mem)) (x5 : Int32) (M : Mem) (f : Int32 × Mem → Option β) : (d_L_law_1380 k28 x5 M).bind f = Option.bind (
      d_L_law_2621 k28 x5 M) f := id rfl
theorem tq_L_law_1448 (k28 : (Int32) → Mem → Option (Int32 × Mem)) (x5 : Int32) (M : Mem) : d_L_law_1448 k28 x5 M = (
      d_L_law_2621 k28 x5 M) := id rfl
theorem bq_L_law_1448 {β : Type} (k28 : (Int32) → Mem → Option (Int32 × Mem)) (x5 : Int32) (M : Mem) (f : Int32 × Mem → Option β) : (d_L_law_1448 k28 x5 M).bind f = Option.bind (
      d_L_law_2621 k28 x5 M) f := id rfl
theorem tq_L_law_1516 (k28 : (Int32) → Mem → Option (Int32 × Mem)) (x5 : Int32) (M : Mem) : d_L_law_1516 k28 x5 M = (
      d_L_law_2621 k28 x5 M) := id rfl
theorem bq_L_law_1516 {β : Type} (k28 : (Int32) → Mem → Option (Int32 × Mem)) (x5 : Int32) (M : Mem) (f : Int32 × Mem → Option β) : (d_L_law_1516 k28 x5 M).bind f = Option.bind (
      d_L_law_2621 k28 x5 M) f := id rfl
theorem tq_L_law_1584 (k28 : (Int32) → Mem → Option (Int32 × Mem)) (x5 : Int32) (M : Mem) : d_L_law_1584 k28 x5 M = (
      d_L_law_2621 k28 x5 M) := id rfl
theorem bq_L_law_1584 {β : Type} (k28 : (Int32) → Mem → Option (Int32 × Mem)) (x5 : Int32) (M : Mem) (f : Int32 × Mem → Option β) : (d_L_law_1584 k28 x5 M).bind f = Option.bind (
      d_L_law_2621 k28 x5 M) f := id rfl
theorem tq_L_law_1652 (k28 : (Int32) → Mem → Option (Int32 × Mem)) (x5 : Int32) (M : Mem) : d_L_law_1652 k28 x5 M = (
      d_L_law_2621 k28 x5 M) := id rfl
theorem bq_L_law_1652 {β : Type} (k28 : (Int32) → Mem → Option (Int32 × Mem)) (x5 : Int32) (M : Mem) (f : Int32 × Mem → Option β) : (d_L_law_1652 k28 x5 M).bind f = Option.bind (
      d_L_law_2621 k28 x5 M) f := id rfl
theorem tq_L_law_1720 (k28 : (Int32) → Mem → Option (Int32 × Mem)) (x5 : Int32) (M : Mem) : d_L_law_1720 k28 x5 M = (
      d_L_law_2621 k28 x5 M) := id rfl
theorem bq_L_law_1720 {β : Type} (k28 : (Int32) → Mem → Option (Int32 × Mem)) (x5 : Int32) (M : Mem) (f : Int32 × Mem → Option β) : (d_L_law_1720 k28 x5 M).bind f = Option.bind (
      d_L_law_2621 k28 x5 M) f := id rfl
theorem tq_L_law_1795 (k28 : (Int32) → Mem → Option (Int32 × Mem)) (x5 : Int32) (M : Mem) : d_L_law_1795 k28 x5 M = (
      d_L_law_2621 k28 x5 M) := id rfl
theorem bq_L_law_1795 {β : Type} (k28 : (Int32) → Mem → Option (Int32 × Mem)) (x5 : Int32) (M : Mem) (f : Int32 × Mem → Option β) : (d_L_law_1795 k28 x5 M).bind f = Option.bind (
      d_L_law_2621 k28 x5 M) f := id rfl
theorem tq_L_law_1789 (k28 : (Int32) → Mem → Option (Int32 × Mem)) (x5 : Int32) (s0 : Int64) (s1 : Int64) (M : Mem) : d_L_law_1789 k28 x5 s0 s1 M = (
      if (lg_cmp s0 s1) = 0 then (
        d_L_law_1795 k28 x5 M)
      else (
        some ((0 : Int32), M))) := id rfl
theorem bq_L_law_1789 {β : Type} (k28 : (Int32) → Mem → Option (Int32 × Mem)) (x5 : Int32) (s0 : Int64) (s1 : Int64) (M : Mem) (f : Int32 × Mem → Option β) : (d_L_law_1789 k28 x5 s0 s1 M).bind f = Option.bind (
      if (lg_cmp s0 s1) = 0 then (
        d_L_law_1795 k28 x5 M)
      else (
        some ((0 : Int32), M))) f := id rfl
theorem tq_L_law_1871 (k28 : (Int32) → Mem → Option (Int32 × Mem)) (x5 : Int32) (M : Mem) : d_L_law_1871 k28 x5 M = (
      d_L_law_2621 k28 x5 M) := id rfl
theorem bq_L_law_1871 {β : Type} (k28 : (Int32) → Mem → Option (Int32 × Mem)) (x5 : Int32) (M : Mem) (f : Int32 × Mem → Option β) : (d_L_law_1871 k28 x5 M).bind f = Option.bind (
      d_L_law_2621 k28 x5 M) f := id rfl
theorem tq_L_law_1865 (k28 : (Int32) → Mem → Option (Int32 × Mem)) (x5 : Int32) (s0 : Int64) (s1 : Int64) (M : Mem) : d_L_law_1865 k28 x5 s0 s1 M = (
      if (lg_cmp s0 s1) = 0 then (
        d_L_law_1871 k28 x5 M)
      else (
        some ((0 : Int32), M))) := id rfl
theorem bq_L_law_1865 {β : Type} (k28 : (Int32) → Mem → Option (Int32 × Mem)) (x5 : Int32) (s0 : Int64) (s1 : Int64) (M : Mem) (f : Int32 × Mem → Option β) : (d_L_law_1865 k28 x5 s0 s1 M).bind f = Option.bind (
      if (lg_cmp s0 s1) = 0 then (
        d_L_law_1871 k28 x5 M)
      else (
        some ((0 : Int32), M))) f := id rfl
theorem tq_L_law_1927 (k28 : (Int32) → Mem → Option (Int32 × Mem)) (x5 : Int32) (M : Mem) : d_L_law_1927 k28 x5 M = (
      d_L_law_2621 k28 x5 M) := id rfl
theorem bq_L_law_1927 {β : Type} (k28 : (Int32) → Mem → Option (Int32 × Mem)) (x5 : Int32) (M : Mem) (f : Int32 × Mem → Option β) : (d_L_law_1927 k28 x5 M).bind f = Option.bind (
      d_L_law_2621 k28 x5 M) f := id rfl
theorem tq_L_law_1995 (k28 : (Int32) → Mem → Option (Int32 × Mem)) (x5 : Int32) (M : Mem) : d_L_law_1995 k28 x5 M = (
      d_L_law_2621 k28 x5 M) := id rfl
theorem bq_L_law_1995 {β : Type} (k28 : (Int32) → Mem → Option (Int32 × Mem)) (x5 : Int32) (M : Mem) (f : Int32 × Mem → Option β) : (d_L_law_1995 k28 x5 M).bind f = Option.bind (
      d_L_law_2621 k28 x5 M) f := id rfl
theorem tq_L_law_2051 (k28 : (Int32) → Mem → Option (Int32 × Mem)) (x5 : Int32) (M : Mem) : d_L_law_2051 k28 x5 M = (
      d_L_law_2621 k28 x5 M) := id rfl
theorem bq_L_law_2051 {β : Type} (k28 : (Int32) → Mem → Option (Int32 × Mem)) (x5 : Int32) (M : Mem) (f : Int32 × Mem → Option β) : (d_L_law_2051 k28 x5 M).bind f = Option.bind (
      d_L_law_2621 k28 x5 M) f := id rfl
theorem tq_L_law_2119 (k28 : (Int32) → Mem → Option (Int32 × Mem)) (x5 : Int32) (M : Mem) : d_L_law_2119 k28 x5 M = (
      d_L_law_2621 k28 x5 M) := id rfl
theorem bq_L_law_2119 {β : Type} (k28 : (Int32) → Mem → Option (Int32 × Mem)) (x5 : Int32) (M : Mem) (f : Int32 × Mem → Option β) : (d_L_law_2119 k28 x5 M).bind f = Option.bind (
      d_L_law_2621 k28 x5 M) f := id rfl
theorem tq_L_law_2187 (k28 : (Int32) → Mem → Option (Int32 × Mem)) (x5 : Int32) (M : Mem) : d_L_law_2187 k28 x5 M = (
      d_L_law_2621 k28 x5 M) := id rfl
theorem bq_L_law_2187 {β : Type} (k28 : (Int32) → Mem → Option (Int32 × Mem)) (x5 : Int32) (M : Mem) (f : Int32 × Mem → Option β) : (d_L_law_2187 k28 x5 M).bind f = Option.bind (
      d_L_law_2621 k28 x5 M) f := id rfl
theorem tq_L_law_2255 (k28 : (Int32) → Mem → Option (Int32 × Mem)) (x5 : Int32) (M : Mem) : d_L_law_2255 k28 x5 M = (
      d_L_law_2621 k28 x5 M) := id rfl
theorem bq_L_law_2255 {β : Type} (k28 : (Int32) → Mem → Option (Int32 × Mem)) (x5 : Int32) (M : Mem) (f : Int32 × Mem → Option β) : (d_L_law_2255 k28 x5 M).bind f = Option.bind (
      d_L_law_2621 k28 x5 M) f := id rfl
theorem tq_L_law_2323 (k28 : (Int32) → Mem → Option (Int32 × Mem)) (x5 : Int32) (M : Mem) : d_L_law_2323 k28 x5 M = (
      d_L_law_2621 k28 x5 M) := id rfl
theorem bq_L_law_2323 {β : Type} (k28 : (Int32) → Mem → Option (Int32 × Mem)) (x5 : Int32) (M : Mem) (f : Int32 × Mem → Option β) : (d_L_law_2323 k28 x5 M).bind f = Option.bind (
      d_L_law_2621 k28 x5 M) f := id rfl
theorem tq_L_law_2379 (k28 : (Int32) → Mem → Option (Int32 × Mem)) (x5 : Int32) (M : Mem) : d_L_law_2379 k28 x5 M = (
      d_L_law_2621 k28 x5 M) := id rfl
theorem bq_L_law_2379 {β : Type} (k28 : (Int32) → Mem → Option (Int32 × Mem)) (x5 : Int32) (M : Mem) (f : Int32 × Mem → Option β) : (d_L_law_2379 k28 x5 M).bind f = Option.bind (
      d_L_law_2621 k28 x5 M) f := id rfl
theorem tq_L_law_2435 (k28 : (Int32) → Mem → Option (Int32 × Mem)) (x5 : Int32) (M : Mem) : d_L_law_2435 k28 x5 M = (
      d_L_law_2621 k28 x5 M) := id rfl
theorem bq_L_law_2435 {β : Type} (k28 : (Int32) → Mem → Option (Int32 × Mem)) (x5 : Int32) (M : Mem) (f : Int32 × Mem → Option β) : (d_L_law_2435 k28 x5 M).bind f = Option.bind (
      d_L_law_2621 k28 x5 M) f := id rfl
theorem tq_L_law_2540 (k28 : (Int32) → Mem → Option (Int32 × Mem)) (x5 : Int32) (M : Mem) : d_L_law_2540 k28 x5 M = (
      d_L_law_2621 k28 x5 M) := id rfl
theorem bq_L_law_2540 {β : Type} (k28 : (Int32) → Mem → Option (Int32 × Mem)) (x5 : Int32) (M : Mem) (f : Int32 × Mem → Option β) : (d_L_law_2540 k28 x5 M).bind f = Option.bind (
      d_L_law_2621 k28 x5 M) f := id rfl
theorem tq_L_law_2605 (k28 : (Int32) → Mem → Option (Int32 × Mem)) (x5 : Int32) (M : Mem) : d_L_law_2605 k28 x5 M = (
      d_L_law_2621 k28 x5 M) := id rfl
theorem bq_L_law_2605 {β : Type} (k28 : (Int32) → Mem → Option (Int32 × Mem)) (x5 : Int32) (M : Mem) (f : Int32 × Mem → Option β) : (d_L_law_2605 k28 x5 M).bind f = Option.bind (
      d_L_law_2621 k28 x5 M) f := id rfl
theorem st_X12_init_560 (r0 : Nat) (N : Nat) (a : (Int32)) (M : Mem) : d_X12_init_560 r0 (N + 1) a M = d_X12_init_560b (d_X12_init_560 r0 N) r0 a M := id rfl
theorem st_X12_init_538 (r0 : Nat) (N : Nat) (a : (Int32)) (M : Mem) : d_X12_init_538 r0 (N + 1) a M = d_X12_init_538b (d_X12_init_538 r0 N) r0 a M := id rfl
theorem st_X12_init_517 (r0 : Nat) (N : Nat) (a : (Int32)) (M : Mem) : d_X12_init_517 r0 (N + 1) a M = d_X12_init_517b (d_X12_init_517 r0 N) r0 a M := id rfl
theorem st_X12_throwAway_2 (x1 : Int32) (N : Nat) (a : (Int32)) (M : Mem) : d_X12_throwAway_2 x1 (N + 1) a M = d_X12_throwAway_2b (d_X12_throwAway_2 x1 N) x1 a M := id rfl
theorem st_X12_throwsWith_20 (k5 : (Int32 × Int32) → Mem → Option (Int32 × Mem)) (x1 : Int32) (x2 : Int32) (x3 : Int32) (x4 : Int32) (N : Nat) (a : (Int32 × Int32)) (M : Mem) : d_X12_throwsWith_20 k5 x1 x2 x3 x4 (N + 1) a M = d_X12_throwsWith_20b k5 (d_X12_throwsWith_20 k5 x1 x2 x3 x4 N) x1 x2 x3 x4 a.1 a.2 M := id rfl
theorem st_X12_throwsWith_5 (x1 : Int32) (x2 : Int32) (N : Nat) (a : (Int32 × Int32)) (M : Mem) : d_X12_throwsWith_5 x1 x2 (N + 1) a M = d_X12_throwsWith_5b (d_X12_throwsWith_5 x1 x2 N) x1 x2 a.1 a.2 M := id rfl
theorem st_X12_setMethod_85 (N : Nat) (a : (Int32)) (M : Mem) : d_X12_setMethod_85 (N + 1) a M = d_X12_setMethod_85b (d_X12_setMethod_85 N) a M := id rfl
theorem st_X12_size_4 (N : Nat) (a : (Int32 × Int32)) (M : Mem) : d_X12_size_4 (N + 1) a M = d_X12_size_4b (d_X12_size_4 N) a.1 a.2 M := id rfl
theorem st_X12_oldest_4 (x1 : Int32) (N : Nat) (a : (Int32 × Int32)) (M : Mem) : d_X12_oldest_4 x1 (N + 1) a M = d_X12_oldest_4b (d_X12_oldest_4 x1 N) x1 a.1 a.2 M := id rfl
theorem st_X12_setLimits_61 (N : Nat) (a : (Int32)) (M : Mem) : d_X12_setLimits_61 (N + 1) a M = d_X12_setLimits_61b (d_X12_setLimits_61 N) a M := id rfl
theorem st_X12_methodOf_2 (x2 : Int32) (N : Nat) (a : (Int32)) (M : Mem) : d_X12_methodOf_2 x2 (N + 1) a M = d_X12_methodOf_2b (d_X12_methodOf_2 x2 N) x2 a M := id rfl
theorem st_X12_hasField_2 (x1 : Int32) (x2 : Int32) (N : Nat) (a : (Int32)) (M : Mem) : d_X12_hasField_2 x1 x2 (N + 1) a M = d_X12_hasField_2b (d_X12_hasField_2 x1 x2 N) x1 x2 a M := id rfl
theorem st_X12_shapeBehind_40 (x1 : Int32) (x2 : Int32) (x3 : Int32) (N : Nat) (a : (Int32)) (M : Mem) : d_X12_shapeBehind_40 x1 x2 x3 (N + 1) a M = d_X12_shapeBehind_40b (d_X12_shapeBehind_40 x1 x2 x3 N) x1 x2 x3 a M := id rfl
theorem st_X12_rootAt_2 (x1 : Int32) (N : Nat) (a : (Int32)) (M : Mem) : d_X12_rootAt_2 x1 (N + 1) a M = d_X12_rootAt_2b (d_X12_rootAt_2 x1 N) x1 a M := id rfl
theorem st_X12_bits_110 (x3 : Int64) (N : Nat) (a : (UInt64 × Int32)) (M : Mem) : d_X12_bits_110 x3 (N + 1) a M = d_X12_bits_110b (d_X12_bits_110 x3 N) x3 a.1 a.2 M := id rfl
theorem st_X12_bits_87 (x3 : Int64) (N : Nat) (a : (UInt64 × Int32)) (M : Mem) : d_X12_bits_87 x3 (N + 1) a M = d_X12_bits_87b (d_X12_bits_87 x3 N) x3 a.1 a.2 M := id rfl
theorem st_X12_records_57 (k45 : (Int32) → Mem → Option (Unit × Mem)) (x5 : Int32) (N : Nat) (a : (Int32)) (M : Mem) : d_X12_records_57 k45 x5 (N + 1) a M = d_X12_records_57b k45 (d_X12_records_57 k45 x5 N) x5 a M := id rfl
theorem st_X12_records_45 (N : Nat) (a : (Int32)) (M : Mem) : d_X12_records_45 (N + 1) a M = d_X12_records_45b (d_X12_records_45 N) a M := id rfl
theorem st_X12_ends_190 (x2 : Int32) (N : Nat) (a : (Int32)) (M : Mem) : d_X12_ends_190 x2 (N + 1) a M = d_X12_ends_190b (d_X12_ends_190 x2 N) x2 a M := id rfl
theorem st_X12_ends_157 (x2 : Int32) (N : Nat) (a : (Int32)) (M : Mem) : d_X12_ends_157 x2 (N + 1) a M = d_X12_ends_157b (d_X12_ends_157 x2 N) x2 a M := id rfl
theorem st_X12_ends_15 (N : Nat) (a : (Int32)) (M : Mem) : d_X12_ends_15 (N + 1) a M = d_X12_ends_15b (d_X12_ends_15 N) a M := id rfl
theorem st_X12_calls_79 (x2 : Int32) (x3 : Int32) (N : Nat) (a : (Int32)) (M : Mem) : d_X12_calls_79 x2 x3 (N + 1) a M = d_X12_calls_79b (d_X12_calls_79 x2 x3 N) x2 x3 a M := id rfl
theorem st_X12_puts_116 (x2 : Int32) (x6 : Int32) (N : Nat) (a : (Int32)) (M : Mem) : d_X12_puts_116 x2 x6 (N + 1) a M = d_X12_puts_116b (d_X12_puts_116 x2 x6 N) x2 x6 a M := id rfl
theorem st_X12_failsBy_19 (x1 : Int32) (N : Nat) (a : (Int32)) (M : Mem) : d_X12_failsBy_19 x1 (N + 1) a M = d_X12_failsBy_19b (d_X12_failsBy_19 x1 N) x1 a M := id rfl
theorem st_X12_looksUp_63 (x2 : Int32) (x5 : Int32) (N : Nat) (a : (Int32)) (M : Mem) : d_X12_looksUp_63 x2 x5 (N + 1) a M = d_X12_looksUp_63b (d_X12_looksUp_63 x2 x5 N) x2 x5 a M := id rfl
theorem st_X12_inTrace_15 (N : Nat) (a : (Int32)) (M : Mem) : d_X12_inTrace_15 (N + 1) a M = d_X12_inTrace_15b (d_X12_inTrace_15 N) a M := id rfl
theorem st_X12_run_148 (N : Nat) (a : Unit) (M : Mem) : d_X12_run_148 (N + 1) a M = d_X12_run_148b (d_X12_run_148 N) M := id rfl
theorem st_X12_run_82 (x2 : Int32) (N : Nat) (a : (Int32)) (M : Mem) : d_X12_run_82 x2 (N + 1) a M = d_X12_run_82b (d_X12_run_82 x2 N) x2 a M := id rfl
theorem st_X12_meanGuards_6 (N : Nat) (a : (Int32 × Int32 × Int32)) (M : Mem) : d_X12_meanGuards_6 (N + 1) a M = d_X12_meanGuards_6b (d_X12_meanGuards_6 N) a.1 a.2.1 a.2.2 M := id rfl
theorem st_X0_keeps_2 (x1 : Int32) (x2 : Int32) (N : Nat) (a : (Int32)) (M : Mem) : d_X0_keeps_2 x1 x2 (N + 1) a M = d_X0_keeps_2b (d_X0_keeps_2 x1 x2 N) x1 x2 a M := id rfl
theorem st_X0_emptyMethods_2 (N : Nat) (a : (Int32)) (M : Mem) : d_X0_emptyMethods_2 (N + 1) a M = d_X0_emptyMethods_2b (d_X0_emptyMethods_2 N) a M := id rfl
theorem st_X0_areSmall_4 (N : Nat) (a : (Int32 × Int32)) (M : Mem) : d_X0_areSmall_4 (N + 1) a M = d_X0_areSmall_4b (d_X0_areSmall_4 N) a.1 a.2 M := id rfl
theorem st_X1_init_26 (r0 : Nat) (r3 : Nat) (N : Nat) (a : (Int32)) (M : Mem) : d_X1_init_26 r0 r3 (N + 1) a M = d_X1_init_26b (d_X1_init_26 r0 r3 N) r0 r3 a M := id rfl
theorem st_X1_size_4 (N : Nat) (a : (Int32 × Int32)) (M : Mem) : d_X1_size_4 (N + 1) a M = d_X1_size_4b (d_X1_size_4 N) a.1 a.2 M := id rfl
theorem st_X1_countThere_4 (N : Nat) (a : (Int32 × Int32)) (M : Mem) : d_X1_countThere_4 (N + 1) a M = d_X1_countThere_4b (d_X1_countThere_4 N) a.1 a.2 M := id rfl
theorem st_X1_guardsThere_4 (N : Nat) (a : (Int32 × Int32)) (M : Mem) : d_X1_guardsThere_4 (N + 1) a M = d_X1_guardsThere_4b (d_X1_guardsThere_4 N) a.1 a.2 M := id rfl
theorem st_X1_hasRoots_4 (N : Nat) (a : (Int32 × Int32)) (M : Mem) : d_X1_hasRoots_4 (N + 1) a M = d_X1_hasRoots_4b (d_X1_hasRoots_4 N) a.1 a.2 M := id rfl
theorem st_X1_leastLatelyEntered_4 (x1 : Int32) (N : Nat) (a : (Int32 × Int32)) (M : Mem) : d_X1_leastLatelyEntered_4 x1 (N + 1) a M = d_X1_leastLatelyEntered_4b (d_X1_leastLatelyEntered_4 x1 N) x1 a.1 a.2 M := id rfl
theorem st_X1_throwTree_8 (x1 : Int32) (N : Nat) (a : (Int32)) (M : Mem) : d_X1_throwTree_8 x1 (N + 1) a M = d_X1_throwTree_8b (d_X1_throwTree_8 x1 N) x1 a M := id rfl
theorem st_X1_shrink_2 (N : Nat) (a : (Int32)) (M : Mem) : d_X1_shrink_2 (N + 1) a M = d_X1_shrink_2b (d_X1_shrink_2 N) a M := id rfl
theorem st_X1_makeRoom_2 (x1 : Int32) (x2 : Int32) (N : Nat) (a : (Int32)) (M : Mem) : d_X1_makeRoom_2 x1 x2 (N + 1) a M = d_X1_makeRoom_2b (d_X1_makeRoom_2 x1 x2 N) x1 x2 a M := id rfl
theorem st_X1_hasStep_6 (r1 : Nat) (x2 : Int32) (x3 : Int32) (N : Nat) (a : (Int32 × Int32)) (M : Mem) : d_X1_hasStep_6 r1 x2 x3 (N + 1) a M = d_X1_hasStep_6b (d_X1_hasStep_6 r1 x2 x3 N) r1 x2 x3 a.1 a.2 M := id rfl
theorem st_X1_throwThoseWith_5 (x1 : Int32) (x2 : Int32) (N : Nat) (a : (Int32 × Int32)) (M : Mem) : d_X1_throwThoseWith_5 x1 x2 (N + 1) a M = d_X1_throwThoseWith_5b (d_X1_throwThoseWith_5 x1 x2 N) x1 x2 a.1 a.2 M := id rfl
theorem st_J7_fill_53178_5 (r0 : Nat) (x1 : Int32) (x3 : Int32) (N : Nat) (a : (Int32)) (M : Mem) : d_J7_fill_53178_5 r0 x1 x3 (N + 1) a M = d_J7_fill_53178_5b (d_J7_fill_53178_5 r0 x1 x3 N) r0 x1 a x3 M := id rfl
theorem st_X3_addFrame_32 (o : Nat) (N : Nat) (a : (Int32)) (M : Mem) : d_X3_addFrame_32 o (N + 1) a M = d_X3_addFrame_32b (d_X3_addFrame_32 o N) o a M := id rfl
theorem st_X5_methodOf_5 (x2 : Int32) (N : Nat) (a : (Int32 × Int32)) (M : Mem) : d_X5_methodOf_5 x2 (N + 1) a M = d_X5_methodOf_5b (d_X5_methodOf_5 x2 N) x2 a.1 a.2 M := id rfl
theorem st_X3_failWith_17 (o : Nat) (x1 : Int32) (N : Nat) (a : (Int32)) (M : Mem) : d_X3_failWith_17 o x1 (N + 1) a M = d_X3_failWith_17b (d_X3_failWith_17 o x1 N) o x1 a M := id rfl
theorem st_X3_call_25 (o : Nat) (x2 : Int32) (x3 : Int32) (N : Nat) (a : (Int32)) (M : Mem) : d_X3_call_25 o x2 x3 (N + 1) a M = d_X3_call_25b (d_X3_call_25 o x2 x3 N) o x2 x3 a M := id rfl
theorem st_X7_addEmpty_28 (x2 : Int32) (N : Nat) (a : (Int32)) (M : Mem) : d_X7_addEmpty_28 x2 (N + 1) a M = d_X7_addEmpty_28b (d_X7_addEmpty_28 x2 N) x2 a M := id rfl
theorem st_X7_addLonger_14 (x1 : Int32) (x2 : Int32) (x3 : Int32) (N : Nat) (a : (Int32)) (M : Mem) : d_X7_addLonger_14 x1 x2 x3 (N + 1) a M = d_X7_addLonger_14b (d_X7_addLonger_14 x1 x2 x3 N) x1 x2 x3 a M := id rfl
theorem st_X4_rest_81 (x0 : UInt64) (x6 : UInt64) (N : Nat) (a : (UInt64 × UInt64 × Int32)) (M : Mem) : d_X4_rest_81 x0 x6 (N + 1) a M = d_X4_rest_81b (d_X4_rest_81 x0 x6 N) x0 a.1 x6 a.2.1 a.2.2 M := id rfl
theorem st_X4_rest_45 (x0 : UInt64) (x4 : UInt64) (x6 : UInt64) (N : Nat) (a : (UInt64 × Int32)) (M : Mem) : d_X4_rest_45 x0 x4 x6 (N + 1) a M = d_X4_rest_45b (d_X4_rest_45 x0 x4 x6 N) x0 x4 x6 a.1 a.2 M := id rfl
theorem st_X3_runOut_2 (o : Nat) (N : Nat) (a : (Int32)) (M : Mem) : d_X3_runOut_2 o (N + 1) a M = d_X3_runOut_2b (d_X3_runOut_2 o N) o a M := id rfl
theorem st_X3_hasToldLike_19 (N : Nat) (a : (Int32 × Int32)) (M : Mem) : d_X3_hasToldLike_19 (N + 1) a M = d_X3_hasToldLike_19b (d_X3_hasToldLike_19 N) a.1 a.2 M := id rfl
theorem st_X3_hasFieldsLike_5 (x1 : Int32) (N : Nat) (a : (Int32 × Int32)) (M : Mem) : d_X3_hasFieldsLike_5 x1 (N + 1) a M = d_X3_hasFieldsLike_5b (d_X3_hasFieldsLike_5 x1 N) x1 a.1 a.2 M := id rfl
theorem st_X3_hasObjectsLike_19 (N : Nat) (a : (Int32 × Int32)) (M : Mem) : d_X3_hasObjectsLike_19 (N + 1) a M = d_X3_hasObjectsLike_19b (d_X3_hasObjectsLike_19 N) a.1 a.2 M := id rfl
theorem st_X4_bitsOf_98 (x2 : Int64) (N : Nat) (a : (UInt64 × Int64 × Int32)) (M : Mem) : d_X4_bitsOf_98 x2 (N + 1) a M = d_X4_bitsOf_98b (d_X4_bitsOf_98 x2 N) x2 a.1 a.2.1 a.2.2 M := id rfl
theorem st_X4_bitsOf_58 (x2 : Int64) (N : Nat) (a : (UInt64 × Int64 × Int32)) (M : Mem) : d_X4_bitsOf_58 x2 (N + 1) a M = d_X4_bitsOf_58b (d_X4_bitsOf_58 x2 N) x2 a.1 a.2.1 a.2.2 M := id rfl
theorem st_X6_begin_28 (N : Nat) (a : (Int32)) (M : Mem) : d_X6_begin_28 (N + 1) a M = d_X6_begin_28b (d_X6_begin_28 N) a M := id rfl
theorem st_X6_forgetOtherShapes_22 (N : Nat) (a : (Int32)) (M : Mem) : d_X6_forgetOtherShapes_22 (N + 1) a M = d_X6_forgetOtherShapes_22b (d_X6_forgetOtherShapes_22 N) a M := id rfl
theorem st_X6_noteBehind_62 (x3 : Int32) (N : Nat) (a : (Int32)) (M : Mem) : d_X6_noteBehind_62 x3 (N + 1) a M = d_X6_noteBehind_62b (d_X6_noteBehind_62 x3 N) x3 a M := id rfl
theorem st_X7_takeBack_2 (x1 : Int32) (N : Nat) (a : (Int32)) (M : Mem) : d_X7_takeBack_2 x1 (N + 1) a M = d_X7_takeBack_2b (d_X7_takeBack_2 x1 N) x1 a M := id rfl
theorem st_X10_turnInTrace_41 (N : Nat) (a : (Int32)) (M : Mem) : d_X10_turnInTrace_41 (N + 1) a M = d_X10_turnInTrace_41b (d_X10_turnInTrace_41 N) a M := id rfl
theorem st_X11_run_78 (N : Nat) (a : (Int32)) (M : Mem) : d_X11_run_78 (N + 1) a M = d_X11_run_78b (d_X11_run_78 N) a M := id rfl
theorem st_L_law_28 (N : Nat) (a : (Int32)) (M : Mem) : d_L_law_28 (N + 1) a M = d_L_law_28b (d_L_law_28 N) a M := id rfl
end MBQ
