def F_X7_in_15  (u : Mem) (y0 : Int32) : Option (Int32 × Mem) :=
  gz y0 <|
  some (y0, u)
def F_X7_in_14  (u : Mem)  : Option (Int32 × Mem) :=
  F_X7_in_15 u (0 : Int32)
def F_X7_in  (u : Mem) (x0 : Int32) (x1 : Int32) (x2 : Int32) : Option (Int32 × Mem) :=
  if x0 < x1 then (
    F_X7_in_14 u
  ) else (
    if x2 < x0 then (
      F_X7_in_14 u
    ) else (
      F_X7_in_15 u (1 : Int32)
    )
  )
def F_X7_isKind  (u : Mem) (x0 : Int32) : Option (Int32 × Mem) :=
  bdI (F_X7_in u x0 (0 : Int32) (5 : Int32)) fun r2 u1 =>
  gz r2 <|
  some (r2, u1)
def F_X7_finds  (u : Mem) (x1 : Int32) : Option (Int32 × Mem) :=
  gd ((-1000000001 : Int32) - x1) 7 <|
  gd ((-1000000001 : Int32) - x1) 7 <|
  bdV (some (sI u 3 ((-1000000001 : Int32) - x1).toNatClampNeg ((u.1 3 ((-1000000001 : Int32) - x1).toNatClampNeg) + (1 : Int32)))) fun u3 =>
  some (x1, u3)
def F_X7_sets  (u : Mem) (x1 : Int32) (x2 : Int32) (x3 : Int32) : Option Mem :=
  gd (((2 : Int32) + ((4 : Int32) * x1)) + x2) 50 <|
  some (sI u 1 (((2 : Int32) + ((4 : Int32) * x1)) + x2).toNatClampNeg x3)
def F_X7_addPrint  (u : Mem) (x1 : Int32) (x2 : Int64) (x4 : Int32) (x5 : Int32) (x6 : Int32) : Option Mem :=
  gd (0 : Int32) 50 <|
  gd (u.1 1 (0 : Int32).toNatClampNeg) 12 <|
  bdV (some (sL u 2 (u.1 1 (0 : Int32).toNatClampNeg).toNatClampNeg (x2 &&& (1099511627775 : Int64)))) fun u3 =>
  bdV (F_X7_sets u3 (u.1 1 (0 : Int32).toNatClampNeg) (0 : Int32) x1) fun u5 =>
  bdV (F_X7_sets u5 (u.1 1 (0 : Int32).toNatClampNeg) (1 : Int32) x4) fun u8 =>
  bdV (F_X7_sets u8 (u.1 1 (0 : Int32).toNatClampNeg) (2 : Int32) x5) fun u11 =>
  bdV (F_X7_sets u11 (u.1 1 (0 : Int32).toNatClampNeg) (3 : Int32) x6) fun u14 =>
  gd (0 : Int32) 50 <|
  gd (0 : Int32) 50 <|
  bdV (some (sI u14 1 (0 : Int32).toNatClampNeg ((u14.1 1 (0 : Int32).toNatClampNeg) + (1 : Int32)))) fun u19 =>
  some u19
def F_X7_print  (u : Mem) (x1 : Int32) (x2 : Int64) : Option (Int32 × Mem) :=
  bdI (F_X7_isKind u x1) fun r2 u1 =>
  if r2 = 0 then (
    bdI (F_X7_finds u1 (-1000000001 : Int32)) fun r15 u14 =>
    some (r15, u14)
  ) else (
    gd (0 : Int32) 50 <|
    if (u1.1 1 (0 : Int32).toNatClampNeg) = (12 : Int32) then (
      bdI (F_X7_finds u1 (-1000000002 : Int32)) fun r12 u11 =>
      some (r12, u11)
    ) else (
      bdV (F_X7_addPrint u1 x1 x2 (1000 : Int32) (0 : Int32) (0 : Int32)) fun u7 =>
      gd (0 : Int32) 50 <|
      some (((u7.1 1 (0 : Int32).toNatClampNeg) - (1 : Int32)), u7)
    )
  )
def F_X7_isPrint  (u : Mem) (x1 : Int32) : Option (Int32 × Mem) :=
  gd (0 : Int32) 50 <|
  bdI (F_X7_in u x1 (0 : Int32) ((u.1 1 (0 : Int32).toNatClampNeg) - (1 : Int32))) fun r3 u2 =>
  gz r3 <|
  some (r3, u2)
def F_X7_its  (u : Mem) (x1 : Int32) (x2 : Int32) : Option (Int32 × Mem) :=
  gd (((2 : Int32) + ((4 : Int32) * x1)) + x2) 50 <|
  some ((u.1 1 (((2 : Int32) + ((4 : Int32) * x1)) + x2).toNatClampNeg), u)
def F_X7_trueWidth_89  (u : Mem) (v2 : Int32) : Option (Int32 × Mem) :=
  some (v2, u)
def F_X7_trueWidth  (u : Mem) (x1 : Int32) : Option (Int32 × Mem) :=
  bdI (F_X7_its u x1 (1 : Int32)) fun r2 u1 =>
  bdI (F_X7_its u1 x1 (0 : Int32)) fun r5 u4 =>
  if r5 = 1 then (
    some ((((100 : Int32) * r2) / (90 : Int32)), u4)
  ) else (
    if r5 = 2 then (
      some ((((100 : Int32) * r2) / (97 : Int32)), u4)
    ) else (
      if r5 = 3 then (
        some (((((100 : Int32) * r2) / (97 : Int32)) + (10 : Int32)), u4)
      ) else (
        if r5 = 4 then (
          F_X7_trueWidth_89 u4 r2
        ) else (
          if r5 = 5 then (
            some ((((100 : Int32) * (((100 : Int32) * r2) / (90 : Int32))) / (80 : Int32)), u4)
          ) else (
            F_X7_trueWidth_89 u4 r2
  )))))
def F_X7_hides_60  (u : Mem) (y0 : Int64) (y1 : Int64) : Option (Int64 × Mem) :=
  some ((y0 ||| y1), u)
def F_X7_hides_46  (u : Mem) (v4 : Int32) (y0 : Int64) (y1 : Int64) : Option (Int64 × Mem) :=
  if v4 = (5 : Int32) then (
    F_X7_hides_60 u (y0 ||| y1) (1099510579200 : Int64)
  ) else (
    F_X7_hides_60 u (y0 ||| y1) (0 : Int64)
  )
def F_X7_hides_39  (u : Mem) (v4 : Int32) (y0 : Int64) : Option (Int64 × Mem) :=
  F_X7_hides_46 u v4 y0 (733007751850 : Int64)
def F_X7_hides_17  (u : Mem) (v1 : Int32) (y0 : Int64) : Option (Int64 × Mem) :=
  bdI (F_X7_its u v1 (0 : Int32)) fun r3 u2 =>
  if r3 = (1 : Int32) then (
    F_X7_hides_39 u2 r3 y0
  ) else (
    if r3 = (5 : Int32) then (
      F_X7_hides_39 u2 r3 y0
    ) else (
      F_X7_hides_46 u2 r3 y0 (0 : Int64)
    )
  )
def F_X7_hides  (u : Mem) (x1 : Int32) : Option (Int64 × Mem) :=
  bdI (F_X7_its u x1 (3 : Int32)) fun r8 u7 =>
  if r8 = (1 : Int32) then (
    F_X7_hides_17 u7 x1 (0 : Int64)
  ) else (
    F_X7_hides_17 u7 x1 (1098437885952 : Int64)
  )
def F_X7_shows  (u : Mem) (x1 : Int32) : Option (Int64 × Mem) :=
  gd x1 12 <|
  bdL (F_X7_hides u x1) fun r3 u2 =>
  some (((u.2 2 x1.toNatClampNeg) &&& (r3 ^^^ (-1 : Int64))), u2)
def F_X7_many_4  : Nat → Mem → Int32 → Int64 → Option (Int32 × Mem)
  | 0, _, _, _ => none
  | n + 1, u, v2, v3 =>
    if (lg_cmp v3 (0 : Int64)) = 0 then (
      some (v2, u)
    ) else (
      F_X7_many_4 n u (v2 + 1) (v3 &&& (v3 - (1 : Int64)))
    )
def F_X7_many  (u : Mem) (x0 : Int64) : Option (Int32 × Mem) :=
  F_X7_many_4 fu u (0 : Int32) x0
def F_X7_of_17  (u : Mem)  : Option (Int32 × Mem) :=
  bdI (F_X7_finds u (-1000000001 : Int32)) fun r2 u1 =>
  some (r2, u1)
def F_X7_of_59  (u : Mem) (y0 : Int32) : Option (Int32 × Mem) :=
  some (y0, u)
def F_X7_of  (u : Mem) (x1 : Int32) (x2 : Int32) : Option (Int32 × Mem) :=
  bdI (F_X7_isPrint u x1) fun r5 u4 =>
  if r5 = 0 then (
    F_X7_of_17 u4
  ) else (
    bdI (F_X7_in u4 x2 (0 : Int32) (5 : Int32)) fun r9 u8 =>
    if r9 = 0 then (
      F_X7_of_17 u8
    ) else (
      if (4 : Int32) ≤ x2 then (
        if x2 = (4 : Int32) then (
          bdI (F_X7_trueWidth u8 x1) fun r21 u20 =>
          F_X7_of_59 u20 r21
        ) else (
          bdL (F_X7_shows u8 x1) fun r15 u14 =>
          bdI (F_X7_many u14 r15) fun r18 u17 =>
          F_X7_of_59 u17 r18
        )
      ) else (
        bdI (F_X7_its u8 x1 x2) fun r24 u23 =>
        F_X7_of_59 u23 r24
      )
    )
  )
def F_X7_marks_17  (u : Mem)  : Option (Int64 × Mem) :=
  bdI (F_X7_finds u (-1000000001 : Int32)) fun r2 u1 =>
  some (r2.toInt64, u1)
def F_X7_marks_56  (u : Mem) (y0 : Int64) : Option (Int64 × Mem) :=
  some (y0, u)
def F_X7_marks  (u : Mem) (x1 : Int32) (x2 : Int32) : Option (Int64 × Mem) :=
  bdI (F_X7_isPrint u x1) fun r5 u4 =>
  if r5 = 0 then (
    F_X7_marks_17 u4
  ) else (
    bdI (F_X7_in u4 x2 (0 : Int32) (2 : Int32)) fun r9 u8 =>
    if r9 = 0 then (
      F_X7_marks_17 u8
    ) else (
      if x2 = 0 then (
        gd x1 12 <|
        F_X7_marks_56 u8 (u8.2 2 x1.toNatClampNeg)
      ) else (
        if x2 = (1 : Int32) then (
          bdL (F_X7_shows u8 x1) fun r18 u17 =>
          F_X7_marks_56 u17 r18
        ) else (
          bdL (F_X7_hides u8 x1) fun r15 u14 =>
          F_X7_marks_56 u14 r15
        )
      )
    )
  )
def F_X7_isTold_37  (u : Mem) (y0 : Int32) : Option (Int32 × Mem) :=
  gz y0 <|
  some (y0, u)
def F_X7_isTold_36  (u : Mem)  : Option (Int32 × Mem) :=
  F_X7_isTold_37 u (0 : Int32)
def F_X7_isTold  (u : Mem) (x0 : Int32) (x1 : Int32) : Option (Int32 × Mem) :=
  if x0 = (1 : Int32) then (
    bdI (F_X7_in u x1 (1 : Int32) (9999 : Int32)) fun r9 u8 =>
    F_X7_isTold_37 u8 r9
  ) else (
    if x0 = (2 : Int32) then (
      bdI (F_X7_in u x1 (0 : Int32) (2000 : Int32)) fun r5 u4 =>
      if r5 = 0 then (
        F_X7_isTold_36 u4
      ) else (
        F_X7_isTold_37 u4 (1 : Int32)
      )
    ) else (
      F_X7_isTold_36 u
    )
  )
def F_X7_set_16  (u : Mem)  : Option (Int32 × Mem) :=
  bdI (F_X7_finds u (-1000000001 : Int32)) fun r2 u1 =>
  some (r2, u1)
def F_X7_set  (u : Mem) (x1 : Int32) (x2 : Int32) (x3 : Int32) : Option (Int32 × Mem) :=
  bdI (F_X7_isPrint u x1) fun r5 u4 =>
  if r5 = 0 then (
    F_X7_set_16 u4
  ) else (
    bdI (F_X7_isTold u4 x2 x3) fun r9 u8 =>
    if r9 = 0 then (
      F_X7_set_16 u8
    ) else (
      bdI (F_X7_its u8 x1 x2) fun r13 u12 =>
      bdV (F_X7_sets u12 x1 x2 x3) fun u15 =>
      some (r13, u15)
    )
  )
def F_X7_scratch_18  (u : Mem)  : Option (Int32 × Mem) :=
  bdI (F_X7_finds u (-1000000001 : Int32)) fun r2 u1 =>
  some (r2, u1)
def F_X7_scratch_79  (u : Mem) (y0 : Int32) : Option (Int32 × Mem) :=
  some (y0, u)
def F_X7_scratch_61  (u : Mem) (v1 : Int32) (v4 : Int64) (y1 : Int32) (y2 : Int64) : Option (Int32 × Mem) :=
  gd y1 12 <|
  gd v1 12 <|
  if (lg_cmp ((sL u 2 y1.toNatClampNeg y2).2 2 v1.toNatClampNeg) v4) = 0 then (
    F_X7_scratch_79 (sL u 2 y1.toNatClampNeg y2) (0 : Int32)
  ) else (
    F_X7_scratch_79 (sL u 2 y1.toNatClampNeg y2) (1 : Int32)
  )
def F_X7_scratch  (u : Mem) (x1 : Int32) (x2 : Int32) (x3 : Int32) : Option (Int32 × Mem) :=
  bdI (F_X7_isPrint u x1) fun r8 u7 =>
  if r8 = 0 then (
    F_X7_scratch_18 u7
  ) else (
    bdI (F_X7_in u7 x2 (0 : Int32) (39 : Int32)) fun r12 u11 =>
    if r12 = 0 then (
      F_X7_scratch_18 u11
    ) else (
      gd x1 12 <|
      if x3 = 0 then (
        F_X7_scratch_61 u11 x1 (u11.2 2 x1.toNatClampNeg) x1 ((u11.2 2 x1.toNatClampNeg) &&& (((1 : Int64) <<< (x2.toInt64 &&& 63)) ^^^ (-1 : Int64)))
      ) else (
        F_X7_scratch_61 u11 x1 (u11.2 2 x1.toNatClampNeg) x1 ((u11.2 2 x1.toNatClampNeg) ||| ((1 : Int64) <<< (x2.toInt64 &&& 63)))
      )
    )
  )
def F_X7_look  (u : Mem) (x1 : Int32) : Option (Int32 × Mem) :=
  bdI (F_X7_isPrint u x1) fun r2 u1 =>
  if r2 = 0 then (
    bdI (F_X7_finds u1 (-1000000001 : Int32)) fun r12 u11 =>
    some (r12, u11)
  ) else (
    bdI (F_X7_its u1 x1 (3 : Int32)) fun r6 u5 =>
    bdV (F_X7_sets u5 x1 (3 : Int32) (1 : Int32)) fun u8 =>
    some (((1 : Int32) - r6), u8)
  )
def F_X7_turn_15  (u : Mem)  : Option (Int32 × Mem) :=
  bdI (F_X7_finds u (-1000000001 : Int32)) fun r2 u1 =>
  some (r2, u1)
def F_X7_turn  (u : Mem) (x1 : Int32) (x2 : Int32) : Option (Int32 × Mem) :=
  bdI (F_X7_isPrint u x1) fun r5 u4 =>
  if r5 = 0 then (
    F_X7_turn_15 u4
  ) else (
    bdI (F_X7_isKind u4 x2) fun r9 u8 =>
    if r9 = 0 then (
      F_X7_turn_15 u8
    ) else (
      bdI (F_X7_its u8 x1 (0 : Int32)) fun r13 u12 =>
      bdV (F_X7_sets u12 x1 (0 : Int32) x2) fun u15 =>
      some (r13, u15)
    )
  )
def F_X7_isUnder_34  (u : Mem) (y0 : Int32) : Option (Int32 × Mem) :=
  gz y0 <|
  some (y0, u)
def F_X7_isUnder_29  (u : Mem)  : Option (Int32 × Mem) :=
  F_X7_isUnder_34 u (1 : Int32)
def F_X7_isUnder_33  (u : Mem)  : Option (Int32 × Mem) :=
  F_X7_isUnder_34 u (0 : Int32)
def F_X7_isUnder_19  (u : Mem) (v0 : Int32) (v1 : Int32) : Option (Int32 × Mem) :=
  if v1 = (2 : Int32) then (
    if v0 = (3 : Int32) then (
      F_X7_isUnder_29 u
    ) else (
      F_X7_isUnder_33 u
    )
  ) else (
    F_X7_isUnder_33 u
  )
def F_X7_isUnder  (u : Mem) (x0 : Int32) (x1 : Int32) : Option (Int32 × Mem) :=
  if x1 = 0 then (
    F_X7_isUnder_29 u
  ) else (
    if x1 = x0 then (
      F_X7_isUnder_29 u
    ) else (
      if x1 = (1 : Int32) then (
        if x0 = (5 : Int32) then (
          F_X7_isUnder_29 u
        ) else (
          F_X7_isUnder_19 u x0 x1
        )
      ) else (
        F_X7_isUnder_19 u x0 x1
      )
    )
  )
def F_X7_as_15  (u : Mem)  : Option (Int32 × Mem) :=
  bdI (F_X7_finds u (-1000000001 : Int32)) fun r2 u1 =>
  some (r2, u1)
def F_X7_as_50  (u : Mem) (y0 : Int32) : Option (Int32 × Mem) :=
  some (y0, u)
def F_X7_as  (u : Mem) (x1 : Int32) (x2 : Int32) : Option (Int32 × Mem) :=
  bdI (F_X7_isPrint u x1) fun r5 u4 =>
  if r5 = 0 then (
    F_X7_as_15 u4
  ) else (
    bdI (F_X7_isKind u4 x2) fun r9 u8 =>
    if r9 = 0 then (
      F_X7_as_15 u8
    ) else (
      bdI (F_X7_its u8 x1 (0 : Int32)) fun r13 u12 =>
      bdI (F_X7_isUnder u12 r13 x2) fun r16 u15 =>
      if r16 = 0 then (
        bdI (F_X7_finds u15 (-1000000003 : Int32)) fun r20 u19 =>
        F_X7_as_50 u19 r20
      ) else (
        bdI (F_X7_its u15 x1 (2 : Int32)) fun r23 u22 =>
        F_X7_as_50 u22 r23
      )
    )
  )
def F_X7_slack  (u : Mem) (x1 : Int32) : Option (Int32 × Mem) :=
  bdI (F_X7_in u x1 (0 : Int32) (999 : Int32)) fun r2 u1 =>
  if r2 = 0 then (
    bdI (F_X7_finds u1 (-1000000001 : Int32)) fun r8 u7 =>
    some (r8, u7)
  ) else (
    gd (1 : Int32) 50 <|
    gd (1 : Int32) 50 <|
    some ((u1.1 1 (1 : Int32).toNatClampNeg), (sI u1 1 (1 : Int32).toNatClampNeg x1))
  )
def F_X7_areTwo_26  (u : Mem) (y0 : Int32) : Option (Int32 × Mem) :=
  gz y0 <|
  some (y0, u)
def F_X7_areTwo_25  (u : Mem)  : Option (Int32 × Mem) :=
  F_X7_areTwo_26 u (0 : Int32)
def F_X7_areTwo  (u : Mem) (x1 : Int32) (x2 : Int32) : Option (Int32 × Mem) :=
  bdI (F_X7_isPrint u x1) fun r3 u2 =>
  if r3 = 0 then (
    F_X7_areTwo_25 u2
  ) else (
    bdI (F_X7_isPrint u2 x2) fun r7 u6 =>
    if r7 = 0 then (
      F_X7_areTwo_25 u6
    ) else (
      if x1 = x2 then (
        F_X7_areTwo_25 u6
      ) else (
        F_X7_areTwo_26 u6 (1 : Int32)
      )
    )
  )
def F_X7_marksAllow_41  (u : Mem) (y0 : Int32) : Option (Int32 × Mem) :=
  gz y0 <|
  some (y0, u)
def F_X7_marksAllow_36  (u : Mem)  : Option (Int32 × Mem) :=
  F_X7_marksAllow_41 u (1 : Int32)
def F_X7_marksAllow  (u : Mem) (x1 : Int32) (x2 : Int32) : Option (Int32 × Mem) :=
  bdI (F_X7_its u x2 (0 : Int32)) fun r3 u2 =>
  if r3 = (4 : Int32) then (
    F_X7_marksAllow_36 u2
  ) else (
    bdL (F_X7_shows u2 x1) fun r7 u6 =>
    bdL (F_X7_shows u6 x2) fun r10 u9 =>
    bdL (F_X7_hides u9 x2) fun r13 u12 =>
    if (lg_cmp (r7 &&& ((r10 ||| r13) ^^^ (-1 : Int64))) (0 : Int64)) = 0 then (
      F_X7_marksAllow_36 u12
    ) else (
      F_X7_marksAllow_41 u12 (0 : Int32)
    )
  )
def F_X7_apartBy_22  (u : Mem) (y0 : Int32) : Option (Int32 × Mem) :=
  some (y0, u)
def F_X7_apartBy  (u : Mem) (x1 : Int32) (x2 : Int32) : Option (Int32 × Mem) :=
  bdI (F_X7_trueWidth u x1) fun r2 u1 =>
  bdI (F_X7_trueWidth u1 x2) fun r5 u4 =>
  if 0 ≤ (r2 - r5) then (
    F_X7_apartBy_22 u4 (r2 - r5)
  ) else (
    F_X7_apartBy_22 u4 (-(r2 - r5))
  )
def F_X7_canBe_29  (u : Mem) (y0 : Int32) : Option (Int32 × Mem) :=
  gz y0 <|
  some (y0, u)
def F_X7_canBe_28  (u : Mem)  : Option (Int32 × Mem) :=
  F_X7_canBe_29 u (0 : Int32)
def F_X7_canBe  (u : Mem) (x1 : Int32) (x2 : Int32) : Option (Int32 × Mem) :=
  bdI (F_X7_marksAllow u x1 x2) fun r3 u2 =>
  if r3 = 0 then (
    F_X7_canBe_28 u2
  ) else (
    bdI (F_X7_apartBy u2 x1 x2) fun r7 u6 =>
    gd (1 : Int32) 50 <|
    if (u6.1 1 (1 : Int32).toNatClampNeg) < r7 then (
      F_X7_canBe_28 u6
    ) else (
      F_X7_canBe_29 u6 (1 : Int32)
    )
  )
def F_X7_ahead_30  (u : Mem) (y0 : Int32) : Option (Int32 × Mem) :=
  some (y0, u)
def F_X7_ahead  (u : Mem) (x1 : Int32) (x2 : Int32) : Option (Int32 × Mem) :=
  bdI (F_X7_areTwo u x1 x2) fun r2 u1 =>
  if r2 = 0 then (
    bdI (F_X7_finds u1 (-1000000001 : Int32)) fun r10 u9 =>
    some (r10, u9)
  ) else (
    bdI (F_X7_canBe u1 x1 x2) fun r6 u5 =>
    if r6 = 0 then (
      F_X7_ahead_30 u5 (0 : Int32)
    ) else (
      F_X7_ahead_30 u5 (1 : Int32)
    )
  )
def F_X7_order_44  (u : Mem) (y0 : Int32) (y1 : Int32) : Option (Int32 × Mem) :=
  some ((y0 + y1), u)
def F_X7_order_30  (u : Mem) (v1 : Int32) (v2 : Int32) (y0 : Int32) : Option (Int32 × Mem) :=
  bdI (F_X7_canBe u v2 v1) fun r2 u1 =>
  if r2 = 0 then (
    F_X7_order_44 u1 y0 (0 : Int32)
  ) else (
    F_X7_order_44 u1 y0 (2 : Int32)
  )
def F_X7_order  (u : Mem) (x1 : Int32) (x2 : Int32) : Option (Int32 × Mem) :=
  bdI (F_X7_areTwo u x1 x2) fun r6 u5 =>
  if r6 = 0 then (
    bdI (F_X7_finds u5 (-1000000001 : Int32)) fun r14 u13 =>
    some (r14, u13)
  ) else (
    bdI (F_X7_canBe u5 x1 x2) fun r10 u9 =>
    if r10 = 0 then (
      F_X7_order_30 u9 x1 x2 (0 : Int32)
    ) else (
      F_X7_order_30 u9 x1 x2 (1 : Int32)
    )
  )
def F_X7_alike  (u : Mem) (x1 : Int32) (x2 : Int32) : Option (Int32 × Mem) :=
  bdI (F_X7_areTwo u x1 x2) fun r2 u1 =>
  if r2 = 0 then (
    bdI (F_X7_finds u1 (-1000000001 : Int32)) fun r21 u20 =>
    some (r21, u20)
  ) else (
    bdL (F_X7_hides u1 x1) fun r6 u5 =>
    bdL (F_X7_hides u5 x2) fun r9 u8 =>
    bdL (F_X7_shows u8 x1) fun r12 u11 =>
    bdL (F_X7_shows u11 x2) fun r15 u14 =>
    bdI (F_X7_many u14 (((1099511627775 : Int64) &&& ((r6 ||| r9) ^^^ (-1 : Int64))) &&& ((r12 ^^^ r15) ^^^ (-1 : Int64)))) fun r18 u17 =>
    some (r18, u17)
  )
def F_X7_slackFor_71  (u : Mem) (y0 : Int32) : Option (Int32 × Mem) :=
  some (y0, u)
def F_X7_slackFor_65  (u : Mem)  : Option (Int32 × Mem) :=
  bdI (F_X7_finds u (-1000000004 : Int32)) fun r2 u1 =>
  F_X7_slackFor_71 u1 r2
def F_X7_slackFor_39  (u : Mem) (v1 : Int32) (v2 : Int32) (y0 : Int32) : Option (Int32 × Mem) :=
  bdI (F_X7_apartBy u v1 v2) fun r5 u4 =>
  if y0 = 0 then (
    F_X7_slackFor_65 u4
  ) else (
    if (999 : Int32) < r5 then (
      F_X7_slackFor_65 u4
    ) else (
      F_X7_slackFor_71 u4 r5
    )
  )
def F_X7_slackFor_34  (u : Mem) (v1 : Int32) (v2 : Int32) : Option (Int32 × Mem) :=
  F_X7_slackFor_39 u v1 v2 (1 : Int32)
def F_X7_slackFor  (u : Mem) (x1 : Int32) (x2 : Int32) : Option (Int32 × Mem) :=
  bdI (F_X7_areTwo u x1 x2) fun r10 u9 =>
  if r10 = 0 then (
    bdI (F_X7_finds u9 (-1000000001 : Int32)) fun r22 u21 =>
    some (r22, u21)
  ) else (
    bdI (F_X7_marksAllow u9 x1 x2) fun r14 u13 =>
    if r14 = 0 then (
      bdI (F_X7_marksAllow u13 x2 x1) fun r18 u17 =>
      if r18 = 0 then (
        F_X7_slackFor_39 u17 x1 x2 (0 : Int32)
      ) else (
        F_X7_slackFor_34 u17 x1 x2
      )
    ) else (
      F_X7_slackFor_34 u13 x1 x2
    )
  )
def F_X7_came  (u : Mem) (x1 : Int32) (x2 : Int32) : Option (Int32 × Mem) :=
  bdI (F_X7_areTwo u x1 x2) fun r2 u1 =>
  if r2 = 0 then (
    bdI (F_X7_finds u1 (-1000000001 : Int32)) fun r25 u24 =>
    some (r25, u24)
  ) else (
    bdI (F_X7_canBe u1 x1 x2) fun r6 u5 =>
    if r6 = 0 then (
      bdI (F_X7_finds u5 (-1000000005 : Int32)) fun r22 u21 =>
      some (r22, u21)
    ) else (
      bdL (F_X7_shows u5 x2) fun r10 u9 =>
      bdL (F_X7_shows u9 x1) fun r13 u12 =>
      bdL (F_X7_hides u12 x1) fun r16 u15 =>
      bdI (F_X7_many u15 (r10 &&& ((r13 ||| r16) ^^^ (-1 : Int64)))) fun r19 u18 =>
      some (r19, u18)
    )
  )
def F_X7_isSet  (u : Mem) (x1 : Int32) : Option (Int32 × Mem) :=
  gd (0 : Int32) 50 <|
  bdI (F_X7_in u x1 (0 : Int32) (((1 : Int32) <<< ((u.1 1 (0 : Int32).toNatClampNeg) &&& 31)) - (1 : Int32))) fun r3 u2 =>
  gz r3 <|
  some (r3, u2)
def F_X7_isEarlier_40  (u : Mem) (y0 : Int32) : Option (Int32 × Mem) :=
  gz y0 <|
  some (y0, u)
def F_X7_isEarlier_35  (u : Mem)  : Option (Int32 × Mem) :=
  F_X7_isEarlier_40 u (1 : Int32)
def F_X7_isEarlier_39  (u : Mem)  : Option (Int32 × Mem) :=
  F_X7_isEarlier_40 u (0 : Int32)
def F_X7_isEarlier  (u : Mem) (x1 : Int32) (x2 : Int32) : Option (Int32 × Mem) :=
  bdI (F_X7_its u x1 (2 : Int32)) fun r3 u2 =>
  bdI (F_X7_its u2 x2 (2 : Int32)) fun r6 u5 =>
  if r3 < r6 then (
    F_X7_isEarlier_35 u5
  ) else (
    bdI (F_X7_its u5 x1 (2 : Int32)) fun r10 u9 =>
    bdI (F_X7_its u9 x2 (2 : Int32)) fun r13 u12 =>
    if r10 = r13 then (
      if x2 ≤ x1 then (
        F_X7_isEarlier_39 u12
      ) else (
        F_X7_isEarlier_35 u12
      )
    ) else (
      F_X7_isEarlier_39 u12
    )
  )
def F_X7_findCan_76 (k16 : Mem → Int32 → Int32 → Int32 → Option Mem) (u : Mem) (v1 : Int32) (v3 : Int32) (y0 : Int32) (y1 : Int32) : Option Mem :=
  k16 u v1 (y0 + y1) (v3 + 1)
def F_X7_findCan_75 (k16 : Mem → Int32 → Int32 → Int32 → Option Mem) (u : Mem) (v1 : Int32) (v3 : Int32) (y0 : Int32) : Option Mem :=
  F_X7_findCan_76 k16 u v1 v3 y0 (0 : Int32)
def F_X7_findCan_55 (k16 : Mem → Int32 → Int32 → Int32 → Option Mem) (u : Mem) (v1 : Int32) (v2 : Int32) (v3 : Int32) (y1 : Int32) (y2 : Int32) : Option Mem :=
  gd y1 144 <|
  if v3 = v1 then (
    F_X7_findCan_75 k16 (sI u 4 y1.toNatClampNeg (vp_nar .boolean y2)) v1 v3 v2
  ) else (
    bdI (F_X7_isEarlier (sI u 4 y1.toNatClampNeg (vp_nar .boolean y2)) v3 v1) fun r4 u3 =>
    if r4 = 0 then (
      F_X7_findCan_75 k16 u3 v1 v3 v2
    ) else (
      F_X7_findCan_76 k16 u3 v1 v3 v2 (1 : Int32)
    )
  )
def F_X7_findCan_54 (k16 : Mem → Int32 → Int32 → Int32 → Option Mem) (u : Mem) (v1 : Int32) (v2 : Int32) (v3 : Int32) (y1 : Int32) : Option Mem :=
  F_X7_findCan_55 k16 u v1 v2 v3 y1 (0 : Int32)
def F_X7_findCan_16 (k2 : Mem → Int32 → Option Mem) : Nat → Mem → Int32 → Int32 → Int32 → Option Mem
  | 0, _, _, _, _ => none
  | n + 1, u, v1, v2, v3 =>
    gd (0 : Int32) 50 <|
    if (u.1 1 (0 : Int32).toNatClampNeg) ≤ v3 then (
      gd v2 12 <|
      k2 (sI u 5 v2.toNatClampNeg v1) (v1 + 1)
    ) else (
      if v1 = v3 then (
        F_X7_findCan_54 (F_X7_findCan_16 k2 n) u v1 v2 v3 (((12 : Int32) * v1) + v3)
      ) else (
        bdI (F_X7_canBe u v1 v3) fun r12 u11 =>
        if r12 = 0 then (
          F_X7_findCan_54 (F_X7_findCan_16 k2 n) u11 v1 v2 v3 (((12 : Int32) * v1) + v3)
        ) else (
          F_X7_findCan_55 (F_X7_findCan_16 k2 n) u11 v1 v2 v3 (((12 : Int32) * v1) + v3) (1 : Int32)
        )
      )
    )
def F_X7_findCan_2  : Nat → Mem → Int32 → Option Mem
  | 0, _, _ => none
  | n + 1, u, v1 =>
    gd (0 : Int32) 50 <|
    if (u.1 1 (0 : Int32).toNatClampNeg) ≤ v1 then (
      some u
    ) else (
      F_X7_findCan_16 (F_X7_findCan_2 n) fu u v1 (0 : Int32) (0 : Int32)
    )
def F_X7_findCan  (u : Mem)  : Option Mem :=
  F_X7_findCan_2 fu u (0 : Int32)
def F_X7_has_14  (u : Mem) (y0 : Int32) : Option (Int32 × Mem) :=
  gz y0 <|
  some (y0, u)
def F_X7_has  (u : Mem) (x0 : Int32) (x1 : Int32) : Option (Int32 × Mem) :=
  if ((x0 >>> (x1 &&& 31)) &&& (1 : Int32)) = (1 : Int32) then (
    F_X7_has_14 u (1 : Int32)
  ) else (
    F_X7_has_14 u (0 : Int32)
  )
def F_X7_lowest_2  : Nat → Mem → Int32 → Int32 → Option (Int32 × Mem)
  | 0, _, _, _ => none
  | n + 1, u, v0, v1 =>
    bdI (F_X7_has u v0 v1) fun r2 u1 =>
    if r2 = 0 then (
      F_X7_lowest_2 n u1 v0 (v1 + 1)
    ) else (
      some (v1, u1)
    )
def F_X7_lowest  (u : Mem) (x0 : Int32) : Option (Int32 × Mem) :=
  F_X7_lowest_2 fu u x0 (0 : Int32)
def F_X7_areOfOne_34  (u : Mem) (y0 : Int32) : Option (Int32 × Mem) :=
  gz y0 <|
  some (y0, u)
def F_X7_areOfOne  (u : Mem) (x1 : Int32) (x2 : Int32) : Option (Int32 × Mem) :=
  bdI (F_X7_isEarlier u x1 x2) fun r3 u2 =>
  if r3 = 0 then (
    gd (((12 : Int32) * x2) + x1) 144 <|
    F_X7_areOfOne_34 u2 (u2.1 4 (((12 : Int32) * x2) + x1).toNatClampNeg)
  ) else (
    gd (((12 : Int32) * x1) + x2) 144 <|
    F_X7_areOfOne_34 u2 (u2.1 4 (((12 : Int32) * x1) + x2).toNatClampNeg)
  )
def F_X7_isWithAll_50 (k5 : Mem → Int32 → Int32 → Int32 → Int32 → Option (Int32 × Mem)) (u : Mem) (v1 : Int32) (v2 : Int32) (v4 : Int32) (y0 : Int32) : Option (Int32 × Mem) :=
  k5 u v1 v2 y0 (v4 + 1)
def F_X7_isWithAll_45 (k5 : Mem → Int32 → Int32 → Int32 → Int32 → Option (Int32 × Mem)) (u : Mem) (v1 : Int32) (v2 : Int32) (v4 : Int32) : Option (Int32 × Mem) :=
  F_X7_isWithAll_50 k5 u v1 v2 v4 (1 : Int32)
def F_X7_isWithAll_49 (k5 : Mem → Int32 → Int32 → Int32 → Int32 → Option (Int32 × Mem)) (u : Mem) (v1 : Int32) (v2 : Int32) (v4 : Int32) : Option (Int32 × Mem) :=
  F_X7_isWithAll_50 k5 u v1 v2 v4 (0 : Int32)
def F_X7_isWithAll_5  : Nat → Mem → Int32 → Int32 → Int32 → Int32 → Option (Int32 × Mem)
  | 0, _, _, _, _, _ => none
  | n + 1, u, v1, v2, v3, v4 =>
    gd (0 : Int32) 50 <|
    if (u.1 1 (0 : Int32).toNatClampNeg) ≤ v4 then (
      gz v3 <|
      some (v3, u)
    ) else (
      if v3 = 0 then (
        F_X7_isWithAll_49 (F_X7_isWithAll_5 n) u v1 v2 v4
      ) else (
        bdI (F_X7_has u v2 v4) fun r6 u5 =>
        if r6 = 0 then (
          F_X7_isWithAll_45 (F_X7_isWithAll_5 n) u5 v1 v2 v4
        ) else (
          if v4 = v1 then (
            F_X7_isWithAll_45 (F_X7_isWithAll_5 n) u5 v1 v2 v4
          ) else (
            bdI (F_X7_areOfOne u5 v1 v4) fun r11 u10 =>
            if r11 = 0 then (
              F_X7_isWithAll_49 (F_X7_isWithAll_5 n) u10 v1 v2 v4
            ) else (
              F_X7_isWithAll_45 (F_X7_isWithAll_5 n) u10 v1 v2 v4
            )
          )
        )
      )
    )
def F_X7_isWithAll  (u : Mem) (x1 : Int32) (x2 : Int32) : Option (Int32 × Mem) :=
  F_X7_isWithAll_5 fu u x1 x2 (1 : Int32) (0 : Int32)
def F_X7_findRings_64 (k13 : Mem → Int32 → Option Mem) (u : Mem) (v1 : Int32) (y1 : Int32) (y2 : Int32) : Option Mem :=
  gd y1 4096 <|
  k13 (sI u 6 y1.toNatClampNeg (vp_nar .boolean y2)) (v1 + 1)
def F_X7_findRings_63 (k13 : Mem → Int32 → Option Mem) (u : Mem) (v1 : Int32) (y1 : Int32) : Option Mem :=
  F_X7_findRings_64 k13 u v1 y1 (0 : Int32)
def F_X7_findRings_13  : Nat → Mem → Int32 → Option Mem
  | 0, _, _ => none
  | n + 1, u, v1 =>
    gd (0 : Int32) 50 <|
    if ((1 : Int32) <<< ((u.1 1 (0 : Int32).toNatClampNeg) &&& 31)) ≤ v1 then (
      some u
    ) else (
      bdI (F_X7_lowest u v1) fun r5 u4 =>
      gd (v1 &&& (v1 - (1 : Int32))) 4096 <|
      if (u4.1 6 (v1 &&& (v1 - (1 : Int32))).toNatClampNeg) = 0 then (
        F_X7_findRings_63 (F_X7_findRings_13 n) u4 v1 v1
      ) else (
        bdI (F_X7_isWithAll u4 r5 (v1 &&& (v1 - (1 : Int32)))) fun r10 u9 =>
        if r10 = 0 then (
          F_X7_findRings_63 (F_X7_findRings_13 n) u9 v1 v1
        ) else (
          F_X7_findRings_64 (F_X7_findRings_13 n) u9 v1 v1 (1 : Int32)
        )
      )
    )
def F_X7_findRings  (u : Mem)  : Option Mem :=
  bdV (F_X7_findCan u) fun u13 =>
  gd (0 : Int32) 4096 <|
  F_X7_findRings_13 fu (sI u13 6 (0 : Int32).toNatClampNeg (vp_nar .boolean (1 : Int32))) (1 : Int32)
def F_X7_ring_33  (u : Mem) (y0 : Int32) : Option (Int32 × Mem) :=
  some (y0, u)
def F_X7_ring  (u : Mem) (x1 : Int32) : Option (Int32 × Mem) :=
  bdI (F_X7_isSet u x1) fun r2 u1 =>
  if r2 = 0 then (
    bdI (F_X7_finds u1 (-1000000001 : Int32)) fun r11 u10 =>
    some (r11, u10)
  ) else (
    bdV (F_X7_findRings u1) fun u5 =>
    gd x1 4096 <|
    if (u5.1 6 x1.toNatClampNeg) = 0 then (
      F_X7_ring_33 u5 (0 : Int32)
    ) else (
      F_X7_ring_33 u5 (1 : Int32)
    )
  )
def F_X7_ones_4  : Nat → Mem → Int32 → Int32 → Option (Int32 × Mem)
  | 0, _, _, _ => none
  | n + 1, u, v1, v2 =>
    if v2 = 0 then (
      some (v1, u)
    ) else (
      F_X7_ones_4 n u (v1 + 1) (v2 &&& (v2 - (1 : Int32)))
    )
def F_X7_ones  (u : Mem) (x0 : Int32) : Option (Int32 × Mem) :=
  F_X7_ones_4 fu u (0 : Int32) x0
def F_X7_bestOf_58 (k8 : Mem → Int32 → Int32 → Int32 → Option (Int32 × Mem)) (u : Mem) (v1 : Int32) (v3 : Int32) (y0 : Int32) : Option (Int32 × Mem) :=
  k8 u v1 y0 (v3 + 1)
def F_X7_bestOf_57 (k8 : Mem → Int32 → Int32 → Int32 → Option (Int32 × Mem)) (u : Mem) (v1 : Int32) (v2 : Int32) (v3 : Int32) : Option (Int32 × Mem) :=
  F_X7_bestOf_58 k8 u v1 v3 v2
def F_X7_bestOf_35 (k8 : Mem → Int32 → Int32 → Int32 → Option (Int32 × Mem)) (u : Mem) (v1 : Int32) (v2 : Int32) (v3 : Int32) (y0 : Int32) : Option (Int32 × Mem) :=
  if y0 = 0 then (
    F_X7_bestOf_57 k8 u v1 v2 v3
  ) else (
    bdI (F_X7_ones u v3) fun r3 u2 =>
    bdI (F_X7_ones u2 v2) fun r6 u5 =>
    if r3 ≤ r6 then (
      F_X7_bestOf_57 k8 u5 v1 v2 v3
    ) else (
      F_X7_bestOf_58 k8 u5 v1 v3 v3
    )
  )
def F_X7_bestOf_34 (k8 : Mem → Int32 → Int32 → Int32 → Option (Int32 × Mem)) (u : Mem) (v1 : Int32) (v2 : Int32) (v3 : Int32) : Option (Int32 × Mem) :=
  F_X7_bestOf_35 k8 u v1 v2 v3 (0 : Int32)
def F_X7_bestOf_8  : Nat → Mem → Int32 → Int32 → Int32 → Option (Int32 × Mem)
  | 0, _, _, _, _ => none
  | n + 1, u, v1, v2, v3 =>
    if v1 < v3 then (
      some (v2, u)
    ) else (
      if (v3 &&& (v1 ^^^ (-1 : Int32))) = 0 then (
        gd v3 4096 <|
        if (u.1 6 v3.toNatClampNeg) = 0 then (
          F_X7_bestOf_34 (F_X7_bestOf_8 n) u v1 v2 v3
        ) else (
          F_X7_bestOf_35 (F_X7_bestOf_8 n) u v1 v2 v3 (1 : Int32)
        )
      ) else (
        F_X7_bestOf_34 (F_X7_bestOf_8 n) u v1 v2 v3
      )
    )
def F_X7_bestOf  (u : Mem) (x1 : Int32) : Option (Int32 × Mem) :=
  bdV (F_X7_findRings u) fun u13 =>
  F_X7_bestOf_8 fu u13 x1 (0 : Int32) (1 : Int32)
def F_X7_most_25  (u : Mem) (y0 : Int32) : Option (Int32 × Mem) :=
  some (y0, u)
def F_X7_most  (u : Mem) (x1 : Int32) : Option (Int32 × Mem) :=
  bdI (F_X7_isSet u x1) fun r2 u1 =>
  if r2 = 0 then (
    bdI (F_X7_finds u1 (-1000000001 : Int32)) fun r6 u5 =>
    F_X7_most_25 u5 r6
  ) else (
    bdI (F_X7_bestOf u1 x1) fun r9 u8 =>
    bdI (F_X7_ones u8 r9) fun r12 u11 =>
    F_X7_most_25 u11 r12
  )
def F_X7_best_22  (u : Mem) (y0 : Int32) : Option (Int32 × Mem) :=
  some (y0, u)
def F_X7_best  (u : Mem) (x1 : Int32) : Option (Int32 × Mem) :=
  bdI (F_X7_isSet u x1) fun r2 u1 =>
  if r2 = 0 then (
    bdI (F_X7_finds u1 (-1000000001 : Int32)) fun r6 u5 =>
    F_X7_best_22 u5 r6
  ) else (
    bdI (F_X7_bestOf u1 x1) fun r9 u8 =>
    F_X7_best_22 u8 r9
  )
def F_X7_fewestOf_135 (k13 : Mem → Int32 → Int32 → Option (Int32 × Mem)) (u : Mem) (v1 : Int32) (v2 : Int32) : Option (Int32 × Mem) :=
  k13 u v1 (v2 + 1)
def F_X7_fewestOf_113 (k49 : Mem → Int32 → Int32 → Int32 → Int32 → Int32 → Int32 → Int32 → Option (Int32 × Mem)) (u : Mem) (v1 : Int32) (v2 : Int32) (v3 : Int32) (v4 : Int32) (v5 : Int32) (v6 : Int32) (y0 : Int32) : Option (Int32 × Mem) :=
  k49 u v1 v2 v3 v4 v5 ((v6 - (1 : Int32)) &&& v4) y0
def F_X7_fewestOf_101 (k49 : Mem → Int32 → Int32 → Int32 → Int32 → Int32 → Int32 → Int32 → Option (Int32 × Mem)) (u : Mem) (v1 : Int32) (v2 : Int32) (v3 : Int32) (v4 : Int32) (v6 : Int32) (y0 : Int32) : Option (Int32 × Mem) :=
  if v6 = 0 then (
    F_X7_fewestOf_113 k49 u v1 v2 v3 v4 y0 v6 (0 : Int32)
  ) else (
    F_X7_fewestOf_113 k49 u v1 v2 v3 v4 y0 v6 (1 : Int32)
  )
def F_X7_fewestOf_85 (k49 : Mem → Int32 → Int32 → Int32 → Int32 → Int32 → Int32 → Int32 → Option (Int32 × Mem)) (u : Mem) (v1 : Int32) (v2 : Int32) (v3 : Int32) (v4 : Int32) (v5 : Int32) (v6 : Int32) (y0 : Int32) : Option (Int32 × Mem) :=
  if v5 ≤ y0 then (
    F_X7_fewestOf_101 k49 u v1 v2 v3 v4 v6 v5
  ) else (
    F_X7_fewestOf_101 k49 u v1 v2 v3 v4 v6 y0
  )
def F_X7_fewestOf_49 (k13 : Mem → Int32 → Int32 → Option (Int32 × Mem)) : Nat → Mem → Int32 → Int32 → Int32 → Int32 → Int32 → Int32 → Int32 → Option (Int32 × Mem)
  | 0, _, _, _, _, _, _, _, _ => none
  | n + 1, u, v1, v2, v3, v4, v5, v6, v7 =>
    if v7 = 0 then (
      gd v2 4096 <|
      F_X7_fewestOf_135 k13 (sI u 7 v2.toNatClampNeg v5) v1 v2
    ) else (
      gd (v6 ||| v3) 4096 <|
      if (u.1 6 (v6 ||| v3).toNatClampNeg) = 0 then (
        F_X7_fewestOf_85 (F_X7_fewestOf_49 k13 n) u v1 v2 v3 v4 v5 v6 (13 : Int32)
      ) else (
        gd (v4 &&& (v6 ^^^ (-1 : Int32))) 4096 <|
        F_X7_fewestOf_85 (F_X7_fewestOf_49 k13 n) u v1 v2 v3 v4 v5 v6 ((1 : Int32) + (u.1 7 (v4 &&& (v6 ^^^ (-1 : Int32))).toNatClampNeg))
      )
    )
def F_X7_fewestOf_13  : Nat → Mem → Int32 → Int32 → Option (Int32 × Mem)
  | 0, _, _, _ => none
  | n + 1, u, v1, v2 =>
    if v1 < v2 then (
      gd v1 4096 <|
      some ((u.1 7 v1.toNatClampNeg), u)
    ) else (
      if (v2 &&& (v1 ^^^ (-1 : Int32))) = 0 then (
        F_X7_fewestOf_49 (F_X7_fewestOf_13 n) fu u v1 v2 (v2 &&& (-v2)) (v2 &&& (v2 - (1 : Int32))) (13 : Int32) (v2 &&& (v2 - (1 : Int32))) (1 : Int32)
      ) else (
        F_X7_fewestOf_135 (F_X7_fewestOf_13 n) u v1 v2
      )
    )
def F_X7_fewestOf  (u : Mem) (x1 : Int32) : Option (Int32 × Mem) :=
  bdV (F_X7_findRings u) fun u11 =>
  gd (0 : Int32) 4096 <|
  F_X7_fewestOf_13 fu (sI u11 7 (0 : Int32).toNatClampNeg (0 : Int32)) x1 (1 : Int32)
def F_X7_fewest_22  (u : Mem) (y0 : Int32) : Option (Int32 × Mem) :=
  some (y0, u)
def F_X7_fewest  (u : Mem) (x1 : Int32) : Option (Int32 × Mem) :=
  bdI (F_X7_isSet u x1) fun r2 u1 =>
  if r2 = 0 then (
    bdI (F_X7_finds u1 (-1000000001 : Int32)) fun r6 u5 =>
    F_X7_fewest_22 u5 r6
  ) else (
    bdI (F_X7_fewestOf u1 x1) fun r9 u8 =>
    F_X7_fewest_22 u8 r9
  )
def F_X7_alone_110 (k23 : Mem → Int32 → Int32 → Int32 → Option (Int32 × Mem)) (u : Mem) (v1 : Int32) (v3 : Int32) (y0 : Int32) (y1 : Int32) : Option (Int32 × Mem) :=
  k23 u v1 (y0 ||| y1) (v3 + 1)
def F_X7_alone_89 (k43 : Mem → Int32 → Int32 → Int32 → Int32 → Int32 → Option (Int32 × Mem)) (u : Mem) (v1 : Int32) (v2 : Int32) (v3 : Int32) (v5 : Int32) (y0 : Int32) : Option (Int32 × Mem) :=
  k43 u v1 v2 v3 y0 (v5 + 1)
def F_X7_alone_84 (k43 : Mem → Int32 → Int32 → Int32 → Int32 → Int32 → Option (Int32 × Mem)) (u : Mem) (v1 : Int32) (v2 : Int32) (v3 : Int32) (v5 : Int32) : Option (Int32 × Mem) :=
  F_X7_alone_89 k43 u v1 v2 v3 v5 (1 : Int32)
def F_X7_alone_88 (k43 : Mem → Int32 → Int32 → Int32 → Int32 → Int32 → Option (Int32 × Mem)) (u : Mem) (v1 : Int32) (v2 : Int32) (v3 : Int32) (v5 : Int32) : Option (Int32 × Mem) :=
  F_X7_alone_89 k43 u v1 v2 v3 v5 (0 : Int32)
def F_X7_alone_43 (k23 : Mem → Int32 → Int32 → Int32 → Option (Int32 × Mem)) : Nat → Mem → Int32 → Int32 → Int32 → Int32 → Int32 → Option (Int32 × Mem)
  | 0, _, _, _, _, _, _ => none
  | n + 1, u, v1, v2, v3, v4, v5 =>
    gd (0 : Int32) 50 <|
    if (u.1 1 (0 : Int32).toNatClampNeg) ≤ v5 then (
      if v4 = 0 then (
        F_X7_alone_110 k23 u v1 v3 v2 (0 : Int32)
      ) else (
        F_X7_alone_110 k23 u v1 v3 v2 ((1 : Int32) <<< (v3 &&& 31))
      )
    ) else (
      if v4 = 0 then (
        F_X7_alone_88 (F_X7_alone_43 k23 n) u v1 v2 v3 v5
      ) else (
        if v5 = v3 then (
          F_X7_alone_84 (F_X7_alone_43 k23 n) u v1 v2 v3 v5
        ) else (
          bdI (F_X7_has u v1 v5) fun r7 u6 =>
          if r7 = 0 then (
            F_X7_alone_84 (F_X7_alone_43 k23 n) u6 v1 v2 v3 v5
          ) else (
            bdI (F_X7_areOfOne u6 v3 v5) fun r11 u10 =>
            if r11 = 0 then (
              F_X7_alone_84 (F_X7_alone_43 k23 n) u10 v1 v2 v3 v5
            ) else (
              F_X7_alone_88 (F_X7_alone_43 k23 n) u10 v1 v2 v3 v5
            )
          )
        )
      )
    )
def F_X7_alone_23  : Nat → Mem → Int32 → Int32 → Int32 → Option (Int32 × Mem)
  | 0, _, _, _, _ => none
  | n + 1, u, v1, v2, v3 =>
    gd (0 : Int32) 50 <|
    if (u.1 1 (0 : Int32).toNatClampNeg) ≤ v3 then (
      some (v2, u)
    ) else (
      bdI (F_X7_has u v1 v3) fun r17 u16 =>
      F_X7_alone_43 (F_X7_alone_23 n) fu u16 v1 v2 v3 r17 (0 : Int32)
    )
def F_X7_alone  (u : Mem) (x1 : Int32) : Option (Int32 × Mem) :=
  bdI (F_X7_isSet u x1) fun r20 u19 =>
  if r20 = 0 then (
    bdI (F_X7_finds u19 (-1000000001 : Int32)) fun r27 u26 =>
    some (r27, u26)
  ) else (
    bdV (F_X7_findCan u19) fun u23 =>
    F_X7_alone_23 fu u23 x1 (0 : Int32) (0 : Int32)
  )
def F_X7_isAheadOf_49 (k5 : Mem → Int32 → Int32 → Int32 → Int32 → Option (Int32 × Mem)) (u : Mem) (v1 : Int32) (v2 : Int32) (v4 : Int32) (y0 : Int32) : Option (Int32 × Mem) :=
  k5 u v1 v2 y0 (v4 + 1)
def F_X7_isAheadOf_44 (k5 : Mem → Int32 → Int32 → Int32 → Int32 → Option (Int32 × Mem)) (u : Mem) (v1 : Int32) (v2 : Int32) (v4 : Int32) : Option (Int32 × Mem) :=
  F_X7_isAheadOf_49 k5 u v1 v2 v4 (1 : Int32)
def F_X7_isAheadOf_48 (k5 : Mem → Int32 → Int32 → Int32 → Int32 → Option (Int32 × Mem)) (u : Mem) (v1 : Int32) (v2 : Int32) (v4 : Int32) : Option (Int32 × Mem) :=
  F_X7_isAheadOf_49 k5 u v1 v2 v4 (0 : Int32)
def F_X7_isAheadOf_5  : Nat → Mem → Int32 → Int32 → Int32 → Int32 → Option (Int32 × Mem)
  | 0, _, _, _, _, _ => none
  | n + 1, u, v1, v2, v3, v4 =>
    gd (0 : Int32) 50 <|
    if (u.1 1 (0 : Int32).toNatClampNeg) ≤ v4 then (
      gz v3 <|
      some (v3, u)
    ) else (
      if v3 = 0 then (
        F_X7_isAheadOf_48 (F_X7_isAheadOf_5 n) u v1 v2 v4
      ) else (
        bdI (F_X7_has u v2 v4) fun r6 u5 =>
        if r6 = 0 then (
          F_X7_isAheadOf_44 (F_X7_isAheadOf_5 n) u5 v1 v2 v4
        ) else (
          gd (((12 : Int32) * v1) + v4) 144 <|
          if (u5.1 4 (((12 : Int32) * v1) + v4).toNatClampNeg) = 0 then (
            F_X7_isAheadOf_48 (F_X7_isAheadOf_5 n) u5 v1 v2 v4
          ) else (
            F_X7_isAheadOf_44 (F_X7_isAheadOf_5 n) u5 v1 v2 v4
          )
        )
      )
    )
def F_X7_isAheadOf  (u : Mem) (x1 : Int32) (x2 : Int32) : Option (Int32 × Mem) :=
  F_X7_isAheadOf_5 fu u x1 x2 (1 : Int32) (0 : Int32)
def F_X7_findOrders_99 (k13 : Mem → Int32 → Int32 → Option Mem) (u : Mem) (v1 : Int32) (v2 : Int32) : Option Mem :=
  k13 u v1 (v2 + 1)
def F_X7_findOrders_84 (k31 : Mem → Int32 → Int32 → Int32 → Int32 → Option Mem) (u : Mem) (v1 : Int32) (v2 : Int32) (v4 : Int32) (y0 : Int32) (y1 : Int32) : Option Mem :=
  k31 u v1 v2 (y0 + y1) (v4 + 1)
def F_X7_findOrders_83 (k31 : Mem → Int32 → Int32 → Int32 → Int32 → Option Mem) (u : Mem) (v1 : Int32) (v2 : Int32) (v4 : Int32) (y0 : Int32) : Option Mem :=
  F_X7_findOrders_84 k31 u v1 v2 v4 y0 (0 : Int32)
def F_X7_findOrders_31 (k13 : Mem → Int32 → Int32 → Option Mem) : Nat → Mem → Int32 → Int32 → Int32 → Int32 → Option Mem
  | 0, _, _, _, _, _ => none
  | n + 1, u, v1, v2, v3, v4 =>
    gd (0 : Int32) 50 <|
    if (u.1 1 (0 : Int32).toNatClampNeg) ≤ v4 then (
      gd v2 4096 <|
      F_X7_findOrders_99 k13 (sI u 7 v2.toNatClampNeg v3) v1 v2
    ) else (
      bdI (F_X7_has u v2 v4) fun r5 u4 =>
      if r5 = 0 then (
        F_X7_findOrders_83 (F_X7_findOrders_31 k13 n) u4 v1 v2 v4 v3
      ) else (
        bdI (F_X7_isAheadOf u4 v4 (v2 &&& (((1 : Int32) <<< (v4 &&& 31)) ^^^ (-1 : Int32)))) fun r9 u8 =>
        if r9 = 0 then (
          F_X7_findOrders_83 (F_X7_findOrders_31 k13 n) u8 v1 v2 v4 v3
        ) else (
          gd (v2 &&& (((1 : Int32) <<< (v4 &&& 31)) ^^^ (-1 : Int32))) 4096 <|
          F_X7_findOrders_84 (F_X7_findOrders_31 k13 n) u8 v1 v2 v4 v3 (u8.1 7 (v2 &&& (((1 : Int32) <<< (v4 &&& 31)) ^^^ (-1 : Int32))).toNatClampNeg)
        )
      )
    )
def F_X7_findOrders_13  : Nat → Mem → Int32 → Int32 → Option Mem
  | 0, _, _, _ => none
  | n + 1, u, v1, v2 =>
    if v1 < v2 then (
      some u
    ) else (
      if (v2 &&& (v1 ^^^ (-1 : Int32))) = 0 then (
        F_X7_findOrders_31 (F_X7_findOrders_13 n) fu u v1 v2 (0 : Int32) (0 : Int32)
      ) else (
        F_X7_findOrders_99 (F_X7_findOrders_13 n) u v1 v2
      )
    )
def F_X7_findOrders  (u : Mem) (x1 : Int32) : Option Mem :=
  bdV (F_X7_findCan u) fun u15 =>
  gd (0 : Int32) 4096 <|
  F_X7_findOrders_13 fu (sI u15 7 (0 : Int32).toNatClampNeg (1 : Int32)) x1 (1 : Int32)
def F_X7_orders  (u : Mem) (x1 : Int32) : Option (Int32 × Mem) :=
  bdI (F_X7_isSet u x1) fun r2 u1 =>
  if r2 = 0 then (
    bdI (F_X7_finds u1 (-1000000001 : Int32)) fun r17 u16 =>
    some (r17, u16)
  ) else (
    bdI (F_X7_ones u1 x1) fun r6 u5 =>
    if r6 ≤ (8 : Int32) then (
      bdV (F_X7_findOrders u5 x1) fun u9 =>
      gd x1 4096 <|
      some ((u9.1 7 x1.toNatClampNeg), u9)
    ) else (
      bdI (F_X7_finds u5 (-1000000007 : Int32)) fun r14 u13 =>
      some (r14, u13)
    )
  )
def F_X7_ith_18  (u : Mem)  : Option (Int32 × Mem) :=
  bdI (F_X7_finds u (-1000000001 : Int32)) fun r2 u1 =>
  some (r2, u1)
def F_X7_ith_63  (u : Mem)  : Option (Int32 × Mem) :=
  bdI (F_X7_finds u (-1000000004 : Int32)) fun r5 u4 =>
  some (r5, u4)
def F_X7_ith_129 (k87 : Mem → Int32 → Int32 → Int32 → Int32 → Option (Int32 × Mem)) (u : Mem) (v2 : Int32) (v3 : Int32) (v4 : Int32) (v5 : Int32) : Option (Int32 × Mem) :=
  k87 u v2 v3 (v4 + 1) v5
def F_X7_ith_87 (k78 : Mem → Int32 → Int32 → Int32 → Int32 → Option (Int32 × Mem)) : Nat → Mem → Int32 → Int32 → Int32 → Int32 → Option (Int32 × Mem)
  | 0, _, _, _, _, _ => none
  | n + 1, u, v2, v3, v4, v5 =>
    bdI (F_X7_has u v3 v4) fun r8 u7 =>
    if r8 = 0 then (
      F_X7_ith_129 (F_X7_ith_87 k78 n) u7 v2 v3 v4 v5
    ) else (
      bdI (F_X7_isAheadOf u7 v4 (v3 &&& (((1 : Int32) <<< (v4 &&& 31)) ^^^ (-1 : Int32)))) fun r12 u11 =>
      if r12 = 0 then (
        F_X7_ith_129 (F_X7_ith_87 k78 n) u11 v2 v3 v4 v5
      ) else (
        gd (v3 &&& (((1 : Int32) <<< (v4 &&& 31)) ^^^ (-1 : Int32))) 4096 <|
        if (u11.1 7 (v3 &&& (((1 : Int32) <<< (v4 &&& 31)) ^^^ (-1 : Int32))).toNatClampNeg) = 0 then (
          F_X7_ith_129 (F_X7_ith_87 k78 n) u11 v2 v3 v4 v5
        ) else (
          k78 u11 v2 (v3 &&& (((1 : Int32) <<< (v4 &&& 31)) ^^^ (-1 : Int32))) v4 (v5 + 1)
        )
      )
    )
def F_X7_ith_78  : Nat → Mem → Int32 → Int32 → Int32 → Int32 → Option (Int32 × Mem)
  | 0, _, _, _, _, _ => none
  | n + 1, u, v2, v3, v4, v5 =>
    if v2 < v5 then (
      some (v4, u)
    ) else (
      F_X7_ith_87 (F_X7_ith_78 n) fu u v2 v3 (0 : Int32) v5
    )
def F_X7_ith  (u : Mem) (x1 : Int32) (x2 : Int32) : Option (Int32 × Mem) :=
  bdI (F_X7_isSet u x1) fun r19 u18 =>
  if r19 = 0 then (
    F_X7_ith_18 u18
  ) else (
    bdI (F_X7_in u18 x2 (0 : Int32) (7 : Int32)) fun r23 u22 =>
    if r23 = 0 then (
      F_X7_ith_18 u22
    ) else (
      bdI (F_X7_ones u22 x1) fun r27 u26 =>
      if r27 ≤ (8 : Int32) then (
        bdV (F_X7_findOrders u26 x1) fun u30 =>
        gd x1 4096 <|
        if (u30.1 7 x1.toNatClampNeg) = 0 then (
          F_X7_ith_63 u30
        ) else (
          bdI (F_X7_ones u30 x1) fun r36 u35 =>
          if x2 < r36 then (
            F_X7_ith_78 fu u35 x2 x1 (0 : Int32) (0 : Int32)
          ) else (
            F_X7_ith_63 u35
          )
        )
      ) else (
        bdI (F_X7_finds u26 (-1000000007 : Int32)) fun r40 u39 =>
        some (r40, u39)
      )
    )
  )
def F_X7_fitsSomewhere_166  (u : Mem) (v4 : Int32) : Option (Int32 × Mem) :=
  gz v4 <|
  some (v4, u)
def F_X7_fitsSomewhere_152 (k86 : Mem → Int32 → Int32 → Int32 → Int32 → Int32 → Option (Int32 × Mem)) (u : Mem) (v1 : Int32) (v3 : Int32) (v5 : Int32) (v6 : Int32) (y0 : Int32) : Option (Int32 × Mem) :=
  k86 u v1 v3 y0 v5 (v6 + 1)
def F_X7_fitsSomewhere_147 (k86 : Mem → Int32 → Int32 → Int32 → Int32 → Int32 → Option (Int32 × Mem)) (u : Mem) (v1 : Int32) (v3 : Int32) (v5 : Int32) (v6 : Int32) : Option (Int32 × Mem) :=
  F_X7_fitsSomewhere_152 k86 u v1 v3 v5 v6 (1 : Int32)
def F_X7_fitsSomewhere_151 (k86 : Mem → Int32 → Int32 → Int32 → Int32 → Int32 → Option (Int32 × Mem)) (u : Mem) (v1 : Int32) (v3 : Int32) (v5 : Int32) (v6 : Int32) : Option (Int32 × Mem) :=
  F_X7_fitsSomewhere_152 k86 u v1 v3 v5 v6 (0 : Int32)
def F_X7_fitsSomewhere_86 (k69 : Mem → Int32 → Int32 → Int32 → Int32 → Option (Int32 × Mem)) : Nat → Mem → Int32 → Int32 → Int32 → Int32 → Int32 → Option (Int32 × Mem)
  | 0, _, _, _, _, _, _ => none
  | n + 1, u, v1, v3, v4, v5, v6 =>
    if v3 ≤ v6 then (
      k69 u v1 v3 v4 (v5 + 1)
    ) else (
      if v4 = 0 then (
        F_X7_fitsSomewhere_151 (F_X7_fitsSomewhere_86 k69 n) u v1 v3 v5 v6
      ) else (
        if v5 ≤ v6 then (
          gd v6 12 <|
          gd (((12 : Int32) * v1) + (u.1 8 v6.toNatClampNeg)) 144 <|
          if (u.1 4 (((12 : Int32) * v1) + (u.1 8 v6.toNatClampNeg)).toNatClampNeg) = 0 then (
            F_X7_fitsSomewhere_151 (F_X7_fitsSomewhere_86 k69 n) u v1 v3 v5 v6
          ) else (
            F_X7_fitsSomewhere_147 (F_X7_fitsSomewhere_86 k69 n) u v1 v3 v5 v6
          )
        ) else (
          gd v6 12 <|
          gd (((12 : Int32) * (u.1 8 v6.toNatClampNeg)) + v1) 144 <|
          if (u.1 4 (((12 : Int32) * (u.1 8 v6.toNatClampNeg)) + v1).toNatClampNeg) = 0 then (
            F_X7_fitsSomewhere_151 (F_X7_fitsSomewhere_86 k69 n) u v1 v3 v5 v6
          ) else (
            F_X7_fitsSomewhere_147 (F_X7_fitsSomewhere_86 k69 n) u v1 v3 v5 v6
          )
        )
      )
    )
def F_X7_fitsSomewhere_69  : Nat → Mem → Int32 → Int32 → Int32 → Int32 → Option (Int32 × Mem)
  | 0, _, _, _, _, _ => none
  | n + 1, u, v1, v3, v4, v5 =>
    if v3 < v5 then (
      F_X7_fitsSomewhere_166 u v4
    ) else (
      if v4 = 0 then (
        F_X7_fitsSomewhere_86 (F_X7_fitsSomewhere_69 n) fu u v1 v3 (1 : Int32) v5 (0 : Int32)
      ) else (
        F_X7_fitsSomewhere_166 u v4
      )
    )
def F_X7_fitsSomewhere_57 (k5 : Mem → Int32 → Int32 → Int32 → Int32 → Option (Int32 × Mem)) (u : Mem) (v1 : Int32) (v2 : Int32) (v3 : Int32) (v4 : Int32) : Option (Int32 × Mem) :=
  k5 u v1 v2 v3 (v4 + 1)
def F_X7_fitsSomewhere_5  : Nat → Mem → Int32 → Int32 → Int32 → Int32 → Option (Int32 × Mem)
  | 0, _, _, _, _, _ => none
  | n + 1, u, v1, v2, v3, v4 =>
    gd (0 : Int32) 50 <|
    if (u.1 1 (0 : Int32).toNatClampNeg) ≤ v4 then (
      F_X7_fitsSomewhere_69 fu u v1 v3 (0 : Int32) (0 : Int32)
    ) else (
      gd v4 12 <|
      bdI (F_X7_has u v2 (u.1 5 v4.toNatClampNeg)) fun r17 u16 =>
      if r17 = 0 then (
        F_X7_fitsSomewhere_57 (F_X7_fitsSomewhere_5 n) u16 v1 v2 v3 v4
      ) else (
        gd v4 12 <|
        if (u16.1 5 v4.toNatClampNeg) = v1 then (
          F_X7_fitsSomewhere_57 (F_X7_fitsSomewhere_5 n) u16 v1 v2 v3 v4
        ) else (
          gd v4 12 <|
          gd v3 12 <|
          F_X7_fitsSomewhere_57 (F_X7_fitsSomewhere_5 n) (sI u16 8 v3.toNatClampNeg (u16.1 5 v4.toNatClampNeg)) v1 v2 (v3 + 1) v4
        )
      )
    )
def F_X7_fitsSomewhere  (u : Mem) (x1 : Int32) (x2 : Int32) : Option (Int32 × Mem) :=
  F_X7_fitsSomewhere_5 fu u x1 x2 (0 : Int32) (0 : Int32)
def F_X7_falseDate_105  (u : Mem) (y0 : Int32) : Option (Int32 × Mem) :=
  some (y0, u)
def F_X7_falseDate_85  (u : Mem) (v2 : Int32) : Option (Int32 × Mem) :=
  gd (0 : Int32) 50 <|
  if (u.1 1 (0 : Int32).toNatClampNeg) ≤ v2 then (
    bdI (F_X7_finds u (-1000000004 : Int32)) fun r4 u3 =>
    F_X7_falseDate_105 u3 r4
  ) else (
    F_X7_falseDate_105 u v2
  )
def F_X7_falseDate_79 (k37 : Mem → Int32 → Int32 → Option (Int32 × Mem)) (u : Mem) (v1 : Int32) (v2 : Int32) : Option (Int32 × Mem) :=
  k37 u v1 (v2 + 1)
def F_X7_falseDate_37  : Nat → Mem → Int32 → Int32 → Option (Int32 × Mem)
  | 0, _, _, _ => none
  | n + 1, u, v1, v2 =>
    gd (0 : Int32) 50 <|
    if (u.1 1 (0 : Int32).toNatClampNeg) ≤ v2 then (
      F_X7_falseDate_85 u v2
    ) else (
      bdI (F_X7_has u v1 v2) fun r9 u8 =>
      if r9 = 0 then (
        F_X7_falseDate_79 (F_X7_falseDate_37 n) u8 v1 v2
      ) else (
        gd (v1 &&& (((1 : Int32) <<< (v2 &&& 31)) ^^^ (-1 : Int32))) 4096 <|
        if (u8.1 6 (v1 &&& (((1 : Int32) <<< (v2 &&& 31)) ^^^ (-1 : Int32))).toNatClampNeg) = 0 then (
          F_X7_falseDate_79 (F_X7_falseDate_37 n) u8 v1 v2
        ) else (
          bdI (F_X7_fitsSomewhere u8 v2 v1) fun r15 u14 =>
          if r15 = 0 then (
            F_X7_falseDate_79 (F_X7_falseDate_37 n) u14 v1 v2
          ) else (
            F_X7_falseDate_85 u14 v2
          )
        )
      )
    )
def F_X7_falseDate  (u : Mem) (x1 : Int32) : Option (Int32 × Mem) :=
  bdI (F_X7_isSet u x1) fun r19 u18 =>
  if r19 = 0 then (
    bdI (F_X7_finds u18 (-1000000001 : Int32)) fun r31 u30 =>
    some (r31, u30)
  ) else (
    bdV (F_X7_findRings u18) fun u22 =>
    gd x1 4096 <|
    if (u22.1 6 x1.toNatClampNeg) = 0 then (
      F_X7_falseDate_37 fu u22 x1 (0 : Int32)
    ) else (
      bdI (F_X7_finds u22 (-1000000005 : Int32)) fun r28 u27 =>
      some (r28, u27)
    )
  )
def F_X7_had_19  (u : Mem)  : Option (Int64 × Mem) :=
  bdI (F_X7_finds u (-1000000001 : Int32)) fun r2 u1 =>
  some (r2.toInt64, u1)
def F_X7_had_105 (k36 : Mem → Int32 → Int32 → Int64 → Int32 → Option (Int64 × Mem)) (u : Mem) (v1 : Int32) (v2 : Int32) (v3 : Int64) (v5 : Int32) : Option (Int64 × Mem) :=
  k36 u v1 v2 v3 (v5 + 1)
def F_X7_had_104 (k36 : Mem → Int32 → Int32 → Int64 → Int32 → Option (Int64 × Mem)) (u : Mem) (v1 : Int32) (v2 : Int32) (v5 : Int32) (y0 : Int64) : Option (Int64 × Mem) :=
  F_X7_had_105 k36 u v1 v2 y0 v5
def F_X7_had_36  : Nat → Mem → Int32 → Int32 → Int64 → Int32 → Option (Int64 × Mem)
  | 0, _, _, _, _, _ => none
  | n + 1, u, v1, v2, v3, v5 =>
    gd (0 : Int32) 50 <|
    if (u.1 1 (0 : Int32).toNatClampNeg) ≤ v5 then (
      some (v3, u)
    ) else (
      gd v5 12 <|
      bdI (F_X7_has u v1 (u.1 5 v5.toNatClampNeg)) fun r8 u7 =>
      if r8 = 0 then (
        F_X7_had_105 (F_X7_had_36 n) u7 v1 v2 v3 v5
      ) else (
        bdI (F_X7_its u7 (u.1 5 v5.toNatClampNeg) (2 : Int32)) fun r12 u11 =>
        if v2 < r12 then (
          F_X7_had_105 (F_X7_had_36 n) u11 v1 v2 v3 v5
        ) else (
          bdI (F_X7_its u11 (u.1 5 v5.toNatClampNeg) (0 : Int32)) fun r16 u15 =>
          if r16 = (4 : Int32) then (
            bdL (F_X7_shows u15 (u.1 5 v5.toNatClampNeg)) fun r23 u22 =>
            F_X7_had_104 (F_X7_had_36 n) u22 v1 v2 v5 r23
          ) else (
            bdL (F_X7_shows u15 (u.1 5 v5.toNatClampNeg)) fun r20 u19 =>
            F_X7_had_104 (F_X7_had_36 n) u19 v1 v2 v5 (v3 ||| r20)
          )
        )
      )
    )
def F_X7_had  (u : Mem) (x1 : Int32) (x2 : Int32) : Option (Int64 × Mem) :=
  bdI (F_X7_isSet u x1) fun r26 u25 =>
  if r26 = 0 then (
    F_X7_had_19 u25
  ) else (
    bdI (F_X7_in u25 x2 (0 : Int32) (2000 : Int32)) fun r30 u29 =>
    if r30 = 0 then (
      F_X7_had_19 u29
    ) else (
      bdV (F_X7_findCan u29) fun u33 =>
      F_X7_had_36 fu u33 x1 x2 (0 : Int64) (0 : Int32)
    )
  )
def F_X7_hadNot_19  (u : Mem)  : Option (Int64 × Mem) :=
  bdI (F_X7_finds u (-1000000001 : Int32)) fun r2 u1 =>
  some (r2.toInt64, u1)
def F_X7_hadNot_146 (k39 : Mem → Int32 → Int32 → Int64 → Int32 → Int32 → Option (Int64 × Mem)) (u : Mem) (v1 : Int32) (v2 : Int32) (v3 : Int64) (v5 : Int32) (v6 : Int32) : Option (Int64 × Mem) :=
  k39 u v1 v2 v3 v5 (v6 + 1)
def F_X7_hadNot_144 (k39 : Mem → Int32 → Int32 → Int64 → Int32 → Int32 → Option (Int64 × Mem)) (u : Mem) (v1 : Int32) (v2 : Int32) (v5 : Int32) (v6 : Int32) (y0 : Int64) (y1 : Int64) : Option (Int64 × Mem) :=
  F_X7_hadNot_146 k39 u v1 v2 (y0 ||| y1) v5 v6
def F_X7_hadNot_111 (k39 : Mem → Int32 → Int32 → Int64 → Int32 → Int32 → Option (Int64 × Mem)) (u : Mem) (v1 : Int32) (v2 : Int32) (v3 : Int64) (v6 : Int32) (v7 : Int32) (y0 : Int32) : Option (Int64 × Mem) :=
  if y0 = 0 then (
    F_X7_hadNot_144 k39 u v1 v2 y0 v6 v3 (0 : Int64)
  ) else (
    bdL (F_X7_shows u v7) fun r6 u5 =>
    bdL (F_X7_hides u5 v7) fun r9 u8 =>
    F_X7_hadNot_144 k39 u8 v1 v2 y0 v6 v3 ((1099511627775 : Int64) &&& ((r6 ||| r9) ^^^ (-1 : Int64)))
  )
def F_X7_hadNot_106 (k39 : Mem → Int32 → Int32 → Int64 → Int32 → Int32 → Option (Int64 × Mem)) (u : Mem) (v1 : Int32) (v2 : Int32) (v3 : Int64) (v6 : Int32) (v7 : Int32) : Option (Int64 × Mem) :=
  F_X7_hadNot_111 k39 u v1 v2 v3 v6 v7 (1 : Int32)
def F_X7_hadNot_110 (k39 : Mem → Int32 → Int32 → Int64 → Int32 → Int32 → Option (Int64 × Mem)) (u : Mem) (v1 : Int32) (v2 : Int32) (v3 : Int64) (v6 : Int32) (v7 : Int32) : Option (Int64 × Mem) :=
  F_X7_hadNot_111 k39 u v1 v2 v3 v6 v7 (0 : Int32)
def F_X7_hadNot_39  : Nat → Mem → Int32 → Int32 → Int64 → Int32 → Int32 → Option (Int64 × Mem)
  | 0, _, _, _, _, _, _ => none
  | n + 1, u, v1, v2, v3, v5, v6 =>
    gd (0 : Int32) 50 <|
    if (u.1 1 (0 : Int32).toNatClampNeg) ≤ v6 then (
      some (v3, u)
    ) else (
      gd v6 12 <|
      bdI (F_X7_has u v1 (u.1 5 v6.toNatClampNeg)) fun r15 u14 =>
      if r15 = 0 then (
        F_X7_hadNot_146 (F_X7_hadNot_39 n) u14 v1 v2 v3 v5 v6
      ) else (
        bdI (F_X7_its u14 (u.1 5 v6.toNatClampNeg) (2 : Int32)) fun r19 u18 =>
        if r19 < v2 then (
          F_X7_hadNot_146 (F_X7_hadNot_39 n) u18 v1 v2 v3 v5 v6
        ) else (
          if v5 = 0 then (
            F_X7_hadNot_110 (F_X7_hadNot_39 n) u18 v1 v2 v3 v6 (u.1 5 v6.toNatClampNeg)
          ) else (
            bdI (F_X7_its u18 (u.1 5 v6.toNatClampNeg) (0 : Int32)) fun r24 u23 =>
            if r24 = (4 : Int32) then (
              bdI (F_X7_its u23 (u.1 5 v6.toNatClampNeg) (2 : Int32)) fun r28 u27 =>
              if r28 = v2 then (
                F_X7_hadNot_106 (F_X7_hadNot_39 n) u27 v1 v2 v3 v6 (u.1 5 v6.toNatClampNeg)
              ) else (
                F_X7_hadNot_110 (F_X7_hadNot_39 n) u27 v1 v2 v3 v6 (u.1 5 v6.toNatClampNeg)
              )
            ) else (
              F_X7_hadNot_106 (F_X7_hadNot_39 n) u23 v1 v2 v3 v6 (u.1 5 v6.toNatClampNeg)
            )
          )
        )
      )
    )
def F_X7_hadNot  (u : Mem) (x1 : Int32) (x2 : Int32) : Option (Int64 × Mem) :=
  bdI (F_X7_isSet u x1) fun r32 u31 =>
  if r32 = 0 then (
    F_X7_hadNot_19 u31
  ) else (
    bdI (F_X7_in u31 x2 (0 : Int32) (2000 : Int32)) fun r36 u35 =>
    if r36 = 0 then (
      F_X7_hadNot_19 u35
    ) else (
      bdV (F_X7_findCan u35) fun u39 =>
      F_X7_hadNot_39 fu u39 x1 x2 (0 : Int64) (1 : Int32) (0 : Int32)
    )
  )
def F_X7_isCast  (u : Mem) (x1 : Int32) : Option (Int32 × Mem) :=
  bdI (F_X7_its u x1 (0 : Int32)) fun r2 u1 =>
  bdI (F_X7_isUnder u1 r2 (2 : Int32)) fun r5 u4 =>
  gz r5 <|
  some (r5, u4)
def F_X7_canBeCast_77  (u : Mem) (y0 : Int32) : Option (Int32 × Mem) :=
  gz y0 <|
  some (y0, u)
def F_X7_canBeCast_76  (u : Mem)  : Option (Int32 × Mem) :=
  F_X7_canBeCast_77 u (0 : Int32)
def F_X7_canBeCast  (u : Mem) (x1 : Int32) (x2 : Int32) : Option (Int32 × Mem) :=
  bdI (F_X7_its u x1 (1 : Int32)) fun r3 u2 =>
  bdI (F_X7_its u2 x2 (1 : Int32)) fun r6 u5 =>
  if x2 = x1 then (
    F_X7_canBeCast_76 u5
  ) else (
    bdI (F_X7_its u5 x2 (2 : Int32)) fun r10 u9 =>
    bdI (F_X7_its u9 x1 (2 : Int32)) fun r13 u12 =>
    if r13 < r10 then (
      F_X7_canBeCast_76 u12
    ) else (
      gd x2 12 <|
      gd x1 12 <|
      if (lg_cmp (u12.2 2 x2.toNatClampNeg) (u12.2 2 x1.toNatClampNeg)) = 0 then (
        if ((100 : Int32) * r3) < ((96 : Int32) * r6) then (
          F_X7_canBeCast_76 u12
        ) else (
          if ((98 : Int32) * r6) < ((100 : Int32) * r3) then (
            F_X7_canBeCast_76 u12
          ) else (
            F_X7_canBeCast_77 u12 (1 : Int32)
          )
        )
      ) else (
        F_X7_canBeCast_76 u12
      )
    )
  )
def F_X7_fromOf_42  (u : Mem) (y0 : Int32) : Option (Int32 × Mem) :=
  some (y0, u)
def F_X7_fromOf_27  (u : Mem) (v2 : Int32) : Option (Int32 × Mem) :=
  gd (0 : Int32) 50 <|
  if (u.1 1 (0 : Int32).toNatClampNeg) ≤ v2 then (
    F_X7_fromOf_42 u (-1 : Int32)
  ) else (
    F_X7_fromOf_42 u v2
  )
def F_X7_fromOf_2  : Nat → Mem → Int32 → Int32 → Option (Int32 × Mem)
  | 0, _, _, _ => none
  | n + 1, u, v1, v2 =>
    gd (0 : Int32) 50 <|
    if (u.1 1 (0 : Int32).toNatClampNeg) ≤ v2 then (
      F_X7_fromOf_27 u v2
    ) else (
      bdI (F_X7_canBeCast u v1 v2) fun r6 u5 =>
      if r6 = 0 then (
        F_X7_fromOf_2 n u5 v1 (v2 + 1)
      ) else (
        F_X7_fromOf_27 u5 v2
      )
    )
def F_X7_fromOf  (u : Mem) (x1 : Int32) : Option (Int32 × Mem) :=
  F_X7_fromOf_2 fu u x1 (0 : Int32)
def F_X7_castOf_50  (u : Mem) (y0 : Int32) : Option (Int32 × Mem) :=
  some (y0, u)
def F_X7_castOf  (u : Mem) (x1 : Int32) : Option (Int32 × Mem) :=
  bdI (F_X7_isPrint u x1) fun r2 u1 =>
  if r2 = 0 then (
    bdI (F_X7_finds u1 (-1000000001 : Int32)) fun r20 u19 =>
    some (r20, u19)
  ) else (
    bdI (F_X7_isCast u1 x1) fun r6 u5 =>
    if r6 = 0 then (
      bdI (F_X7_finds u5 (-1000000005 : Int32)) fun r17 u16 =>
      some (r17, u16)
    ) else (
      bdI (F_X7_fromOf u5 x1) fun r10 u9 =>
      if 0 ≤ r10 then (
        F_X7_castOf_50 u9 r10
      ) else (
        bdI (F_X7_finds u9 (-1000000004 : Int32)) fun r14 u13 =>
        F_X7_castOf_50 u13 r14
      )
    )
  )
def F_X7_deep_92  (u : Mem) (v2 : Int32) : Option (Int32 × Mem) :=
  some (v2, u)
def F_X7_deep_88 (k22 : Mem → Int32 → Int32 → Int32 → Option (Int32 × Mem)) (u : Mem) (v2 : Int32) (v4 : Int32) (y0 : Int32) : Option (Int32 × Mem) :=
  k22 u v2 y0 v4
def F_X7_deep_75 (k22 : Mem → Int32 → Int32 → Int32 → Option (Int32 × Mem)) (u : Mem) (v3 : Int32) (v4 : Int32) (v5 : Int32) (y0 : Int32) (y1 : Int32) : Option (Int32 × Mem) :=
  if v4 = 0 then (
    F_X7_deep_88 k22 u (y0 + y1) v4 v3
  ) else (
    F_X7_deep_88 k22 u (y0 + y1) v4 v5
  )
def F_X7_deep_62 (k22 : Mem → Int32 → Int32 → Int32 → Option (Int32 × Mem)) (u : Mem) (v2 : Int32) (v3 : Int32) (v5 : Int32) (y0 : Int32) : Option (Int32 × Mem) :=
  if y0 = 0 then (
    F_X7_deep_75 k22 u v3 y0 v5 v2 (0 : Int32)
  ) else (
    F_X7_deep_75 k22 u v3 y0 v5 v2 (1 : Int32)
  )
def F_X7_deep_50 (k22 : Mem → Int32 → Int32 → Int32 → Option (Int32 × Mem)) (u : Mem) (v2 : Int32) (v3 : Int32) (y0 : Int32) : Option (Int32 × Mem) :=
  if y0 < 0 then (
    F_X7_deep_62 k22 u v2 v3 y0 (0 : Int32)
  ) else (
    F_X7_deep_62 k22 u v2 v3 y0 (1 : Int32)
  )
def F_X7_deep_22  : Nat → Mem → Int32 → Int32 → Int32 → Option (Int32 × Mem)
  | 0, _, _, _, _ => none
  | n + 1, u, v2, v3, v4 =>
    if v4 = 0 then (
      F_X7_deep_92 u v2
    ) else (
      if (12 : Int32) ≤ v2 then (
        F_X7_deep_92 u v2
      ) else (
        bdI (F_X7_isCast u v3) fun r7 u6 =>
        if r7 = 0 then (
          F_X7_deep_50 (F_X7_deep_22 n) u6 v2 v3 (-1 : Int32)
        ) else (
          bdI (F_X7_fromOf u6 v3) fun r11 u10 =>
          F_X7_deep_50 (F_X7_deep_22 n) u10 v2 v3 r11
        )
      )
    )
def F_X7_deep  (u : Mem) (x1 : Int32) : Option (Int32 × Mem) :=
  bdI (F_X7_isPrint u x1) fun r14 u13 =>
  if r14 = 0 then (
    bdI (F_X7_finds u13 (-1000000001 : Int32)) fun r18 u17 =>
    some (r18, u17)
  ) else (
    F_X7_deep_22 fu u13 (0 : Int32) x1 (1 : Int32)
  )
def F_X7_tell_136  (u : Mem) (y0 : Int32) : Option (Int32 × Mem) :=
  some (y0, u)
def F_X7_tell_116 (k25 : Mem → Int32 → Int32 → Int32 → Int32 → Int32 → Option (Int32 × Mem)) (u : Mem) (v1 : Int32) (v2 : Int32) (v3 : Int32) (v4 : Int32) (v5 : Int32) : Option (Int32 × Mem) :=
  k25 u v1 v2 v3 v4 (v5 + 1)
def F_X7_tell_114 (k25 : Mem → Int32 → Int32 → Int32 → Int32 → Int32 → Option (Int32 × Mem)) (u : Mem) (v1 : Int32) (v2 : Int32) (v3 : Int32) (v5 : Int32) (y0 : Int32) : Option (Int32 × Mem) :=
  F_X7_tell_116 k25 u v1 v2 v3 y0 v5
def F_X7_tell_99 (k25 : Mem → Int32 → Int32 → Int32 → Int32 → Int32 → Option (Int32 × Mem)) (u : Mem) (v1 : Int32) (v2 : Int32) (v4 : Int32) (v5 : Int32) (v6 : Int32) (y0 : Int32) : Option (Int32 × Mem) :=
  if v6 ≤ v4 then (
    F_X7_tell_114 k25 u v1 v2 y0 v5 v4
  ) else (
    F_X7_tell_114 k25 u v1 v2 y0 v5 v6
  )
def F_X7_tell_84 (k25 : Mem → Int32 → Int32 → Int32 → Int32 → Int32 → Option (Int32 × Mem)) (u : Mem) (v1 : Int32) (v2 : Int32) (v3 : Int32) (v4 : Int32) (v5 : Int32) (y0 : Int32) : Option (Int32 × Mem) :=
  if y0 ≤ v4 then (
    F_X7_tell_99 k25 u v1 v2 v4 v5 y0 v3
  ) else (
    F_X7_tell_99 k25 u v1 v2 v4 v5 y0 v5
  )
def F_X7_tell_25  : Nat → Mem → Int32 → Int32 → Int32 → Int32 → Int32 → Option (Int32 × Mem)
  | 0, _, _, _, _, _, _ => none
  | n + 1, u, v1, v2, v3, v4, v5 =>
    gd (0 : Int32) 50 <|
    if (u.1 1 (0 : Int32).toNatClampNeg) ≤ v5 then (
      if 0 ≤ v3 then (
        F_X7_tell_136 u v3
      ) else (
        bdI (F_X7_finds u (-1000000004 : Int32)) fun r7 u6 =>
        F_X7_tell_136 u6 r7
      )
    ) else (
      bdI (F_X7_its u v5 (3 : Int32)) fun r10 u9 =>
      if r10 = 0 then (
        bdV (F_X7_sets u9 v5 (3 : Int32) (1 : Int32)) fun u13 =>
        bdI (F_X7_fewestOf u13 v1) fun r17 u16 =>
        bdV (F_X7_sets u16 v5 (3 : Int32) (0 : Int32)) fun u19 =>
        if 0 ≤ (r17 - v2) then (
          F_X7_tell_84 (F_X7_tell_25 n) u19 v1 v2 v3 v4 v5 (r17 - v2)
        ) else (
          F_X7_tell_84 (F_X7_tell_25 n) u19 v1 v2 v3 v4 v5 (-(r17 - v2))
        )
      ) else (
        F_X7_tell_116 (F_X7_tell_25 n) u9 v1 v2 v3 v4 v5
      )
    )
def F_X7_tell  (u : Mem)  : Option (Int32 × Mem) :=
  gd (0 : Int32) 50 <|
  bdI (F_X7_fewestOf u (((1 : Int32) <<< ((u.1 1 (0 : Int32).toNatClampNeg) &&& 31)) - (1 : Int32))) fun r25 u24 =>
  F_X7_tell_25 fu u24 (((1 : Int32) <<< ((u.1 1 (0 : Int32).toNatClampNeg) &&& 31)) - (1 : Int32)) r25 (-1 : Int32) (0 : Int32) (0 : Int32)
def F_X7_withHow_38 (k8 : Mem → Int32 → Int32 → Int32 → Option (Int32 × Mem)) (u : Mem) (v1 : Int32) (v3 : Int32) (y0 : Int32) (y1 : Int32) : Option (Int32 × Mem) :=
  k8 u v1 (y0 + y1) (v3 + 1)
def F_X7_withHow_37 (k8 : Mem → Int32 → Int32 → Int32 → Option (Int32 × Mem)) (u : Mem) (v1 : Int32) (v3 : Int32) (y0 : Int32) : Option (Int32 × Mem) :=
  F_X7_withHow_38 k8 u v1 v3 y0 (0 : Int32)
def F_X7_withHow_8  : Nat → Mem → Int32 → Int32 → Int32 → Option (Int32 × Mem)
  | 0, _, _, _, _ => none
  | n + 1, u, v1, v2, v3 =>
    gd (0 : Int32) 50 <|
    if (u.1 1 (0 : Int32).toNatClampNeg) ≤ v3 then (
      some (v2, u)
    ) else (
      if v3 = v1 then (
        F_X7_withHow_37 (F_X7_withHow_8 n) u v1 v3 v2
      ) else (
        bdI (F_X7_areOfOne u v1 v3) fun r5 u4 =>
        if r5 = 0 then (
          F_X7_withHow_37 (F_X7_withHow_8 n) u4 v1 v3 v2
        ) else (
          F_X7_withHow_38 (F_X7_withHow_8 n) u4 v1 v3 v2 (1 : Int32)
        )
      )
    )
def F_X7_withHow  (u : Mem) (x1 : Int32) : Option (Int32 × Mem) :=
  bdV (F_X7_findCan u) fun u8 =>
  F_X7_withHow_8 fu u8 x1 (0 : Int32) (0 : Int32)
def F_X7_kind_79 (k30 : Mem → Int32 → Int32 → Int32 → Int32 → Int32 → Option (Int32 × Mem)) (u : Mem) (v1 : Int32) (v2 : Int32) (v3 : Int32) (v5 : Int32) (y0 : Int32) : Option (Int32 × Mem) :=
  k30 u v1 v2 v3 y0 (v5 + 1)
def F_X7_kind_64 (k30 : Mem → Int32 → Int32 → Int32 → Int32 → Int32 → Option (Int32 × Mem)) (u : Mem) (v1 : Int32) (v2 : Int32) (v4 : Int32) (v5 : Int32) (v6 : Int32) (y0 : Int32) : Option (Int32 × Mem) :=
  if v6 ≤ v4 then (
    F_X7_kind_79 k30 u v1 v2 y0 v5 v4
  ) else (
    F_X7_kind_79 k30 u v1 v2 y0 v5 v6
  )
def F_X7_kind_30  : Nat → Mem → Int32 → Int32 → Int32 → Int32 → Int32 → Option (Int32 × Mem)
  | 0, _, _, _, _, _, _ => none
  | n + 1, u, v1, v2, v3, v4, v5 =>
    if (5 : Int32) < v5 then (
      bdV (F_X7_sets u v1 (0 : Int32) v2) fun u3 =>
      some (v3, u3)
    ) else (
      bdV (F_X7_sets u v1 (0 : Int32) v5) fun u6 =>
      bdI (F_X7_withHow u6 v1) fun r10 u9 =>
      if r10 ≤ v4 then (
        F_X7_kind_64 (F_X7_kind_30 n) u9 v1 v2 v4 v5 r10 v3
      ) else (
        F_X7_kind_64 (F_X7_kind_30 n) u9 v1 v2 v4 v5 r10 v5
      )
    )
def F_X7_kind  (u : Mem) (x1 : Int32) : Option (Int32 × Mem) :=
  bdI (F_X7_isPrint u x1) fun r14 u13 =>
  if r14 = 0 then (
    bdI (F_X7_finds u13 (-1000000001 : Int32)) fun r21 u20 =>
    some (r21, u20)
  ) else (
    bdI (F_X7_its u13 x1 (0 : Int32)) fun r18 u17 =>
    F_X7_kind_30 fu u17 x1 r18 (0 : Int32) (-1 : Int32) (0 : Int32)
  )
def F_X7_pairs_4  : Nat → Mem → Int32 → Int32 → Option (Int32 × Mem)
  | 0, _, _, _ => none
  | n + 1, u, v1, v2 =>
    gd (0 : Int32) 50 <|
    if (u.1 1 (0 : Int32).toNatClampNeg) ≤ v2 then (
      some ((v1 / (2 : Int32)), u)
    ) else (
      bdI (F_X7_withHow u v2) fun r4 u3 =>
      F_X7_pairs_4 n u3 (v1 + r4) (v2 + 1)
    )
def F_X7_pairs  (u : Mem)  : Option (Int32 × Mem) :=
  F_X7_pairs_4 fu u (0 : Int32) (0 : Int32)
def F_X7_feed_38  : Nat → Mem → Int32 → Int32 → Option (Int32 × Mem)
  | 0, _, _, _ => none
  | n + 1, u, v1, v3 =>
    if v3 < 0 then (
      some ((u.1 0 9), u)
    ) else (
      gd (u.1 0 9) 120 <|
      bdV (some (sI u 9 (u.1 0 9).toNatClampNeg ((v1 >>> (((8 : Int32) * v3) &&& 31)) &&& (255 : Int32)))) fun u3 =>
      F_X7_feed_38 n (sI u3 0 9 ((u3.1 0 9) + (1 : Int32))) v1 (v3 - 1)
    )
def F_X7_feed  (u : Mem) (x1 : Int32) (x2 : Int32) : Option (Int32 × Mem) :=
  bdI (F_X7_in u x2 (1 : Int32) (4 : Int32)) fun r6 u5 =>
  if r6 = 0 then (
    bdI (F_X7_finds u5 (-1000000001 : Int32)) fun r14 u13 =>
    some (r14, u13)
  ) else (
    if ((u5.1 0 9) + x2) ≤ (120 : Int32) then (
      F_X7_feed_38 fu u5 x1 (x2 - (1 : Int32))
    ) else (
      bdI (F_X7_finds u5 (-1000000002 : Int32)) fun r11 u10 =>
      some (r11, u10)
    )
  )
def F_X7_wipe  (u : Mem)  : Option (Int32 × Mem) :=
  some ((u.1 0 9), (sI u 0 9 (0 : Int32)))
def F_X7_moveAll_84 (k48 : Mem → Int32 → Nat → Int32 → Option Mem) (u : Mem) (v1 : Int32) (v3 : Nat) (v4 : Int32) : Option Mem :=
  k48 u v1 v3 (v4 + 1)
def F_X7_moveAll_48  : Nat → Mem → Int32 → Nat → Int32 → Option Mem
  | 0, _, _, _, _ => none
  | n + 1, u, v1, v3, v4 =>
    if (12 : Int32) ≤ v4 then (
      some u
    ) else (
      if v1 = 0 then (
        gd v4 (lenM v3) <|
        gd v4 12 <|
        F_X7_moveAll_84 (F_X7_moveAll_48 n) (sL u 2 v4.toNatClampNeg (u.2 v3 v4.toNatClampNeg)) v1 v3 v4
      ) else (
        gd v4 12 <|
        gd v4 (lenM v3) <|
        F_X7_moveAll_84 (F_X7_moveAll_48 n) (sL u v3 v4.toNatClampNeg (u.2 2 v4.toNatClampNeg)) v1 v3 v4
      )
    )
def F_X7_moveAll_39 (k3 : Mem → Int32 → Nat → Nat → Int32 → Option Mem) (u : Mem) (v1 : Int32) (v2 : Nat) (v3 : Nat) (v4 : Int32) : Option Mem :=
  k3 u v1 v2 v3 (v4 + 1)
def F_X7_moveAll_3  : Nat → Mem → Int32 → Nat → Nat → Int32 → Option Mem
  | 0, _, _, _, _, _ => none
  | n + 1, u, v1, v2, v3, v4 =>
    if (50 : Int32) ≤ v4 then (
      F_X7_moveAll_48 fu u v1 v3 (0 : Int32)
    ) else (
      if v1 = 0 then (
        gd v4 (lenM v2) <|
        gd v4 50 <|
        F_X7_moveAll_39 (F_X7_moveAll_3 n) (sI u 1 v4.toNatClampNeg (u.1 v2 v4.toNatClampNeg)) v1 v2 v3 v4
      ) else (
        gd v4 50 <|
        gd v4 (lenM v2) <|
        F_X7_moveAll_39 (F_X7_moveAll_3 n) (sI u v2 v4.toNatClampNeg (u.1 1 v4.toNatClampNeg)) v1 v2 v3 v4
      )
    )
def F_X7_moveAll  (u : Mem) (x1 : Int32) (x2 : Nat) (x3 : Nat) : Option Mem :=
  F_X7_moveAll_3 fu u x1 x2 x3 (0 : Int32)
def F_X7_byteAt_18  (u : Mem) (y0 : Int32) : Option (Int32 × Mem) :=
  some (y0, u)
def F_X7_byteAt  (u : Mem) (x1 : Int32) : Option (Int32 × Mem) :=
  if (u.1 0 9) ≤ x1 then (
    F_X7_byteAt_18 u (-1 : Int32)
  ) else (
    gd x1 120 <|
    F_X7_byteAt_18 u (u.1 9 x1.toNatClampNeg)
  )
def F_X7_isLetter  (u : Mem) (x0 : Int32) : Option (Int32 × Mem) :=
  bdI (F_X7_in u x0 (97 : Int32) (122 : Int32)) fun r2 u1 =>
  gz r2 <|
  some (r2, u1)
def F_X7_isDigit  (u : Mem) (x0 : Int32) : Option (Int32 × Mem) :=
  bdI (F_X7_in u x0 (48 : Int32) (57 : Int32)) fun r2 u1 =>
  gz r2 <|
  some (r2, u1)
def F_X7_advance_281  (u : Mem)  : Option Mem :=
  some u
def F_X7_advance_265 (k207 : Mem → Option Mem) (u : Mem) (y1 : Int32) : Option Mem :=
  k207 (sI (sI u 0 14 y1) 0 12 (((sI u 0 14 y1).1 0 12) + (1 : Int32)))
def F_X7_advance_207  : Nat → Mem → Option Mem
  | 0, _ => none
  | n + 1, u =>
    if (u.1 0 10) = (2 : Int32) then (
      bdI (F_X7_byteAt u (u.1 0 12)) fun r3 u2 =>
      bdI (F_X7_isDigit u2 r3) fun r6 u5 =>
      if r6 = 0 then (
        F_X7_advance_281 u5
      ) else (
        if (u5.1 0 14) ≤ (999 : Int32) then (
          bdI (F_X7_byteAt u5 (u5.1 0 12)) fun r11 u10 =>
          F_X7_advance_265 (F_X7_advance_207 n) u10 ((((10 : Int32) * (u5.1 0 14)) + r11) - (48 : Int32))
        ) else (
          F_X7_advance_265 (F_X7_advance_207 n) u5 (10000 : Int32)
        )
      )
    ) else (
      F_X7_advance_281 u
    )
def F_X7_advance_191 (k126 : Mem → Option Mem) (u : Mem) (y1 : Int64) : Option Mem :=
  k126 (sI (sL u 0 13 y1) 0 12 (((sL u 0 13 y1).1 0 12) + (1 : Int32)))
def F_X7_advance_126  : Nat → Mem → Option Mem
  | 0, _ => none
  | n + 1, u =>
    if (u.1 0 10) = (1 : Int32) then (
      bdI (F_X7_byteAt u (u.1 0 12)) fun r15 u14 =>
      bdI (F_X7_isLetter u14 r15) fun r18 u17 =>
      if r18 = 0 then (
        F_X7_advance_207 fu u17
      ) else (
        if (12 : Int32) ≤ ((u17.1 0 12) - (u17.1 0 11)) then (
          F_X7_advance_191 (F_X7_advance_126 n) u17 (-1 : Int64)
        ) else (
          bdI (F_X7_byteAt u17 (u17.1 0 12)) fun r23 u22 =>
          F_X7_advance_191 (F_X7_advance_126 n) u22 ((((27 : Int64) * (u17.2 0 13)) + r23.toInt64) - (96 : Int64))
        )
      )
    ) else (
      F_X7_advance_207 fu u
    )
def F_X7_advance_105  (u : Mem) (y1 : Int32) : Option Mem :=
  if ((sI u 0 14 y1).1 0 10) = (3 : Int32) then (
    F_X7_advance_126 fu (sI (sI u 0 14 y1) 0 12 (((sI u 0 14 y1).1 0 12) + (1 : Int32)))
  ) else (
    F_X7_advance_126 fu (sI u 0 14 y1)
  )
def F_X7_advance_83  (u : Mem) (v1 : Int32) (y1 : Int32) : Option Mem :=
  if ((sL (sI u 0 10 y1) 0 13 (0 : Int64)).1 0 10) = (2 : Int32) then (
    F_X7_advance_105 (sL (sI u 0 10 y1) 0 13 (0 : Int64)) (0 : Int32)
  ) else (
    F_X7_advance_105 (sL (sI u 0 10 y1) 0 13 (0 : Int64)) v1
  )
def F_X7_advance_8  : Nat → Mem → Option Mem
  | 0, _ => none
  | n + 1, u =>
    bdI (F_X7_byteAt u (u.1 0 11)) fun r28 u27 =>
    if r28 = (32 : Int32) then (
      F_X7_advance_8 n (sI u27 0 11 ((u27.1 0 11) + (1 : Int32)))
    ) else (
      bdI (F_X7_byteAt (sI u27 0 12 (u27.1 0 11)) ((sI u27 0 12 (u27.1 0 11)).1 0 11)) fun r32 u31 =>
      if 0 ≤ r32 then (
        bdI (F_X7_isLetter u31 r32) fun r36 u35 =>
        if r36 = 0 then (
          bdI (F_X7_isDigit u35 r32) fun r40 u39 =>
          if r40 = 0 then (
            F_X7_advance_83 u39 r32 (3 : Int32)
          ) else (
            F_X7_advance_83 u39 r32 (2 : Int32)
          )
        ) else (
          F_X7_advance_83 u35 r32 (1 : Int32)
        )
      ) else (
        F_X7_advance_83 u31 r32 (0 : Int32)
      )
    )
def F_X7_advance  (u : Mem)  : Option Mem :=
  F_X7_advance_8 fu (sI u 0 11 (u.1 0 12))
def F_X7_isWord_22  (u : Mem) (y0 : Int32) : Option (Int32 × Mem) :=
  gz y0 <|
  some (y0, u)
def F_X7_isWord_21  (u : Mem)  : Option (Int32 × Mem) :=
  F_X7_isWord_22 u (0 : Int32)
def F_X7_isWord  (u : Mem) (x1 : Int64) : Option (Int32 × Mem) :=
  if (u.1 0 10) = (1 : Int32) then (
    if (lg_cmp (u.2 0 13) x1) = 0 then (
      F_X7_isWord_22 u (1 : Int32)
    ) else (
      F_X7_isWord_21 u
    )
  ) else (
    F_X7_isWord_21 u
  )
def F_X7_kindHere_85  (u : Mem) (y0 : Int32) : Option (Int32 × Mem) :=
  some (y0, u)
def F_X7_kindHere  (u : Mem)  : Option (Int32 × Mem) :=
  bdI (F_X7_isWord u (8864309 : Int64)) fun r2 u1 =>
  if r2 = 0 then (
    bdI (F_X7_isWord u1 (1489745 : Int64)) fun r6 u5 =>
    if r6 = 0 then (
      bdI (F_X7_isWord u5 (60311 : Int64)) fun r10 u9 =>
      if r10 = 0 then (
        bdI (F_X7_isWord u9 (94424593 : Int64)) fun r14 u13 =>
        if r14 = 0 then (
          bdI (F_X7_isWord u13 (9667127 : Int64)) fun r18 u17 =>
          if r18 = 0 then (
            bdI (F_X7_isWord u17 (189443911 : Int64)) fun r22 u21 =>
            if r22 = 0 then (
              F_X7_kindHere_85 u21 (-1 : Int32)
            ) else (
              F_X7_kindHere_85 u21 (5 : Int32)
            )
          ) else (
            F_X7_kindHere_85 u17 (4 : Int32)
          )
        ) else (
          F_X7_kindHere_85 u13 (3 : Int32)
        )
      ) else (
        F_X7_kindHere_85 u9 (2 : Int32)
      )
    ) else (
      F_X7_kindHere_85 u5 (1 : Int32)
    )
  ) else (
    F_X7_kindHere_85 u1 (0 : Int32)
  )
def F_X7_wantNumber_49  (u : Mem) (v3 : Int32) : Option (Int32 × Mem) :=
  some (v3, u)
def F_X7_wantNumber_35  (u : Mem) (v3 : Int32) (y1 : Int32) : Option (Int32 × Mem) :=
  gz y1 <|
  if ((sI u 0 15 y1).1 0 15) = 0 then (
    F_X7_wantNumber_49 (sI u 0 15 y1) v3
  ) else (
    bdV (F_X7_advance (sI u 0 15 y1)) fun u3 =>
    F_X7_wantNumber_49 u3 v3
  )
def F_X7_wantNumber_34  (u : Mem) (v3 : Int32) : Option (Int32 × Mem) :=
  F_X7_wantNumber_35 u v3 (0 : Int32)
def F_X7_wantNumber  (u : Mem) (x1 : Int32) (x2 : Int32) : Option (Int32 × Mem) :=
  if (u.1 0 15) = 0 then (
    F_X7_wantNumber_34 u (u.1 0 14)
  ) else (
    if (u.1 0 10) = (2 : Int32) then (
      bdI (F_X7_in u (u.1 0 14) x1 x2) fun r9 u8 =>
      if r9 = 0 then (
        F_X7_wantNumber_34 u8 (u.1 0 14)
      ) else (
        F_X7_wantNumber_35 u8 (u.1 0 14) (1 : Int32)
      )
    ) else (
      F_X7_wantNumber_34 u (u.1 0 14)
    )
  )
def F_X7_mayWant_15  (u : Mem) (v5 : Int32) : Option (Int32 × Mem) :=
  some (v5, u)
def F_X7_mayWant  (u : Mem) (x1 : Int64) (x3 : Int32) (x4 : Int32) (x5 : Int32) : Option (Int32 × Mem) :=
  if (u.1 0 15) = 0 then (
    F_X7_mayWant_15 u x5
  ) else (
    bdI (F_X7_isWord u x1) fun r3 u2 =>
    if r3 = 0 then (
      F_X7_mayWant_15 u2 x5
    ) else (
      bdV (F_X7_advance u2) fun u6 =>
      bdI (F_X7_wantNumber u6 x3 x4) fun r10 u9 =>
      some (r10, u9)
    )
  )
def F_X7_wantPrint_209  (u : Mem)  : Option Mem :=
  some u
def F_X7_wantPrint_206  (u : Mem) (y1 : Int32) (y2 : Int64) (y3 : Int32) (y4 : Int32) (y5 : Int32) : Option Mem :=
  bdV (F_X7_addPrint u y1 y2 y3 y4 y5) fun u1 =>
  F_X7_wantPrint_209 u1
def F_X7_wantPrint_182  (u : Mem) (v1 : Int32) (v2 : Int64) (v5 : Int32) (v6 : Int32) (v7 : Int32) : Option Mem :=
  if (u.1 0 15) = 0 then (
    F_X7_wantPrint_209 u
  ) else (
    if v7 = 0 then (
      F_X7_wantPrint_206 u v1 v2 v5 v6 (0 : Int32)
    ) else (
      F_X7_wantPrint_206 u v1 v2 v5 v6 (1 : Int32)
    )
  )
def F_X7_wantPrint_171  (u : Mem) (v1 : Int32) (v2 : Int64) (v5 : Int32) (v6 : Int32) (y0 : Int32) : Option Mem :=
  if y0 = 0 then (
    F_X7_wantPrint_182 u v1 v2 v5 v6 y0
  ) else (
    bdV (F_X7_advance u) fun u7 =>
    F_X7_wantPrint_182 u7 v1 v2 v5 v6 y0
  )
def F_X7_wantPrint_170  (u : Mem) (v1 : Int32) (v2 : Int64) (v5 : Int32) (v6 : Int32) : Option Mem :=
  F_X7_wantPrint_171 u v1 v2 v5 v6 (0 : Int32)
def F_X7_wantPrint_119  (u : Mem) (v1 : Int32) (v2 : Int64) : Option Mem :=
  bdI (F_X7_mayWant u (12403754 : Int64) (1 : Int32) (9999 : Int32) (1000 : Int32)) fun r11 u10 =>
  bdI (F_X7_mayWant u10 (495765 : Int64) (0 : Int32) (2000 : Int32) (0 : Int32)) fun r14 u13 =>
  if (u13.1 0 15) = 0 then (
    F_X7_wantPrint_170 u13 v1 v2 r11 r14
  ) else (
    bdI (F_X7_isWord u13 (377771 : Int64)) fun r18 u17 =>
    if r18 = 0 then (
      F_X7_wantPrint_170 u17 v1 v2 r11 r14
    ) else (
      F_X7_wantPrint_171 u17 v1 v2 r11 r14 (1 : Int32)
    )
  )
def F_X7_wantPrint_90 (k36 : Mem → Int32 → Int64 → Int32 → Option Mem) (u : Mem) (v1 : Int32) (v2 : Int64) (v4 : Int32) (y1 : Int32) : Option Mem :=
  gz y1 <|
  if ((sI u 0 15 y1).1 0 15) = 0 then (
    k36 (sI u 0 15 y1) v1 v2 v4
  ) else (
    bdV (F_X7_advance (sI u 0 15 y1)) fun u23 =>
    k36 u23 v1 (v2 ||| ((1 : Int64) <<< (((sI u 0 15 y1).1 0 14).toInt64 &&& 63))) (v4 + 1)
  )
def F_X7_wantPrint_89 (k36 : Mem → Int32 → Int64 → Int32 → Option Mem) (u : Mem) (v1 : Int32) (v2 : Int64) (v4 : Int32) : Option Mem :=
  F_X7_wantPrint_90 k36 u v1 v2 v4 (0 : Int32)
def F_X7_wantPrint_36  : Nat → Mem → Int32 → Int64 → Int32 → Option Mem
  | 0, _, _, _, _ => none
  | n + 1, u, v1, v2, v4 =>
    if (u.1 0 15) = 0 then (
      F_X7_wantPrint_119 u v1 v2
    ) else (
      if (u.1 0 10) = (2 : Int32) then (
        if (8 : Int32) ≤ v4 then (
          F_X7_wantPrint_89 (F_X7_wantPrint_36 n) u v1 v2 v4
        ) else (
          bdI (F_X7_in u (u.1 0 14) (0 : Int32) (39 : Int32)) fun r30 u29 =>
          if r30 = 0 then (
            F_X7_wantPrint_89 (F_X7_wantPrint_36 n) u29 v1 v2 v4
          ) else (
            if (lg_cmp ((v2 >>> ((u29.1 0 14).toInt64 &&& 63)) &&& (1 : Int64)) (0 : Int64)) = 0 then (
              F_X7_wantPrint_90 (F_X7_wantPrint_36 n) u29 v1 v2 v4 (1 : Int32)
            ) else (
              F_X7_wantPrint_89 (F_X7_wantPrint_36 n) u29 v1 v2 v4
            )
          )
        )
      ) else (
        F_X7_wantPrint_119 u v1 v2
      )
    )
def F_X7_wantPrint_31  (u : Mem) (v1 : Int32) : Option Mem :=
  F_X7_wantPrint_36 fu u v1 (0 : Int64) (0 : Int32)
def F_X7_wantPrint_17  (u : Mem) (v1 : Int32) (y1 : Int32) : Option Mem :=
  gz y1 <|
  if ((sI u 0 15 y1).1 0 15) = 0 then (
    F_X7_wantPrint_31 (sI u 0 15 y1) v1
  ) else (
    bdV (F_X7_advance (sI u 0 15 y1)) fun u36 =>
    F_X7_wantPrint_31 u36 v1
  )
def F_X7_wantPrint  (u : Mem) (x1 : Int32) : Option Mem :=
  gd (0 : Int32) 50 <|
  if (12 : Int32) ≤ (u.1 1 (0 : Int32).toNatClampNeg) then (
    F_X7_wantPrint_17 u x1 (0 : Int32)
  ) else (
    F_X7_wantPrint_17 u x1 (1 : Int32)
  )
def F_X7_wantSlack_27  (u : Mem)  : Option Mem :=
  some u
def F_X7_wantSlack  (u : Mem)  : Option Mem :=
  bdV (F_X7_advance u) fun u1 =>
  bdI (F_X7_wantNumber u1 (0 : Int32) (999 : Int32)) fun r5 u4 =>
  if (u4.1 0 15) = 0 then (
    F_X7_wantSlack_27 u4
  ) else (
    gd (1 : Int32) 50 <|
    F_X7_wantSlack_27 (sI u4 1 (1 : Int32).toNatClampNeg r5)
  )
def F_X7_wantLook_32  (u : Mem)  : Option Mem :=
  some u
def F_X7_wantLook  (u : Mem)  : Option Mem :=
  bdV (F_X7_advance u) fun u1 =>
  gd (0 : Int32) 50 <|
  bdI (F_X7_wantNumber u1 (0 : Int32) ((u1.1 1 (0 : Int32).toNatClampNeg) - (1 : Int32))) fun r6 u5 =>
  if (u5.1 0 15) = 0 then (
    F_X7_wantLook_32 u5
  ) else (
    bdV (F_X7_sets u5 r6 (3 : Int32) (1 : Int32)) fun u9 =>
    F_X7_wantLook_32 u9
  )
def F_X7_wantItem_57  (u : Mem)  : Option Mem :=
  some u
def F_X7_wantItem  (u : Mem)  : Option Mem :=
  bdI (F_X7_kindHere u) fun r2 u1 =>
  if r2 < 0 then (
    bdI (F_X7_isWord u1 (10334396 : Int64)) fun r6 u5 =>
    if r6 = 0 then (
      bdI (F_X7_isWord u5 (247547 : Int64)) fun r10 u9 =>
      if r10 = 0 then (
        F_X7_wantItem_57 (sI u9 0 15 (0 : Int32))
      ) else (
        bdV (F_X7_wantLook u9) fun u13 =>
        F_X7_wantItem_57 u13
      )
    ) else (
      bdV (F_X7_wantSlack u5) fun u16 =>
      F_X7_wantItem_57 u16
    )
  ) else (
    bdI (F_X7_kindHere u1) fun r20 u19 =>
    bdV (F_X7_wantPrint u19 r20) fun u22 =>
    F_X7_wantItem_57 u22
  )
def F_X7_text_95  (u : Mem) (v1 : Int32) (y1 : Int32) : Option (Int32 × Mem) :=
  gz y1 <|
  if ((sI (sI u 0 15 y1) 0 9 (0 : Int32)).1 0 15) = 0 then (
    bdV (F_X7_moveAll (sI (sI u 0 15 y1) 0 9 (0 : Int32)) (0 : Int32) 15 17) fun u3 =>
    some (((-1 : Int32) - (u3.1 0 11)), u3)
  ) else (
    some (v1, (sI (sI u 0 15 y1) 0 9 (0 : Int32)))
  )
def F_X7_text_94  (u : Mem) (v1 : Int32) : Option (Int32 × Mem) :=
  F_X7_text_95 u v1 (0 : Int32)
def F_X7_text_71 (k27 : Mem → Int32 → Int32 → Option (Int32 × Mem)) (u : Mem) (v1 : Int32) (y0 : Int32) : Option (Int32 × Mem) :=
  k27 u v1 y0
def F_X7_text_70 (k27 : Mem → Int32 → Int32 → Option (Int32 × Mem)) (u : Mem) (v1 : Int32) : Option (Int32 × Mem) :=
  F_X7_text_71 k27 u v1 (0 : Int32)
def F_X7_text_27  : Nat → Mem → Int32 → Int32 → Option (Int32 × Mem)
  | 0, _, _, _ => none
  | n + 1, u, v1, v2 =>
    if v2 = 0 then (
      if (u.1 0 15) = 0 then (
        F_X7_text_94 u v1
      ) else (
        if (u.1 0 10) = 0 then (
          F_X7_text_95 u v1 (1 : Int32)
        ) else (
          F_X7_text_94 u v1
        )
      )
    ) else (
      bdV (F_X7_advance u) fun u9 =>
      bdV (F_X7_wantItem u9) fun u12 =>
      if (u12.1 0 15) = 0 then (
        F_X7_text_70 (F_X7_text_27 n) u12 (v1 + 1)
      ) else (
        if (u12.1 0 10) = (3 : Int32) then (
          if (u12.1 0 14) = (59 : Int32) then (
            F_X7_text_71 (F_X7_text_27 n) u12 (v1 + 1) (1 : Int32)
          ) else (
            F_X7_text_70 (F_X7_text_27 n) u12 (v1 + 1)
          )
        ) else (
          F_X7_text_70 (F_X7_text_27 n) u12 (v1 + 1)
        )
      )
    )
def F_X7_text  (u : Mem)  : Option (Int32 × Mem) :=
  bdV (F_X7_moveAll u (1 : Int32) 15 17) fun u18 =>
  F_X7_text_27 fu (sI (sI u18 0 12 (0 : Int32)) 0 15 (1 : Int32)) (0 : Int32) (1 : Int32)
def F_X7_isSheet  (u : Mem) (x0 : Int32) : Option (Int32 × Mem) :=
  bdI (F_X7_in u x0 (0 : Int32) (3 : Int32)) fun r2 u1 =>
  gz r2 <|
  some (r2, u1)
def F_X7_sheet_29  (u : Mem)  : Option (Int32 × Mem) :=
  bdI (F_X7_finds u (-1000000001 : Int32)) fun r2 u1 =>
  some (r2, u1)
def F_X7_sheet_85  : Nat → Mem → Int32 → Int32 → Option (Int32 × Mem)
  | 0, _, _, _ => none
  | n + 1, u, v1, v4 =>
    if (40 : Int32) ≤ v4 then (
      gd v1 4 <|
      some ((u.1 11 v1.toNatClampNeg), u)
    ) else (
      gd (((40 : Int32) * v1) + v4) 160 <|
      F_X7_sheet_85 n (sL u 12 (((40 : Int32) * v1) + v4).toNatClampNeg (0 : Int64)) v1 (v4 + 1)
    )
def F_X7_sheet_81  (u : Mem) (v1 : Int32) (y1 : Int32) (y2 : Int32) : Option (Int32 × Mem) :=
  gd y1 4 <|
  F_X7_sheet_85 fu (sI u 11 y1.toNatClampNeg y2) v1 (0 : Int32)
def F_X7_sheet_36  (u : Mem) (v1 : Int32) (v2 : Int32) (v3 : Int32) : Option (Int32 × Mem) :=
  if 0 ≤ v3 then (
    if v3 ≤ (40 : Int32) then (
      gd v1 4 <|
      if v2 = 0 then (
        F_X7_sheet_81 (sI u 10 v1.toNatClampNeg v2) v1 v1 (0 : Int32)
      ) else (
        F_X7_sheet_81 (sI u 10 v1.toNatClampNeg v2) v1 v1 v3
      )
    ) else (
      bdI (F_X7_finds u (-1000000001 : Int32)) fun r13 u12 =>
      some (r13, u12)
    )
  ) else (
    bdI (F_X7_finds u (-1000000007 : Int32)) fun r16 u15 =>
    some (r16, u15)
  )
def F_X7_sheet  (u : Mem) (x1 : Int32) (x2 : Int32) (x3 : Int32) : Option (Int32 × Mem) :=
  bdI (F_X7_isSheet u x1) fun r19 u18 =>
  if r19 = 0 then (
    F_X7_sheet_29 u18
  ) else (
    if x2 = 0 then (
      F_X7_sheet_36 u18 x1 x2 x3
    ) else (
      if x2 = (8 : Int32) then (
        F_X7_sheet_36 u18 x1 x2 x3
      ) else (
        if x2 = (16 : Int32) then (
          F_X7_sheet_36 u18 x1 x2 x3
        ) else (
          if x2 = (64 : Int32) then (
            F_X7_sheet_36 u18 x1 x2 x3
          ) else (
            F_X7_sheet_29 u18
          )
        )
      )
    )
  )
def F_X7_narrow_33  (u : Mem) (y0 : Int64) : Option (Int64 × Mem) :=
  some (y0, u)
def F_X7_narrow  (u : Mem) (x0 : Int32) (x1 : Int64) : Option (Int64 × Mem) :=
  if x0 = (8 : Int32) then (
    F_X7_narrow_33 u ((x1 <<< ((56 : Int32).toInt64 &&& 63)) >>> ((56 : Int32).toInt64 &&& 63))
  ) else (
    if x0 = (16 : Int32) then (
      F_X7_narrow_33 u ((x1 <<< ((48 : Int32).toInt64 &&& 63)) >>> ((48 : Int32).toInt64 &&& 63))
    ) else (
      F_X7_narrow_33 u x1
    )
  )
def F_X7_write  (u : Mem) (x1 : Int32) (x2 : Int32) (x3 : Int64) : Option (Int64 × Mem) :=
  bdI (F_X7_isSheet u x1) fun r2 u1 =>
  if r2 = 0 then (
    bdI (F_X7_finds u1 (-1000000001 : Int32)) fun r25 u24 =>
    some (r25.toInt64, u24)
  ) else (
    gd x1 4 <|
    if (u1.1 10 x1.toNatClampNeg) = 0 then (
      bdI (F_X7_finds u1 (-1000000006 : Int32)) fun r22 u21 =>
      some (r22.toInt64, u21)
    ) else (
      gd x1 4 <|
      bdI (F_X7_in u1 x2 (0 : Int32) ((u1.1 11 x1.toNatClampNeg) - (1 : Int32))) fun r9 u8 =>
      if r9 = 0 then (
        bdI (F_X7_finds u8 (-1000000001 : Int32)) fun r19 u18 =>
        some (r19.toInt64, u18)
      ) else (
        gd (((40 : Int32) * x1) + x2) 160 <|
        gd x1 4 <|
        bdL (F_X7_narrow u8 (u8.1 10 x1.toNatClampNeg) x3) fun r15 u14 =>
        gd (((40 : Int32) * x1) + x2) 160 <|
        some ((u8.2 12 (((40 : Int32) * x1) + x2).toNatClampNeg), (sL u14 12 (((40 : Int32) * x1) + x2).toNatClampNeg r15))
      )
    )
  )
def F_X7_isPart_35  (u : Mem) (y0 : Int32) : Option (Int32 × Mem) :=
  gz y0 <|
  some (y0, u)
def F_X7_isPart_34  (u : Mem)  : Option (Int32 × Mem) :=
  F_X7_isPart_35 u (0 : Int32)
def F_X7_isPart  (u : Mem) (x1 : Int32) (x2 : Int32) (x3 : Int32) : Option (Int32 × Mem) :=
  if x2 < 0 then (
    F_X7_isPart_34 u
  ) else (
    if x3 < 0 then (
      F_X7_isPart_34 u
    ) else (
      gd x1 4 <|
      if (u.1 11 x1.toNatClampNeg) < x3 then (
        F_X7_isPart_34 u
      ) else (
        gd x1 4 <|
        if ((u.1 11 x1.toNatClampNeg) - x3) < x2 then (
          F_X7_isPart_34 u
        ) else (
          F_X7_isPart_35 u (1 : Int32)
        )
      )
    )
  )
def F_X7_copy_14  (u : Mem)  : Option (Int32 × Mem) :=
  bdI (F_X7_finds u (-1000000001 : Int32)) fun r2 u1 =>
  some (r2, u1)
def F_X7_copy_39  (u : Mem)  : Option (Int32 × Mem) :=
  bdI (F_X7_finds u (-1000000006 : Int32)) fun r5 u4 =>
  some (r5, u4)
def F_X7_copy_92  (u : Mem)  : Option (Int32 × Mem) :=
  bdI (F_X7_finds u (-1000000001 : Int32)) fun r8 u7 =>
  some (r8, u7)
def F_X7_copy_139  : Nat → Mem → Int32 → Int32 → Int32 → Int32 → Option (Int32 × Mem)
  | 0, _, _, _, _, _ => none
  | n + 1, u, v3, v4, v5, v6 =>
    if v5 ≤ v6 then (
      some (v5, u)
    ) else (
      gd v6 40 <|
      gd ((((40 : Int32) * v3) + v4) + v6) 160 <|
      bdV (some (sL u 12 ((((40 : Int32) * v3) + v4) + v6).toNatClampNeg (u.2 13 v6.toNatClampNeg))) fun u13 =>
      F_X7_copy_139 n u13 v3 v4 v5 (v6 + 1)
    )
def F_X7_copy_102  : Nat → Mem → Int32 → Int32 → Int32 → Int32 → Int32 → Int32 → Option (Int32 × Mem)
  | 0, _, _, _, _, _, _, _ => none
  | n + 1, u, v1, v2, v3, v4, v5, v6 =>
    if v5 ≤ v6 then (
      F_X7_copy_139 fu u v3 v4 v5 (0 : Int32)
    ) else (
      gd ((((40 : Int32) * v1) + v2) + v6) 160 <|
      gd v6 40 <|
      bdV (some (sL u 13 v6.toNatClampNeg (u.2 12 ((((40 : Int32) * v1) + v2) + v6).toNatClampNeg))) fun u18 =>
      F_X7_copy_102 n u18 v1 v2 v3 v4 v5 (v6 + 1)
    )
def F_X7_copy  (u : Mem) (x1 : Int32) (x2 : Int32) (x3 : Int32) (x4 : Int32) (x5 : Int32) : Option (Int32 × Mem) :=
  bdI (F_X7_isSheet u x1) fun r21 u20 =>
  if r21 = 0 then (
    F_X7_copy_14 u20
  ) else (
    bdI (F_X7_isSheet u20 x3) fun r25 u24 =>
    if r25 = 0 then (
      F_X7_copy_14 u24
    ) else (
      gd x1 4 <|
      if (u24.1 10 x1.toNatClampNeg) = 0 then (
        F_X7_copy_39 u24
      ) else (
        gd x3 4 <|
        if (u24.1 10 x3.toNatClampNeg) = 0 then (
          F_X7_copy_39 u24
        ) else (
          gd x1 4 <|
          gd x3 4 <|
          if (u24.1 10 x1.toNatClampNeg) = (u24.1 10 x3.toNatClampNeg) then (
            bdI (F_X7_isPart u24 x1 x2 x5) fun r36 u35 =>
            if r36 = 0 then (
              F_X7_copy_92 u35
            ) else (
              bdI (F_X7_isPart u35 x3 x4 x5) fun r40 u39 =>
              if r40 = 0 then (
                F_X7_copy_92 u39
              ) else (
                F_X7_copy_102 fu u39 x1 x2 x3 x4 x5 (0 : Int32)
              )
            )
          ) else (
            bdI (F_X7_finds u24 (-1000000003 : Int32)) fun r44 u43 =>
            some (r44, u43)
          )
        )
      )
    )
  )
def F_X7_dates_102  (u : Mem) (v2 : Int32) : Option (Int32 × Mem) :=
  some (v2, u)
def F_X7_dates_96 (k35 : Mem → Int32 → Int32 → Int32 → Option (Int32 × Mem)) (u : Mem) (v1 : Int32) (v2 : Int32) (v3 : Int32) : Option (Int32 × Mem) :=
  k35 u v1 v2 (v3 + 1)
def F_X7_dates_35  : Nat → Mem → Int32 → Int32 → Int32 → Option (Int32 × Mem)
  | 0, _, _, _, _ => none
  | n + 1, u, v1, v2, v3 =>
    gd (0 : Int32) 50 <|
    if (u.1 1 (0 : Int32).toNatClampNeg) ≤ v3 then (
      F_X7_dates_102 u v2
    ) else (
      gd v1 4 <|
      if (u.1 11 v1.toNatClampNeg) ≤ v3 then (
        F_X7_dates_102 u v2
      ) else (
        gd (((40 : Int32) * v1) + v3) 160 <|
        if (lg_cmp (u.2 12 (((40 : Int32) * v1) + v3).toNatClampNeg) (0 : Int64)) < 0 then (
          F_X7_dates_96 (F_X7_dates_35 n) u v1 v2 v3
        ) else (
          if 0 < (lg_cmp (u.2 12 (((40 : Int32) * v1) + v3).toNatClampNeg) (2000 : Int64)) then (
            F_X7_dates_96 (F_X7_dates_35 n) u v1 v2 v3
          ) else (
            bdV (F_X7_sets u v3 (2 : Int32) ((u.2 12 (((40 : Int32) * v1) + v3).toNatClampNeg).toInt32)) fun u8 =>
            F_X7_dates_96 (F_X7_dates_35 n) u8 v1 (v2 + 1) v3
          )
        )
      )
    )
def F_X7_dates  (u : Mem) (x1 : Int32) : Option (Int32 × Mem) :=
  bdI (F_X7_isSheet u x1) fun r12 u11 =>
  if r12 = 0 then (
    bdI (F_X7_finds u11 (-1000000001 : Int32)) fun r21 u20 =>
    some (r21, u20)
  ) else (
    gd x1 4 <|
    if (u11.1 10 x1.toNatClampNeg) = 0 then (
      bdI (F_X7_finds u11 (-1000000006 : Int32)) fun r18 u17 =>
      some (r18, u17)
    ) else (
      F_X7_dates_35 fu u11 x1 (0 : Int32) (0 : Int32)
    )
  )
def F_X7_show_84  (u : Mem) (v2 : Int32) : Option (Int32 × Mem) :=
  some (v2, u)
def F_X7_show_33  : Nat → Mem → Int32 → Int32 → Option (Int32 × Mem)
  | 0, _, _, _ => none
  | n + 1, u, v1, v2 =>
    gd (0 : Int32) 50 <|
    if (u.1 1 (0 : Int32).toNatClampNeg) ≤ v2 then (
      F_X7_show_84 u v2
    ) else (
      gd v1 4 <|
      if (u.1 11 v1.toNatClampNeg) ≤ v2 then (
        F_X7_show_84 u v2
      ) else (
        gd v1 4 <|
        bdL (F_X7_shows u v2) fun r7 u6 =>
        bdL (F_X7_narrow u6 (u.1 10 v1.toNatClampNeg) r7) fun r10 u9 =>
        gd (((40 : Int32) * v1) + v2) 160 <|
        F_X7_show_33 n (sL u9 12 (((40 : Int32) * v1) + v2).toNatClampNeg r10) v1 (v2 + 1)
      )
    )
def F_X7_show  (u : Mem) (x1 : Int32) : Option (Int32 × Mem) :=
  bdI (F_X7_isSheet u x1) fun r14 u13 =>
  if r14 = 0 then (
    bdI (F_X7_finds u13 (-1000000001 : Int32)) fun r23 u22 =>
    some (r23, u22)
  ) else (
    gd x1 4 <|
    if (u13.1 10 x1.toNatClampNeg) = 0 then (
      bdI (F_X7_finds u13 (-1000000006 : Int32)) fun r20 u19 =>
      some (r20, u19)
    ) else (
      F_X7_show_33 fu u13 x1 (0 : Int32)
    )
  )
def F_X7_read_217  (u : Mem) (v3 : Int32) : Option (Int32 × Mem) :=
  some (v3, u)
def F_X7_read_203 (k42 : Mem → Int32 → Int32 → Int32 → Int32 → Option (Int32 × Mem)) (u : Mem) (v1 : Int32) (v2 : Int32) (v4 : Int32) (v8 : Int32) (y0 : Int32) : Option (Int32 × Mem) :=
  k42 u v1 (v2 ||| ((1 : Int32) <<< (v8 &&& 31))) y0 (v4 + 1)
def F_X7_read_182 (k136 : Mem → Int32 → Int32 → Int32 → Int32 → Int32 → Int32 → Option (Int32 × Mem)) (u : Mem) (v1 : Int32) (v2 : Int32) (v4 : Int32) (v8 : Int32) (v9 : Int32) (y0 : Int32) : Option (Int32 × Mem) :=
  k136 u v1 v2 v4 y0 v8 (v9 + 1)
def F_X7_read_177 (k136 : Mem → Int32 → Int32 → Int32 → Int32 → Int32 → Int32 → Option (Int32 × Mem)) (u : Mem) (v1 : Int32) (v2 : Int32) (v4 : Int32) (v8 : Int32) (v9 : Int32) : Option (Int32 × Mem) :=
  F_X7_read_182 k136 u v1 v2 v4 v8 v9 (1 : Int32)
def F_X7_read_181 (k136 : Mem → Int32 → Int32 → Int32 → Int32 → Int32 → Int32 → Option (Int32 × Mem)) (u : Mem) (v1 : Int32) (v2 : Int32) (v4 : Int32) (v8 : Int32) (v9 : Int32) : Option (Int32 × Mem) :=
  F_X7_read_182 k136 u v1 v2 v4 v8 v9 (0 : Int32)
def F_X7_read_136 (k42 : Mem → Int32 → Int32 → Int32 → Int32 → Option (Int32 × Mem)) : Nat → Mem → Int32 → Int32 → Int32 → Int32 → Int32 → Int32 → Option (Int32 × Mem)
  | 0, _, _, _, _, _, _, _ => none
  | n + 1, u, v1, v2, v4, v7, v8, v9 =>
    gd (0 : Int32) 50 <|
    if (u.1 1 (0 : Int32).toNatClampNeg) ≤ v9 then (
      if v7 = 0 then (
        F_X7_read_203 k42 u v1 v2 v4 v8 (v4 + (1 : Int32))
      ) else (
        F_X7_read_203 k42 u v1 v2 v4 v8 (0 : Int32)
      )
    ) else (
      if v7 = 0 then (
        F_X7_read_181 (F_X7_read_136 k42 n) u v1 v2 v4 v8 v9
      ) else (
        bdI (F_X7_has u v2 v9) fun r6 u5 =>
        if r6 = 0 then (
          F_X7_read_177 (F_X7_read_136 k42 n) u5 v1 v2 v4 v8 v9
        ) else (
          gd (((12 : Int32) * v9) + v8) 144 <|
          if (u5.1 4 (((12 : Int32) * v9) + v8).toNatClampNeg) = 0 then (
            F_X7_read_181 (F_X7_read_136 k42 n) u5 v1 v2 v4 v8 v9
          ) else (
            F_X7_read_177 (F_X7_read_136 k42 n) u5 v1 v2 v4 v8 v9
          )
        )
      )
    )
def F_X7_read_131 (k42 : Mem → Int32 → Int32 → Int32 → Int32 → Option (Int32 × Mem)) (u : Mem) (v1 : Int32) (v2 : Int32) (v4 : Int32) (v8 : Int32) (y0 : Int32) : Option (Int32 × Mem) :=
  F_X7_read_136 k42 fu u v1 v2 v4 y0 v8 (0 : Int32)
def F_X7_read_130 (k42 : Mem → Int32 → Int32 → Int32 → Int32 → Option (Int32 × Mem)) (u : Mem) (v1 : Int32) (v2 : Int32) (v4 : Int32) (v8 : Int32) : Option (Int32 × Mem) :=
  F_X7_read_131 k42 u v1 v2 v4 v8 (0 : Int32)
def F_X7_read_110 (k42 : Mem → Int32 → Int32 → Int32 → Int32 → Option (Int32 × Mem)) (u : Mem) (v1 : Int32) (v2 : Int32) (v4 : Int32) (v7 : Int32) (y0 : Int32) : Option (Int32 × Mem) :=
  if v7 = 0 then (
    F_X7_read_130 k42 u v1 v2 v4 y0
  ) else (
    bdI (F_X7_has u v2 y0) fun r13 u12 =>
    if r13 = 0 then (
      F_X7_read_131 k42 u12 v1 v2 v4 y0 (1 : Int32)
    ) else (
      F_X7_read_130 k42 u12 v1 v2 v4 y0
    )
  )
def F_X7_read_96 (k42 : Mem → Int32 → Int32 → Int32 → Int32 → Option (Int32 × Mem)) (u : Mem) (v1 : Int32) (v2 : Int32) (v4 : Int32) (v5 : Int64) (y0 : Int32) : Option (Int32 × Mem) :=
  if y0 = 0 then (
    F_X7_read_110 k42 u v1 v2 v4 y0 (0 : Int32)
  ) else (
    F_X7_read_110 k42 u v1 v2 v4 y0 v5.toInt32
  )
def F_X7_read_95 (k42 : Mem → Int32 → Int32 → Int32 → Int32 → Option (Int32 × Mem)) (u : Mem) (v1 : Int32) (v2 : Int32) (v4 : Int32) (v5 : Int64) : Option (Int32 × Mem) :=
  F_X7_read_96 k42 u v1 v2 v4 v5 (0 : Int32)
def F_X7_read_42  : Nat → Mem → Int32 → Int32 → Int32 → Int32 → Option (Int32 × Mem)
  | 0, _, _, _, _, _ => none
  | n + 1, u, v1, v2, v3, v4 =>
    gd v1 4 <|
    if (u.1 11 v1.toNatClampNeg) ≤ v4 then (
      F_X7_read_217 u v3
    ) else (
      if v3 = 0 then (
        gd (((40 : Int32) * v1) + v4) 160 <|
        if (lg_cmp (u.2 12 (((40 : Int32) * v1) + v4).toNatClampNeg) (0 : Int64)) < 0 then (
          F_X7_read_95 (F_X7_read_42 n) u v1 v2 v4 (u.2 12 (((40 : Int32) * v1) + v4).toNatClampNeg)
        ) else (
          gd (0 : Int32) 50 <|
          if 0 ≤ (lg_cmp (u.2 12 (((40 : Int32) * v1) + v4).toNatClampNeg) (u.1 1 (0 : Int32).toNatClampNeg).toInt64) then (
            F_X7_read_95 (F_X7_read_42 n) u v1 v2 v4 (u.2 12 (((40 : Int32) * v1) + v4).toNatClampNeg)
          ) else (
            F_X7_read_96 (F_X7_read_42 n) u v1 v2 v4 (u.2 12 (((40 : Int32) * v1) + v4).toNatClampNeg) (1 : Int32)
          )
        )
      ) else (
        F_X7_read_217 u v3
      )
    )
def F_X7_read  (u : Mem) (x1 : Int32) : Option (Int32 × Mem) :=
  bdI (F_X7_isSheet u x1) fun r25 u24 =>
  if r25 = 0 then (
    bdI (F_X7_finds u24 (-1000000001 : Int32)) fun r37 u36 =>
    some (r37, u36)
  ) else (
    gd x1 4 <|
    if (u24.1 10 x1.toNatClampNeg) = 0 then (
      bdI (F_X7_finds u24 (-1000000006 : Int32)) fun r34 u33 =>
      some (r34, u33)
    ) else (
      bdV (F_X7_findCan u24) fun u30 =>
      F_X7_read_42 fu u30 x1 (0 : Int32) (0 : Int32) (0 : Int32)
    )
  )
def F_X7_image  (u : Mem)  : Option (Int32 × Mem) :=
  bdV (F_X7_moveAll u (1 : Int32) 14 16) fun u1 =>
  some ((1 : Int32), (sI u1 0 24 (1 : Int32)))
def F_X7_undo  (u : Mem)  : Option (Int32 × Mem) :=
  if (u.1 0 24) = 0 then (
    bdI (F_X7_finds u (-1000000004 : Int32)) fun r7 u6 =>
    some (r7, u6)
  ) else (
    bdV (F_X7_moveAll u (0 : Int32) 14 16) fun u2 =>
    gd (0 : Int32) 50 <|
    some ((u2.1 1 (0 : Int32).toNatClampNeg), u2)
  )
def F_X7_tear_12  (u : Mem) (y0 : Int32) : Option (Int32 × Mem) :=
  some (y0, (sI u 0 24 (0 : Int32)))
def F_X7_tear  (u : Mem)  : Option (Int32 × Mem) :=
  if (u.1 0 24) = 0 then (
    F_X7_tear_12 u (0 : Int32)
  ) else (
    F_X7_tear_12 u (1 : Int32)
  )
def F_X7_count_45  : Nat → Mem → Int32 → Int32 → Option (Int32 × Mem)
  | 0, _, _, _ => none
  | n + 1, u, v2, v3 =>
    gd (0 : Int32) 50 <|
    if (u.1 1 (0 : Int32).toNatClampNeg) ≤ v3 then (
      some (v2, u)
    ) else (
      bdI (F_X7_its u v3 (3 : Int32)) fun r4 u3 =>
      F_X7_count_45 n u3 (v2 + r4) (v3 + 1)
    )
def F_X7_count_86  : Nat → Mem → Int32 → Int32 → Option (Int32 × Mem)
  | 0, _, _, _ => none
  | n + 1, u, v2, v3 =>
    gd (0 : Int32) 50 <|
    if (u.1 1 (0 : Int32).toNatClampNeg) ≤ v3 then (
      some (v2, u)
    ) else (
      gd v3 12 <|
      bdI (F_X7_many u (u.2 2 v3.toNatClampNeg)) fun r10 u9 =>
      F_X7_count_86 n u9 (v2 + r10) (v3 + 1)
    )
def F_X7_count  (u : Mem) (x1 : Int32) : Option (Int32 × Mem) :=
  if x1 = 0 then (
    gd (0 : Int32) 50 <|
    some ((u.1 1 (0 : Int32).toNatClampNeg), u)
  ) else (
    if x1 = 1 then (
      F_X7_count_45 fu u (0 : Int32) (0 : Int32)
    ) else (
      if x1 = 2 then (
        some ((u.1 0 9), u)
      ) else (
        if x1 = 3 then (
          gd (1 : Int32) 50 <|
          some ((u.1 1 (1 : Int32).toNatClampNeg), u)
        ) else (
          if x1 = 4 then (
            F_X7_count_86 fu u (0 : Int32) (0 : Int32)
          ) else (
            bdI (F_X7_finds u (-1000000001 : Int32)) fun r20 u19 =>
            some (r20, u19)
  )))))
def F_X7_status_64  (u : Mem) (y0 : Int32) : Option (Int32 × Mem) :=
  some (y0, u)
def F_X7_status_63  (u : Mem) (y1 : Int32) : Option (Int32 × Mem) :=
  gd y1 7 <|
  F_X7_status_64 u (u.1 3 y1.toNatClampNeg)
def F_X7_status_21  : Nat → Mem → Int32 → Int32 → Int32 → Option (Int32 × Mem)
  | 0, _, _, _, _ => none
  | n + 1, u, v1, v2, v3 =>
    if (7 : Int32) ≤ v3 then (
      if 0 ≤ v1 then (
        if 0 ≤ v1 then (
          F_X7_status_63 u v1
        ) else (
          F_X7_status_63 u (0 : Int32)
        )
      ) else (
        F_X7_status_64 u v2
      )
    ) else (
      gd v3 7 <|
      F_X7_status_21 n u v1 (v2 + (u.1 3 v3.toNatClampNeg)) (v3 + 1)
    )
def F_X7_status  (u : Mem) (x1 : Int32) : Option (Int32 × Mem) :=
  bdI (F_X7_in u x1 (-1 : Int32) (6 : Int32)) fun r7 u6 =>
  if r7 = 0 then (
    bdI (F_X7_finds u6 (-1000000001 : Int32)) fun r11 u10 =>
    some (r11, u10)
  ) else (
    F_X7_status_21 fu u6 x1 (0 : Int32) (0 : Int32)
  )
