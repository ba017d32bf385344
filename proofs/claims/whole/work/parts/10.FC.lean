def F_X6_isKind_15  (u : Mem) (y0 : Int32) : Option (Int32 × Mem) :=
  gz y0 <|
  some (y0, u)
def F_X6_isKind_14  (u : Mem)  : Option (Int32 × Mem) :=
  F_X6_isKind_15 u (0 : Int32)
def F_X6_isKind  (u : Mem) (x0 : Int32) : Option (Int32 × Mem) :=
  if x0 < 0 then (
    F_X6_isKind_14 u
  ) else (
    if (6 : Int32) ≤ x0 then (
      F_X6_isKind_14 u
    ) else (
      F_X6_isKind_15 u (1 : Int32)
    )
  )
def F_X6_found_25  (u : Mem) (v1 : Int32) : Option (Int32 × Mem) :=
  some (v1, u)
def F_X6_found  (u : Mem) (x1 : Int32) : Option (Int32 × Mem) :=
  if ((-1000000001 : Int32) - x1) < 0 then (
    F_X6_found_25 u x1
  ) else (
    if (7 : Int32) ≤ ((-1000000001 : Int32) - x1) then (
      F_X6_found_25 u x1
    ) else (
      gd ((-1000000001 : Int32) - x1) 7 <|
      gd ((-1000000001 : Int32) - x1) 7 <|
      bdV (some (sI u 27 ((-1000000001 : Int32) - x1).toNatClampNeg ((u.1 27 ((-1000000001 : Int32) - x1).toNatClampNeg) + (1 : Int32)))) fun u5 =>
      F_X6_found_25 u5 x1
    )
  )
def F_X0_isFull_14  (u : Mem) (y0 : Int32) : Option (Int32 × Mem) :=
  gz y0 <|
  some (y0, u)
def F_X0_isFull (x0 : Nat) (u : Mem)  : Option (Int32 × Mem) :=
  if (u.1 (x0 + 3) 1) < (12 : Int32) then (
    F_X0_isFull_14 u (0 : Int32)
  ) else (
    F_X0_isFull_14 u (1 : Int32)
  )
def F_X1_begin (x0 : Nat) (u : Mem) (x1 : Int32) (x2 : Int64) : Option Mem :=
  bdV (some (sI (sI (sI (sI u x0 0 x1) x0 1 (1000 : Int32)) x0 2 (0 : Int32)) x0 3 (0 : Int32))) fun u1 =>
  some (sL u1 x0 4 (x2 &&& (1099511627775 : Int64)))
def F_X0_hang (x0 : Nat) (u : Mem) (x1 : Int32) (x2 : Int64) : Option (Int32 × Mem) :=
  bdI (F_X0_isFull x0 u) fun r2 u1 =>
  if r2 = 0 then (
    gd (u1.1 (x0 + 3) 1) 12 <|
    bdV (F_X1_begin (12 * x0 + 16 + (u1.1 (x0 + 3) 1).toNatClampNeg) u1 x1 x2) fun u7 =>
    some ((((sI u7 (x0 + 3) 1 ((u7.1 (x0 + 3) 1) + (1 : Int32))).1 (x0 + 3) 1) - (1 : Int32)), (sI u7 (x0 + 3) 1 ((u7.1 (x0 + 3) 1) + (1 : Int32))))
  ) else (
    some ((-1 : Int32), u1)
  )
def F_X6_print  (u : Mem) (x1 : Int32) (x2 : Int64) : Option (Int32 × Mem) :=
  bdI (F_X6_isKind u x1) fun r2 u1 =>
  if r2 = 0 then (
    bdI (F_X6_found u1 (-1000000001 : Int32)) fun r16 u15 =>
    some (r16, u15)
  ) else (
    bdI (F_X0_isFull 1 u1) fun r6 u5 =>
    if r6 = 0 then (
      bdI (F_X0_hang 1 u5 x1 x2) fun r10 u9 =>
      some (r10, u9)
    ) else (
      bdI (F_X6_found u5 (-1000000002 : Int32)) fun r13 u12 =>
      some (r13, u12)
    )
  )
def F_X0_has_17  (u : Mem) (y0 : Int32) : Option (Int32 × Mem) :=
  gz y0 <|
  some (y0, u)
def F_X0_has_16  (u : Mem)  : Option (Int32 × Mem) :=
  F_X0_has_17 u (0 : Int32)
def F_X0_has (x0 : Nat) (u : Mem) (x1 : Int32) : Option (Int32 × Mem) :=
  if x1 < 0 then (
    F_X0_has_16 u
  ) else (
    if (u.1 (x0 + 3) 1) ≤ x1 then (
      F_X0_has_16 u
    ) else (
      F_X0_has_17 u (1 : Int32)
    )
  )
def F_X1_trueWidth_93  (u : Mem) (v0 : Nat) : Option (Int32 × Mem) :=
  some ((u.1 v0 1), u)
def F_X1_trueWidth (x0 : Nat) (u : Mem)  : Option (Int32 × Mem) :=
  if (u.1 x0 0) = 1 then (
    some ((((100 : Int32) * (u.1 x0 1)) / (90 : Int32)), u)
  ) else (
    if (u.1 x0 0) = 2 then (
      some ((((100 : Int32) * (u.1 x0 1)) / (97 : Int32)), u)
    ) else (
      if (u.1 x0 0) = 3 then (
        some (((((100 : Int32) * (u.1 x0 1)) / (97 : Int32)) + (10 : Int32)), u)
      ) else (
        if (u.1 x0 0) = 4 then (
          F_X1_trueWidth_93 u x0
        ) else (
          if (u.1 x0 0) = 5 then (
            some ((((100 : Int32) * (((100 : Int32) * (u.1 x0 1)) / (90 : Int32))) / (80 : Int32)), u)
          ) else (
            F_X1_trueWidth_93 u x0
  )))))
def F_X1_hidden_14  (u : Mem) (v0 : Nat) (y0 : Int64) : Option (Int64 × Mem) :=
  if (u.1 v0 0) = 1 then (
    some ((y0 ||| (733007751850 : Int64)), u)
  ) else (
    if (u.1 v0 0) = 5 then (
      some (((y0 ||| (733007751850 : Int64)) ||| (1099510579200 : Int64)), u)
    ) else (
      some (y0, u)
  ))
def F_X1_hidden (x0 : Nat) (u : Mem)  : Option (Int64 × Mem) :=
  if (u.1 x0 3) = 0 then (
    F_X1_hidden_14 u x0 (1098437885952 : Int64)
  ) else (
    F_X1_hidden_14 u x0 (0 : Int64)
  )
def F_X1_shown (x0 : Nat) (u : Mem)  : Option (Int64 × Mem) :=
  bdL (F_X1_hidden x0 u) fun r2 u1 =>
  some (((u.2 x0 4) &&& (r2 ^^^ (-1 : Int64))), u1)
def F_J13_bitCount_95d88  (u : Mem) (x0 : Int64) : Option (Int32 × Mem) :=
  some ((((((((((x0 - (((x0.toUInt64 >>> ((1 : Int32).toInt64.toUInt64 &&& Int64.toUInt64 63)).toInt64) &&& (6148914691236517205 : Int64))) &&& (3689348814741910323 : Int64)) + ((((x0 - (((x0.toUInt64 >>> ((1 : Int32).toInt64.toUInt64 &&& Int64.toUInt64 63)).toInt64) &&& (6148914691236517205 : Int64))).toUInt64 >>> ((2 : Int32).toInt64.toUInt64 &&& Int64.toUInt64 63)).toInt64) &&& (3689348814741910323 : Int64))) + (((((x0 - (((x0.toUInt64 >>> ((1 : Int32).toInt64.toUInt64 &&& Int64.toUInt64 63)).toInt64) &&& (6148914691236517205 : Int64))) &&& (3689348814741910323 : Int64)) + ((((x0 - (((x0.toUInt64 >>> ((1 : Int32).toInt64.toUInt64 &&& Int64.toUInt64 63)).toInt64) &&& (6148914691236517205 : Int64))).toUInt64 >>> ((2 : Int32).toInt64.toUInt64 &&& Int64.toUInt64 63)).toInt64) &&& (3689348814741910323 : Int64))).toUInt64 >>> ((4 : Int32).toInt64.toUInt64 &&& Int64.toUInt64 63)).toInt64)) &&& (1085102592571150095 : Int64)) + (((((((x0 - (((x0.toUInt64 >>> ((1 : Int32).toInt64.toUInt64 &&& Int64.toUInt64 63)).toInt64) &&& (6148914691236517205 : Int64))) &&& (3689348814741910323 : Int64)) + ((((x0 - (((x0.toUInt64 >>> ((1 : Int32).toInt64.toUInt64 &&& Int64.toUInt64 63)).toInt64) &&& (6148914691236517205 : Int64))).toUInt64 >>> ((2 : Int32).toInt64.toUInt64 &&& Int64.toUInt64 63)).toInt64) &&& (3689348814741910323 : Int64))) + (((((x0 - (((x0.toUInt64 >>> ((1 : Int32).toInt64.toUInt64 &&& Int64.toUInt64 63)).toInt64) &&& (6148914691236517205 : Int64))) &&& (3689348814741910323 : Int64)) + ((((x0 - (((x0.toUInt64 >>> ((1 : Int32).toInt64.toUInt64 &&& Int64.toUInt64 63)).toInt64) &&& (6148914691236517205 : Int64))).toUInt64 >>> ((2 : Int32).toInt64.toUInt64 &&& Int64.toUInt64 63)).toInt64) &&& (3689348814741910323 : Int64))).toUInt64 >>> ((4 : Int32).toInt64.toUInt64 &&& Int64.toUInt64 63)).toInt64)) &&& (1085102592571150095 : Int64)).toUInt64 >>> ((8 : Int32).toInt64.toUInt64 &&& Int64.toUInt64 63)).toInt64)) + ((((((((x0 - (((x0.toUInt64 >>> ((1 : Int32).toInt64.toUInt64 &&& Int64.toUInt64 63)).toInt64) &&& (6148914691236517205 : Int64))) &&& (3689348814741910323 : Int64)) + ((((x0 - (((x0.toUInt64 >>> ((1 : Int32).toInt64.toUInt64 &&& Int64.toUInt64 63)).toInt64) &&& (6148914691236517205 : Int64))).toUInt64 >>> ((2 : Int32).toInt64.toUInt64 &&& Int64.toUInt64 63)).toInt64) &&& (3689348814741910323 : Int64))) + (((((x0 - (((x0.toUInt64 >>> ((1 : Int32).toInt64.toUInt64 &&& Int64.toUInt64 63)).toInt64) &&& (6148914691236517205 : Int64))) &&& (3689348814741910323 : Int64)) + ((((x0 - (((x0.toUInt64 >>> ((1 : Int32).toInt64.toUInt64 &&& Int64.toUInt64 63)).toInt64) &&& (6148914691236517205 : Int64))).toUInt64 >>> ((2 : Int32).toInt64.toUInt64 &&& Int64.toUInt64 63)).toInt64) &&& (3689348814741910323 : Int64))).toUInt64 >>> ((4 : Int32).toInt64.toUInt64 &&& Int64.toUInt64 63)).toInt64)) &&& (1085102592571150095 : Int64)) + (((((((x0 - (((x0.toUInt64 >>> ((1 : Int32).toInt64.toUInt64 &&& Int64.toUInt64 63)).toInt64) &&& (6148914691236517205 : Int64))) &&& (3689348814741910323 : Int64)) + ((((x0 - (((x0.toUInt64 >>> ((1 : Int32).toInt64.toUInt64 &&& Int64.toUInt64 63)).toInt64) &&& (6148914691236517205 : Int64))).toUInt64 >>> ((2 : Int32).toInt64.toUInt64 &&& Int64.toUInt64 63)).toInt64) &&& (3689348814741910323 : Int64))) + (((((x0 - (((x0.toUInt64 >>> ((1 : Int32).toInt64.toUInt64 &&& Int64.toUInt64 63)).toInt64) &&& (6148914691236517205 : Int64))) &&& (3689348814741910323 : Int64)) + ((((x0 - (((x0.toUInt64 >>> ((1 : Int32).toInt64.toUInt64 &&& Int64.toUInt64 63)).toInt64) &&& (6148914691236517205 : Int64))).toUInt64 >>> ((2 : Int32).toInt64.toUInt64 &&& Int64.toUInt64 63)).toInt64) &&& (3689348814741910323 : Int64))).toUInt64 >>> ((4 : Int32).toInt64.toUInt64 &&& Int64.toUInt64 63)).toInt64)) &&& (1085102592571150095 : Int64)).toUInt64 >>> ((8 : Int32).toInt64.toUInt64 &&& Int64.toUInt64 63)).toInt64)).toUInt64 >>> ((16 : Int32).toInt64.toUInt64 &&& Int64.toUInt64 63)).toInt64)) + (((((((((x0 - (((x0.toUInt64 >>> ((1 : Int32).toInt64.toUInt64 &&& Int64.toUInt64 63)).toInt64) &&& (6148914691236517205 : Int64))) &&& (3689348814741910323 : Int64)) + ((((x0 - (((x0.toUInt64 >>> ((1 : Int32).toInt64.toUInt64 &&& Int64.toUInt64 63)).toInt64) &&& (6148914691236517205 : Int64))).toUInt64 >>> ((2 : Int32).toInt64.toUInt64 &&& Int64.toUInt64 63)).toInt64) &&& (3689348814741910323 : Int64))) + (((((x0 - (((x0.toUInt64 >>> ((1 : Int32).toInt64.toUInt64 &&& Int64.toUInt64 63)).toInt64) &&& (6148914691236517205 : Int64))) &&& (3689348814741910323 : Int64)) + ((((x0 - (((x0.toUInt64 >>> ((1 : Int32).toInt64.toUInt64 &&& Int64.toUInt64 63)).toInt64) &&& (6148914691236517205 : Int64))).toUInt64 >>> ((2 : Int32).toInt64.toUInt64 &&& Int64.toUInt64 63)).toInt64) &&& (3689348814741910323 : Int64))).toUInt64 >>> ((4 : Int32).toInt64.toUInt64 &&& Int64.toUInt64 63)).toInt64)) &&& (1085102592571150095 : Int64)) + (((((((x0 - (((x0.toUInt64 >>> ((1 : Int32).toInt64.toUInt64 &&& Int64.toUInt64 63)).toInt64) &&& (6148914691236517205 : Int64))) &&& (3689348814741910323 : Int64)) + ((((x0 - (((x0.toUInt64 >>> ((1 : Int32).toInt64.toUInt64 &&& Int64.toUInt64 63)).toInt64) &&& (6148914691236517205 : Int64))).toUInt64 >>> ((2 : Int32).toInt64.toUInt64 &&& Int64.toUInt64 63)).toInt64) &&& (3689348814741910323 : Int64))) + (((((x0 - (((x0.toUInt64 >>> ((1 : Int32).toInt64.toUInt64 &&& Int64.toUInt64 63)).toInt64) &&& (6148914691236517205 : Int64))) &&& (3689348814741910323 : Int64)) + ((((x0 - (((x0.toUInt64 >>> ((1 : Int32).toInt64.toUInt64 &&& Int64.toUInt64 63)).toInt64) &&& (6148914691236517205 : Int64))).toUInt64 >>> ((2 : Int32).toInt64.toUInt64 &&& Int64.toUInt64 63)).toInt64) &&& (3689348814741910323 : Int64))).toUInt64 >>> ((4 : Int32).toInt64.toUInt64 &&& Int64.toUInt64 63)).toInt64)) &&& (1085102592571150095 : Int64)).toUInt64 >>> ((8 : Int32).toInt64.toUInt64 &&& Int64.toUInt64 63)).toInt64)) + ((((((((x0 - (((x0.toUInt64 >>> ((1 : Int32).toInt64.toUInt64 &&& Int64.toUInt64 63)).toInt64) &&& (6148914691236517205 : Int64))) &&& (3689348814741910323 : Int64)) + ((((x0 - (((x0.toUInt64 >>> ((1 : Int32).toInt64.toUInt64 &&& Int64.toUInt64 63)).toInt64) &&& (6148914691236517205 : Int64))).toUInt64 >>> ((2 : Int32).toInt64.toUInt64 &&& Int64.toUInt64 63)).toInt64) &&& (3689348814741910323 : Int64))) + (((((x0 - (((x0.toUInt64 >>> ((1 : Int32).toInt64.toUInt64 &&& Int64.toUInt64 63)).toInt64) &&& (6148914691236517205 : Int64))) &&& (3689348814741910323 : Int64)) + ((((x0 - (((x0.toUInt64 >>> ((1 : Int32).toInt64.toUInt64 &&& Int64.toUInt64 63)).toInt64) &&& (6148914691236517205 : Int64))).toUInt64 >>> ((2 : Int32).toInt64.toUInt64 &&& Int64.toUInt64 63)).toInt64) &&& (3689348814741910323 : Int64))).toUInt64 >>> ((4 : Int32).toInt64.toUInt64 &&& Int64.toUInt64 63)).toInt64)) &&& (1085102592571150095 : Int64)) + (((((((x0 - (((x0.toUInt64 >>> ((1 : Int32).toInt64.toUInt64 &&& Int64.toUInt64 63)).toInt64) &&& (6148914691236517205 : Int64))) &&& (3689348814741910323 : Int64)) + ((((x0 - (((x0.toUInt64 >>> ((1 : Int32).toInt64.toUInt64 &&& Int64.toUInt64 63)).toInt64) &&& (6148914691236517205 : Int64))).toUInt64 >>> ((2 : Int32).toInt64.toUInt64 &&& Int64.toUInt64 63)).toInt64) &&& (3689348814741910323 : Int64))) + (((((x0 - (((x0.toUInt64 >>> ((1 : Int32).toInt64.toUInt64 &&& Int64.toUInt64 63)).toInt64) &&& (6148914691236517205 : Int64))) &&& (3689348814741910323 : Int64)) + ((((x0 - (((x0.toUInt64 >>> ((1 : Int32).toInt64.toUInt64 &&& Int64.toUInt64 63)).toInt64) &&& (6148914691236517205 : Int64))).toUInt64 >>> ((2 : Int32).toInt64.toUInt64 &&& Int64.toUInt64 63)).toInt64) &&& (3689348814741910323 : Int64))).toUInt64 >>> ((4 : Int32).toInt64.toUInt64 &&& Int64.toUInt64 63)).toInt64)) &&& (1085102592571150095 : Int64)).toUInt64 >>> ((8 : Int32).toInt64.toUInt64 &&& Int64.toUInt64 63)).toInt64)).toUInt64 >>> ((16 : Int32).toInt64.toUInt64 &&& Int64.toUInt64 63)).toInt64)).toUInt64 >>> ((32 : Int32).toInt64.toUInt64 &&& Int64.toUInt64 63)).toInt64)).toInt32 &&& (127 : Int32)), u)
def F_X6_of_95  (u : Mem) (y0 : Int32) : Option (Int32 × Mem) :=
  some (y0, u)
def F_X6_of  (u : Mem) (x1 : Int32) (x2 : Int32) : Option (Int32 × Mem) :=
  bdI (F_X0_has 1 u x1) fun r2 u1 =>
  if r2 = 0 then (
    bdI (F_X6_found u1 (-1000000001 : Int32)) fun r27 u26 =>
    some (r27, u26)
  ) else (
    gd x1 12 <|
    if x2 = 0 then (
      some ((u1.1 (28 + x1.toNatClampNeg) 0), u1)
    ) else (
      if x2 = 1 then (
        some ((u1.1 (28 + x1.toNatClampNeg) 1), u1)
      ) else (
        if x2 = 2 then (
          some ((u1.1 (28 + x1.toNatClampNeg) 2), u1)
        ) else (
          if x2 = 3 then (
            if (u1.1 (28 + x1.toNatClampNeg) 3) = 0 then (
              F_X6_of_95 u1 (0 : Int32)
            ) else (
              F_X6_of_95 u1 (1 : Int32)
            )
          ) else (
            if x2 = 4 then (
              bdI (F_X1_trueWidth (28 + x1.toNatClampNeg) u1) fun r14 u13 =>
              some (r14, u13)
            ) else (
              if x2 = 5 then (
                bdL (F_X1_shown (28 + x1.toNatClampNeg) u1) fun r18 u17 =>
                bdI (F_J13_bitCount_95d88 u17 r18) fun r21 u20 =>
                some (r21, u20)
              ) else (
                bdI (F_X6_found u1 (-1000000001 : Int32)) fun r24 u23 =>
                some (r24, u23)
    ))))))
  )
def F_X6_marks  (u : Mem) (x1 : Int32) (x2 : Int32) : Option (Int64 × Mem) :=
  bdI (F_X0_has 1 u x1) fun r2 u1 =>
  if r2 = 0 then (
    bdI (F_X6_found u1 (-1000000001 : Int32)) fun r20 u19 =>
    some (r20.toInt64, u19)
  ) else (
    gd x1 12 <|
    if x2 = 0 then (
      some ((u1.2 (28 + x1.toNatClampNeg) 4), u1)
    ) else (
      if x2 = 1 then (
        bdL (F_X1_shown (28 + x1.toNatClampNeg) u1) fun r10 u9 =>
        some (r10, u9)
      ) else (
        if x2 = 2 then (
          bdL (F_X1_hidden (28 + x1.toNatClampNeg) u1) fun r14 u13 =>
          some (r14, u13)
        ) else (
          bdI (F_X6_found u1 (-1000000001 : Int32)) fun r17 u16 =>
          some (r17.toInt64, u16)
    )))
  )
def F_X6_isWidth_17  (u : Mem) (y0 : Int32) : Option (Int32 × Mem) :=
  gz y0 <|
  some (y0, u)
def F_X6_isWidth_16  (u : Mem)  : Option (Int32 × Mem) :=
  F_X6_isWidth_17 u (0 : Int32)
def F_X6_isWidth  (u : Mem) (x0 : Int32) : Option (Int32 × Mem) :=
  if x0 < (1 : Int32) then (
    F_X6_isWidth_16 u
  ) else (
    if (9999 : Int32) < x0 then (
      F_X6_isWidth_16 u
    ) else (
      F_X6_isWidth_17 u (1 : Int32)
    )
  )
def F_X6_isYear_16  (u : Mem) (y0 : Int32) : Option (Int32 × Mem) :=
  gz y0 <|
  some (y0, u)
def F_X6_isYear_15  (u : Mem)  : Option (Int32 × Mem) :=
  F_X6_isYear_16 u (0 : Int32)
def F_X6_isYear  (u : Mem) (x0 : Int32) : Option (Int32 × Mem) :=
  if x0 < 0 then (
    F_X6_isYear_15 u
  ) else (
    if (2000 : Int32) < x0 then (
      F_X6_isYear_15 u
    ) else (
      F_X6_isYear_16 u (1 : Int32)
    )
  )
def F_X6_set_85  (u : Mem)  : Option (Int32 × Mem) :=
  bdI (F_X6_found u (-1000000001 : Int32)) fun r2 u1 =>
  some (r2, u1)
def F_X6_set_57  (u : Mem) (v2 : Int32) (v3 : Int32) (v4 : Nat) : Option (Int32 × Mem) :=
  if v2 = (2 : Int32) then (
    bdI (F_X6_isYear u v3) fun r6 u5 =>
    if r6 = 0 then (
      F_X6_set_85 u5
    ) else (
      some ((u5.1 v4 2), (sI u5 v4 2 v3))
    )
  ) else (
    F_X6_set_85 u
  )
def F_X6_set  (u : Mem) (x1 : Int32) (x2 : Int32) (x3 : Int32) : Option (Int32 × Mem) :=
  bdI (F_X0_has 1 u x1) fun r10 u9 =>
  if r10 = 0 then (
    bdI (F_X6_found u9 (-1000000001 : Int32)) fun r21 u20 =>
    some (r21, u20)
  ) else (
    gd x1 12 <|
    if x2 = (1 : Int32) then (
      bdI (F_X6_isWidth u9 x3) fun r17 u16 =>
      if r17 = 0 then (
        F_X6_set_57 u16 x2 x3 (28 + x1.toNatClampNeg)
      ) else (
        some ((u16.1 (28 + x1.toNatClampNeg) 1), (sI u16 (28 + x1.toNatClampNeg) 1 x3))
      )
    ) else (
      F_X6_set_57 u9 x2 x3 (28 + x1.toNatClampNeg)
    )
  )
def F_X6_isPlace_15  (u : Mem) (y0 : Int32) : Option (Int32 × Mem) :=
  gz y0 <|
  some (y0, u)
def F_X6_isPlace_14  (u : Mem)  : Option (Int32 × Mem) :=
  F_X6_isPlace_15 u (0 : Int32)
def F_X6_isPlace  (u : Mem) (x0 : Int32) : Option (Int32 × Mem) :=
  if x0 < 0 then (
    F_X6_isPlace_14 u
  ) else (
    if (40 : Int32) ≤ x0 then (
      F_X6_isPlace_14 u
    ) else (
      F_X6_isPlace_15 u (1 : Int32)
    )
  )
def F_X6_scratch_18  (u : Mem)  : Option (Int32 × Mem) :=
  bdI (F_X6_found u (-1000000001 : Int32)) fun r2 u1 =>
  some (r2, u1)
def F_X6_scratch_90  (u : Mem) (y0 : Int32) : Option (Int32 × Mem) :=
  some (y0, u)
def F_X6_scratch_71  (u : Mem) (v4 : Nat) (v5 : Int64) (y0 : Nat) (y1 : Int64) : Option (Int32 × Mem) :=
  if (lg_cmp ((sL u y0 4 y1).2 v4 4) v5) = 0 then (
    F_X6_scratch_90 (sL u y0 4 y1) (0 : Int32)
  ) else (
    F_X6_scratch_90 (sL u y0 4 y1) (1 : Int32)
  )
def F_X6_scratch  (u : Mem) (x1 : Int32) (x2 : Int32) (x3 : Int32) : Option (Int32 × Mem) :=
  bdI (F_X0_has 1 u x1) fun r6 u5 =>
  if r6 = 0 then (
    F_X6_scratch_18 u5
  ) else (
    bdI (F_X6_isPlace u5 x2) fun r10 u9 =>
    if r10 = 0 then (
      F_X6_scratch_18 u9
    ) else (
      gd x1 12 <|
      if x3 = 0 then (
        F_X6_scratch_71 u9 (28 + x1.toNatClampNeg) (u9.2 (28 + x1.toNatClampNeg) 4) (28 + x1.toNatClampNeg) ((u9.2 (28 + x1.toNatClampNeg) 4) &&& (((1 : Int64) <<< (x2.toInt64 &&& 63)) ^^^ (-1 : Int64)))
      ) else (
        F_X6_scratch_71 u9 (28 + x1.toNatClampNeg) (u9.2 (28 + x1.toNatClampNeg) 4) (28 + x1.toNatClampNeg) ((u9.2 (28 + x1.toNatClampNeg) 4) ||| ((1 : Int64) <<< (x2.toInt64 &&& 63)))
      )
    )
  )
def F_X6_look_40  (u : Mem) (v2 : Nat) (y0 : Int32) : Option (Int32 × Mem) :=
  some (y0, (sI u v2 3 (1 : Int32)))
def F_X6_look  (u : Mem) (x1 : Int32) : Option (Int32 × Mem) :=
  bdI (F_X0_has 1 u x1) fun r2 u1 =>
  if r2 = 0 then (
    bdI (F_X6_found u1 (-1000000001 : Int32)) fun r9 u8 =>
    some (r9, u8)
  ) else (
    gd x1 12 <|
    if (u1.1 (28 + x1.toNatClampNeg) 3) = 0 then (
      F_X6_look_40 u1 (28 + x1.toNatClampNeg) (1 : Int32)
    ) else (
      F_X6_look_40 u1 (28 + x1.toNatClampNeg) (0 : Int32)
    )
  )
def F_X6_turn_18  (u : Mem)  : Option (Int32 × Mem) :=
  bdI (F_X6_found u (-1000000001 : Int32)) fun r2 u1 =>
  some (r2, u1)
def F_X6_turn  (u : Mem) (x1 : Int32) (x2 : Int32) : Option (Int32 × Mem) :=
  bdI (F_X0_has 1 u x1) fun r5 u4 =>
  if r5 = 0 then (
    F_X6_turn_18 u4
  ) else (
    bdI (F_X6_isKind u4 x2) fun r9 u8 =>
    if r9 = 0 then (
      F_X6_turn_18 u8
    ) else (
      gd x1 12 <|
      some ((u8.1 (28 + x1.toNatClampNeg) 0), (sI u8 (28 + x1.toNatClampNeg) 0 x2))
    )
  )
def F_X6_isUnder_36  (u : Mem)  : Option (Int32 × Mem) :=
  some ((0 : Int32), u)
def F_X6_isUnder_4  : Nat → Mem → Int32 → Int32 → Int32 → Option (Int32 × Mem)
  | 0, _, _, _, _ => none
  | n + 1, u, v1, v2, v3 =>
    if (6 : Int32) ≤ v3 then (
      F_X6_isUnder_36 u
    ) else (
      bdI (F_X6_isKind u v2) fun r3 u2 =>
      if r3 = 0 then (
        F_X6_isUnder_36 u2
      ) else (
        if v2 = v1 then (
          some ((1 : Int32), u2)
        ) else (
          gd v2 6 <|
          F_X6_isUnder_4 n u2 v1 (un6.getD v2.toNatClampNeg 0) (v3 + 1)
        )
      )
    )
def F_X6_isUnder  (u : Mem) (x0 : Int32) (x1 : Int32) : Option (Int32 × Mem) :=
  F_X6_isUnder_4 fu u x1 x0 (0 : Int32)
def F_X6_as_18  (u : Mem)  : Option (Int32 × Mem) :=
  bdI (F_X6_found u (-1000000001 : Int32)) fun r2 u1 =>
  some (r2, u1)
def F_X6_as_59  (u : Mem) (y0 : Int32) : Option (Int32 × Mem) :=
  some (y0, u)
def F_X6_as  (u : Mem) (x1 : Int32) (x2 : Int32) : Option (Int32 × Mem) :=
  bdI (F_X0_has 1 u x1) fun r5 u4 =>
  if r5 = 0 then (
    F_X6_as_18 u4
  ) else (
    bdI (F_X6_isKind u4 x2) fun r9 u8 =>
    if r9 = 0 then (
      F_X6_as_18 u8
    ) else (
      gd x1 12 <|
      bdI (F_X6_isUnder u8 (u8.1 (28 + x1.toNatClampNeg) 0) x2) fun r15 u14 =>
      if r15 = 0 then (
        bdI (F_X6_found u14 (-1000000003 : Int32)) fun r19 u18 =>
        F_X6_as_59 u18 r19
      ) else (
        F_X6_as_59 u14 (u14.1 (28 + x1.toNatClampNeg) 2)
      )
    )
  )
def F_X6_isSlack_16  (u : Mem) (y0 : Int32) : Option (Int32 × Mem) :=
  gz y0 <|
  some (y0, u)
def F_X6_isSlack_15  (u : Mem)  : Option (Int32 × Mem) :=
  F_X6_isSlack_16 u (0 : Int32)
def F_X6_isSlack  (u : Mem) (x0 : Int32) : Option (Int32 × Mem) :=
  if x0 < 0 then (
    F_X6_isSlack_15 u
  ) else (
    if (999 : Int32) < x0 then (
      F_X6_isSlack_15 u
    ) else (
      F_X6_isSlack_16 u (1 : Int32)
    )
  )
def F_X6_slack  (u : Mem) (x1 : Int32) : Option (Int32 × Mem) :=
  bdI (F_X6_isSlack u x1) fun r2 u1 =>
  if r2 = 0 then (
    bdI (F_X6_found u1 (-1000000001 : Int32)) fun r6 u5 =>
    some (r6, u5)
  ) else (
    some ((u1.1 4 2), (sI u1 4 2 x1))
  )
def F_X6_areTwo_32  (u : Mem) (y0 : Int32) : Option (Int32 × Mem) :=
  gz y0 <|
  some (y0, u)
def F_X6_areTwo_31  (u : Mem)  : Option (Int32 × Mem) :=
  F_X6_areTwo_32 u (0 : Int32)
def F_X6_areTwo  (u : Mem) (x1 : Int32) (x2 : Int32) : Option (Int32 × Mem) :=
  bdI (F_X0_has 1 u x1) fun r3 u2 =>
  if r3 = 0 then (
    F_X6_areTwo_31 u2
  ) else (
    bdI (F_X0_has 1 u2 x2) fun r7 u6 =>
    if r7 = 0 then (
      F_X6_areTwo_31 u6
    ) else (
      if x1 = x2 then (
        F_X6_areTwo_31 u6
      ) else (
        F_X6_areTwo_32 u6 (1 : Int32)
      )
    )
  )
def F_X0_widthGap (x0 : Nat) (u : Mem) (x1 : Int32) (x2 : Int32) : Option (Int32 × Mem) :=
  gd x1 12 <|
  bdI (F_X1_trueWidth (12 * x0 + 16 + x1.toNatClampNeg) u) fun r4 u3 =>
  gd x2 12 <|
  bdI (F_X1_trueWidth (12 * x0 + 16 + x2.toNatClampNeg) u3) fun r9 u8 =>
  some ((if 0 ≤ (r4 - r9) then (r4 - r9) else 0 - (r4 - r9)), u8)
def F_X0_widthsAllow_18  (u : Mem) (y0 : Int32) : Option (Int32 × Mem) :=
  gz y0 <|
  some (y0, u)
def F_X0_widthsAllow (x0 : Nat) (u : Mem) (x1 : Int32) (x2 : Int32) : Option (Int32 × Mem) :=
  bdI (F_X0_widthGap x0 u x1 x2) fun r3 u2 =>
  if (u2.1 (x0 + 3) 2) < r3 then (
    F_X0_widthsAllow_18 u2 (0 : Int32)
  ) else (
    F_X0_widthsAllow_18 u2 (1 : Int32)
  )
def F_X1_bare (x0 : Nat) (u : Mem)  : Option (Int64 × Mem) :=
  bdL (F_X1_hidden x0 u) fun r2 u1 =>
  some (((1099511627775 : Int64) &&& (((u.2 x0 4) ||| r2) ^^^ (-1 : Int64))), u1)
def F_X0_marksAllow_42  (u : Mem) (y0 : Int32) : Option (Int32 × Mem) :=
  gz y0 <|
  some (y0, u)
def F_X0_marksAllow_37  (u : Mem)  : Option (Int32 × Mem) :=
  F_X0_marksAllow_42 u (1 : Int32)
def F_X0_marksAllow (x0 : Nat) (u : Mem) (x1 : Int32) (x2 : Int32) : Option (Int32 × Mem) :=
  gd x2 12 <|
  if (u.1 (12 * x0 + 16 + x2.toNatClampNeg) 0) = (4 : Int32) then (
    F_X0_marksAllow_37 u
  ) else (
    gd x1 12 <|
    bdL (F_X1_shown (12 * x0 + 16 + x1.toNatClampNeg) u) fun r8 u7 =>
    gd x2 12 <|
    bdL (F_X1_bare (12 * x0 + 16 + x2.toNatClampNeg) u7) fun r13 u12 =>
    if (lg_cmp (r8 &&& r13) (0 : Int64)) = 0 then (
      F_X0_marksAllow_37 u12
    ) else (
      F_X0_marksAllow_42 u12 (0 : Int32)
    )
  )
def F_X0_canBe_23  (u : Mem) (y0 : Int32) : Option (Int32 × Mem) :=
  gz y0 <|
  some (y0, u)
def F_X0_canBe_22  (u : Mem)  : Option (Int32 × Mem) :=
  F_X0_canBe_23 u (0 : Int32)
def F_X0_canBe (x0 : Nat) (u : Mem) (x1 : Int32) (x2 : Int32) : Option (Int32 × Mem) :=
  bdI (F_X0_widthsAllow x0 u x1 x2) fun r3 u2 =>
  if r3 = 0 then (
    F_X0_canBe_22 u2
  ) else (
    bdI (F_X0_marksAllow x0 u2 x1 x2) fun r7 u6 =>
    if r7 = 0 then (
      F_X0_canBe_22 u6
    ) else (
      F_X0_canBe_23 u6 (1 : Int32)
    )
  )
def F_X6_ahead_33  (u : Mem) (y0 : Int32) : Option (Int32 × Mem) :=
  some (y0, u)
def F_X6_ahead  (u : Mem) (x1 : Int32) (x2 : Int32) : Option (Int32 × Mem) :=
  bdI (F_X6_areTwo u x1 x2) fun r2 u1 =>
  if r2 = 0 then (
    bdI (F_X6_found u1 (-1000000001 : Int32)) fun r10 u9 =>
    some (r10, u9)
  ) else (
    bdI (F_X0_canBe 1 u1 x1 x2) fun r6 u5 =>
    if r6 = 0 then (
      F_X6_ahead_33 u5 (0 : Int32)
    ) else (
      F_X6_ahead_33 u5 (1 : Int32)
    )
  )
def F_X6_order_51  (u : Mem) (v3 : Int32) (y0 : Int32) : Option (Int32 × Mem) :=
  some ((v3 + y0), u)
def F_X6_order_33  (u : Mem) (v1 : Int32) (v2 : Int32) (y0 : Int32) : Option (Int32 × Mem) :=
  bdI (F_X0_canBe 1 u v2 v1) fun r2 u1 =>
  if r2 = 0 then (
    F_X6_order_51 u1 y0 (0 : Int32)
  ) else (
    F_X6_order_51 u1 y0 (2 : Int32)
  )
def F_X6_order  (u : Mem) (x1 : Int32) (x2 : Int32) : Option (Int32 × Mem) :=
  bdI (F_X6_areTwo u x1 x2) fun r6 u5 =>
  if r6 = 0 then (
    bdI (F_X6_found u5 (-1000000001 : Int32)) fun r14 u13 =>
    some (r14, u13)
  ) else (
    bdI (F_X0_canBe 1 u5 x1 x2) fun r10 u9 =>
    if r10 = 0 then (
      F_X6_order_33 u9 x1 x2 (0 : Int32)
    ) else (
      F_X6_order_33 u9 x1 x2 (1 : Int32)
    )
  )
def F_X6_alike  (u : Mem) (x1 : Int32) (x2 : Int32) : Option (Int32 × Mem) :=
  bdI (F_X6_areTwo u x1 x2) fun r2 u1 =>
  if r2 = 0 then (
    bdI (F_X6_found u1 (-1000000001 : Int32)) fun r25 u24 =>
    some (r25, u24)
  ) else (
    gd x1 12 <|
    gd x2 12 <|
    bdL (F_X1_shown (28 + x1.toNatClampNeg) u1) fun r10 u9 =>
    bdL (F_X1_shown (28 + x2.toNatClampNeg) u9) fun r13 u12 =>
    bdL (F_X1_bare (28 + x1.toNatClampNeg) u12) fun r16 u15 =>
    bdL (F_X1_bare (28 + x2.toNatClampNeg) u15) fun r19 u18 =>
    bdI (F_J13_bitCount_95d88 u18 ((r10 &&& r13) ||| (r16 &&& r19))) fun r22 u21 =>
    some (r22, u21)
  )
def F_X6_slackFor_74  (u : Mem) (y0 : Int32) : Option (Int32 × Mem) :=
  some (y0, u)
def F_X6_slackFor_47  (u : Mem) (v1 : Int32) (v2 : Int32) : Option (Int32 × Mem) :=
  bdI (F_X0_widthGap 1 u v1 v2) fun r2 u1 =>
  bdI (F_X6_isSlack u1 r2) fun r5 u4 =>
  if r5 = 0 then (
    bdI (F_X6_found u4 (-1000000004 : Int32)) fun r9 u8 =>
    F_X6_slackFor_74 u8 r9
  ) else (
    F_X6_slackFor_74 u4 r2
  )
def F_X6_slackFor  (u : Mem) (x1 : Int32) (x2 : Int32) : Option (Int32 × Mem) :=
  bdI (F_X6_areTwo u x1 x2) fun r12 u11 =>
  if r12 = 0 then (
    bdI (F_X6_found u11 (-1000000001 : Int32)) fun r27 u26 =>
    some (r27, u26)
  ) else (
    bdI (F_X0_marksAllow 1 u11 x1 x2) fun r16 u15 =>
    if r16 = 0 then (
      bdI (F_X0_marksAllow 1 u15 x2 x1) fun r20 u19 =>
      if r20 = 0 then (
        bdI (F_X6_found u19 (-1000000004 : Int32)) fun r24 u23 =>
        some (r24, u23)
      ) else (
        F_X6_slackFor_47 u19 x1 x2
      )
    ) else (
      F_X6_slackFor_47 u15 x1 x2
    )
  )
def F_X6_came  (u : Mem) (x1 : Int32) (x2 : Int32) : Option (Int32 × Mem) :=
  bdI (F_X6_areTwo u x1 x2) fun r2 u1 =>
  if r2 = 0 then (
    bdI (F_X6_found u1 (-1000000001 : Int32)) fun r26 u25 =>
    some (r26, u25)
  ) else (
    bdI (F_X0_canBe 1 u1 x1 x2) fun r6 u5 =>
    if r6 = 0 then (
      bdI (F_X6_found u5 (-1000000005 : Int32)) fun r23 u22 =>
      some (r23, u22)
    ) else (
      gd x2 12 <|
      bdL (F_X1_shown (28 + x2.toNatClampNeg) u5) fun r12 u11 =>
      gd x1 12 <|
      bdL (F_X1_bare (28 + x1.toNatClampNeg) u11) fun r17 u16 =>
      bdI (F_J13_bitCount_95d88 u16 (r12 &&& r17)) fun r20 u19 =>
      some (r20, u19)
    )
  )
def F_X0_hasAll_17  (u : Mem) (y0 : Int32) : Option (Int32 × Mem) :=
  gz y0 <|
  some (y0, u)
def F_X0_hasAll (x0 : Nat) (u : Mem) (x1 : Int32) : Option (Int32 × Mem) :=
  if (x1 &&& (-((1 : Int32) <<< ((u.1 (x0 + 3) 1) &&& 31)))) = 0 then (
    F_X0_hasAll_17 u (1 : Int32)
  ) else (
    F_X0_hasAll_17 u (0 : Int32)
  )
def F_X0_isEarlier_43  (u : Mem) (y0 : Int32) : Option (Int32 × Mem) :=
  gz y0 <|
  some (y0, u)
def F_X0_isEarlier_38  (u : Mem)  : Option (Int32 × Mem) :=
  F_X0_isEarlier_43 u (1 : Int32)
def F_X0_isEarlier_42  (u : Mem)  : Option (Int32 × Mem) :=
  F_X0_isEarlier_43 u (0 : Int32)
def F_X0_isEarlier (x0 : Nat) (u : Mem) (x1 : Int32) (x2 : Int32) : Option (Int32 × Mem) :=
  gd x1 12 <|
  gd x2 12 <|
  if (u.1 (12 * x0 + 16 + x1.toNatClampNeg) 2) < (u.1 (12 * x0 + 16 + x2.toNatClampNeg) 2) then (
    F_X0_isEarlier_38 u
  ) else (
    if (u.1 (12 * x0 + 16 + x1.toNatClampNeg) 2) = (u.1 (12 * x0 + 16 + x2.toNatClampNeg) 2) then (
      if x2 ≤ x1 then (
        F_X0_isEarlier_42 u
      ) else (
        F_X0_isEarlier_38 u
      )
    ) else (
      F_X0_isEarlier_42 u
    )
  )
def F_X2_note_28  (u : Mem) (y0 : Nat) (y1 : Int32) (y2 : Int32) : Option Mem :=
  gd y1 (lenC y0) <|
  some (sI u y0 y1.toNatClampNeg y2)
def F_X2_note  (u : Mem) (x0 : Nat) (x1 : Int32) (x2 : Int32) (x3 : Int32) : Option Mem :=
  if x3 = 0 then (
    gd x1 (lenC x0) <|
    F_X2_note_28 u x0 x1 ((u.1 x0 x1.toNatClampNeg) &&& (((1 : Int32) <<< (x2 &&& 31)) ^^^ (-1 : Int32)))
  ) else (
    gd x1 (lenC x0) <|
    F_X2_note_28 u x0 x1 ((u.1 x0 x1.toNatClampNeg) ||| ((1 : Int32) <<< (x2 &&& 31)))
  )
def F_X2_weighPair_75  (u : Mem) (v1 : Int32) (v2 : Int32) (v4 : Int32) (v5 : Int32) (y0 : Int32) : Option Mem :=
  bdV (F_X2_note u 8 v1 v2 v4) fun u1 =>
  bdV (F_X2_note u1 8 v2 v1 v5) fun u4 =>
  bdV (F_X2_note u4 9 v1 v2 y0) fun u7 =>
  bdV (F_X2_note u7 9 v2 v1 y0) fun u10 =>
  some u10
def F_X2_weighPair_54  (u : Mem) (v1 : Int32) (v2 : Int32) (v4 : Int32) (y0 : Int32) : Option Mem :=
  bdI (F_X0_isEarlier 1 u v1 v2) fun r14 u13 =>
  if r14 = 0 then (
    F_X2_weighPair_75 u13 v1 v2 v4 y0 y0
  ) else (
    F_X2_weighPair_75 u13 v1 v2 v4 y0 v4
  )
def F_X2_weighPair_53  (u : Mem) (v1 : Int32) (v2 : Int32) (v4 : Int32) : Option Mem :=
  F_X2_weighPair_54 u v1 v2 v4 (0 : Int32)
def F_X2_weighPair_31  (u : Mem) (v1 : Int32) (v2 : Int32) (v3 : Int32) (y0 : Int32) : Option Mem :=
  if v3 = 0 then (
    F_X2_weighPair_53 u v1 v2 y0
  ) else (
    bdI (F_X0_marksAllow 1 u v2 v1) fun r19 u18 =>
    if r19 = 0 then (
      F_X2_weighPair_53 u18 v1 v2 y0
    ) else (
      F_X2_weighPair_54 u18 v1 v2 y0 (1 : Int32)
    )
  )
def F_X2_weighPair_30  (u : Mem) (v1 : Int32) (v2 : Int32) (v3 : Int32) : Option Mem :=
  F_X2_weighPair_31 u v1 v2 v3 (0 : Int32)
def F_X2_weighPair  (u : Mem) (x1 : Int32) (x2 : Int32) : Option Mem :=
  bdI (F_X0_widthsAllow 1 u x1 x2) fun r23 u22 =>
  if r23 = 0 then (
    F_X2_weighPair_30 u22 x1 x2 r23
  ) else (
    bdI (F_X0_marksAllow 1 u22 x1 x2) fun r27 u26 =>
    if r27 = 0 then (
      F_X2_weighPair_30 u26 x1 x2 r23
    ) else (
      F_X2_weighPair_31 u26 x1 x2 r23 (1 : Int32)
    )
  )
def F_X2_weigh_43 (k30 : Mem → Int32 → Option Mem) : Nat → Mem → Int32 → Int32 → Option Mem
  | 0, _, _, _ => none
  | n + 1, u, v1, v2 =>
    if v1 ≤ v2 then (
      k30 u (v1 + 1)
    ) else (
      bdV (F_X2_weighPair u v2 v1) fun u2 =>
      F_X2_weigh_43 k30 n u2 v1 (v2 + 1)
    )
def F_X2_weigh_30  : Nat → Mem → Int32 → Option Mem
  | 0, _, _ => none
  | n + 1, u, v1 =>
    if (u.1 4 1) ≤ v1 then (
      some u
    ) else (
      F_X2_weigh_43 (F_X2_weigh_30 n) fu u v1 (0 : Int32)
    )
def F_X2_weigh_2  : Nat → Mem → Int32 → Option Mem
  | 0, _, _ => none
  | n + 1, u, v1 =>
    if (12 : Int32) ≤ v1 then (
      F_X2_weigh_30 fu u (1 : Int32)
    ) else (
      gd v1 12 <|
      gd v1 12 <|
      bdV (some (sI (sI u 8 v1.toNatClampNeg (0 : Int32)) 9 v1.toNatClampNeg (0 : Int32))) fun u9 =>
      F_X2_weigh_2 n u9 (v1 + 1)
    )
def F_X2_weigh  (u : Mem)  : Option Mem :=
  F_X2_weigh_2 fu u (0 : Int32)
def F_X2_isIn_13  (u : Mem) (y0 : Int32) : Option (Int32 × Mem) :=
  gz y0 <|
  some (y0, u)
def F_X2_isIn  (u : Mem) (x0 : Int32) (x1 : Int32) : Option (Int32 × Mem) :=
  if (x0 &&& ((1 : Int32) <<< (x1 &&& 31))) = 0 then (
    F_X2_isIn_13 u (0 : Int32)
  ) else (
    F_X2_isIn_13 u (1 : Int32)
  )
def F_X2_without  (u : Mem) (x0 : Int32) (x1 : Int32) : Option (Int32 × Mem) :=
  some ((x0 &&& (((1 : Int32) <<< (x1 &&& 31)) ^^^ (-1 : Int32))), u)
def F_X2_isRing_40 (k2 : Mem → Int32 → Int32 → Option (Int32 × Mem)) (u : Mem) (v1 : Int32) (v2 : Int32) : Option (Int32 × Mem) :=
  k2 u v1 (v2 + 1)
def F_X2_isRing_2  : Nat → Mem → Int32 → Int32 → Option (Int32 × Mem)
  | 0, _, _, _ => none
  | n + 1, u, v1, v2 =>
    if (u.1 4 1) ≤ v2 then (
      some ((1 : Int32), u)
    ) else (
      bdI (F_X2_isIn u v1 v2) fun r3 u2 =>
      if r3 = 0 then (
        F_X2_isRing_40 (F_X2_isRing_2 n) u2 v1 v2
      ) else (
        bdI (F_X2_without u2 v1 v2) fun r7 u6 =>
        gd v2 12 <|
        if (r7 &&& ((u6.1 9 v2.toNatClampNeg) ^^^ (-1 : Int32))) = 0 then (
          F_X2_isRing_40 (F_X2_isRing_2 n) u6 v1 v2
        ) else (
          some ((0 : Int32), u6)
        )
      )
    )
def F_X2_isRing  (u : Mem) (x1 : Int32) : Option (Int32 × Mem) :=
  F_X2_isRing_2 fu u x1 (0 : Int32)
def F_X6_ring_41  (u : Mem) (y0 : Int32) : Option (Int32 × Mem) :=
  some (y0, u)
def F_X6_ring  (u : Mem) (x1 : Int32) : Option (Int32 × Mem) :=
  bdI (F_X0_hasAll 1 u x1) fun r2 u1 =>
  if r2 = 0 then (
    bdI (F_X6_found u1 (-1000000001 : Int32)) fun r13 u12 =>
    some (r13, u12)
  ) else (
    bdV (F_X2_weigh u1) fun u5 =>
    bdI (F_X2_isRing u5 x1) fun r9 u8 =>
    if r9 = 0 then (
      F_X6_ring_41 u8 (0 : Int32)
    ) else (
      F_X6_ring_41 u8 (1 : Int32)
    )
  )
def F_J6_bitCount_0f7a4  (u : Mem) (x0 : Int32) : Option (Int32 × Mem) :=
  some (((((((((x0 - (((x0.toUInt32 >>> ((1 : Int32).toUInt32 &&& Int32.toUInt32 31)).toInt32) &&& (1431655765 : Int32))) &&& (858993459 : Int32)) + ((((x0 - (((x0.toUInt32 >>> ((1 : Int32).toUInt32 &&& Int32.toUInt32 31)).toInt32) &&& (1431655765 : Int32))).toUInt32 >>> ((2 : Int32).toUInt32 &&& Int32.toUInt32 31)).toInt32) &&& (858993459 : Int32))) + (((((x0 - (((x0.toUInt32 >>> ((1 : Int32).toUInt32 &&& Int32.toUInt32 31)).toInt32) &&& (1431655765 : Int32))) &&& (858993459 : Int32)) + ((((x0 - (((x0.toUInt32 >>> ((1 : Int32).toUInt32 &&& Int32.toUInt32 31)).toInt32) &&& (1431655765 : Int32))).toUInt32 >>> ((2 : Int32).toUInt32 &&& Int32.toUInt32 31)).toInt32) &&& (858993459 : Int32))).toUInt32 >>> ((4 : Int32).toUInt32 &&& Int32.toUInt32 31)).toInt32)) &&& (252645135 : Int32)) + (((((((x0 - (((x0.toUInt32 >>> ((1 : Int32).toUInt32 &&& Int32.toUInt32 31)).toInt32) &&& (1431655765 : Int32))) &&& (858993459 : Int32)) + ((((x0 - (((x0.toUInt32 >>> ((1 : Int32).toUInt32 &&& Int32.toUInt32 31)).toInt32) &&& (1431655765 : Int32))).toUInt32 >>> ((2 : Int32).toUInt32 &&& Int32.toUInt32 31)).toInt32) &&& (858993459 : Int32))) + (((((x0 - (((x0.toUInt32 >>> ((1 : Int32).toUInt32 &&& Int32.toUInt32 31)).toInt32) &&& (1431655765 : Int32))) &&& (858993459 : Int32)) + ((((x0 - (((x0.toUInt32 >>> ((1 : Int32).toUInt32 &&& Int32.toUInt32 31)).toInt32) &&& (1431655765 : Int32))).toUInt32 >>> ((2 : Int32).toUInt32 &&& Int32.toUInt32 31)).toInt32) &&& (858993459 : Int32))).toUInt32 >>> ((4 : Int32).toUInt32 &&& Int32.toUInt32 31)).toInt32)) &&& (252645135 : Int32)).toUInt32 >>> ((8 : Int32).toUInt32 &&& Int32.toUInt32 31)).toInt32)) + ((((((((x0 - (((x0.toUInt32 >>> ((1 : Int32).toUInt32 &&& Int32.toUInt32 31)).toInt32) &&& (1431655765 : Int32))) &&& (858993459 : Int32)) + ((((x0 - (((x0.toUInt32 >>> ((1 : Int32).toUInt32 &&& Int32.toUInt32 31)).toInt32) &&& (1431655765 : Int32))).toUInt32 >>> ((2 : Int32).toUInt32 &&& Int32.toUInt32 31)).toInt32) &&& (858993459 : Int32))) + (((((x0 - (((x0.toUInt32 >>> ((1 : Int32).toUInt32 &&& Int32.toUInt32 31)).toInt32) &&& (1431655765 : Int32))) &&& (858993459 : Int32)) + ((((x0 - (((x0.toUInt32 >>> ((1 : Int32).toUInt32 &&& Int32.toUInt32 31)).toInt32) &&& (1431655765 : Int32))).toUInt32 >>> ((2 : Int32).toUInt32 &&& Int32.toUInt32 31)).toInt32) &&& (858993459 : Int32))).toUInt32 >>> ((4 : Int32).toUInt32 &&& Int32.toUInt32 31)).toInt32)) &&& (252645135 : Int32)) + (((((((x0 - (((x0.toUInt32 >>> ((1 : Int32).toUInt32 &&& Int32.toUInt32 31)).toInt32) &&& (1431655765 : Int32))) &&& (858993459 : Int32)) + ((((x0 - (((x0.toUInt32 >>> ((1 : Int32).toUInt32 &&& Int32.toUInt32 31)).toInt32) &&& (1431655765 : Int32))).toUInt32 >>> ((2 : Int32).toUInt32 &&& Int32.toUInt32 31)).toInt32) &&& (858993459 : Int32))) + (((((x0 - (((x0.toUInt32 >>> ((1 : Int32).toUInt32 &&& Int32.toUInt32 31)).toInt32) &&& (1431655765 : Int32))) &&& (858993459 : Int32)) + ((((x0 - (((x0.toUInt32 >>> ((1 : Int32).toUInt32 &&& Int32.toUInt32 31)).toInt32) &&& (1431655765 : Int32))).toUInt32 >>> ((2 : Int32).toUInt32 &&& Int32.toUInt32 31)).toInt32) &&& (858993459 : Int32))).toUInt32 >>> ((4 : Int32).toUInt32 &&& Int32.toUInt32 31)).toInt32)) &&& (252645135 : Int32)).toUInt32 >>> ((8 : Int32).toUInt32 &&& Int32.toUInt32 31)).toInt32)).toUInt32 >>> ((16 : Int32).toUInt32 &&& Int32.toUInt32 31)).toInt32)) &&& (63 : Int32)), u)
def F_X2_seekLargest_27 (self : Mem → Int32 → Int32 → Int32 → Option Mem)  (u : Mem) (v1 : Int32) : Option Mem :=
  some (sI u 7 8 v1)
def F_X2_seekLargest_74 (self : Mem → Int32 → Int32 → Int32 → Option Mem)  (u : Mem)  : Option Mem :=
  some u
def F_X2_seekLargest : Nat → Mem → Int32 → Int32 → Int32 → Option Mem
  | 0, _, _, _, _ => none
  | n + 1, u, x1, x2, x3 =>
    bdI (F_J6_bitCount_0f7a4 u (x1 ||| x2)) fun r2 u1 =>
    bdI (F_J6_bitCount_0f7a4 u1 (u1.1 7 8)) fun r5 u4 =>
    if r5 < r2 then (
      if x3 < 0 then (
        F_X2_seekLargest_27 (F_X2_seekLargest n) u4 x1
      ) else (
        if x3 < (12 : Int32) then (
          bdI (F_X2_without u4 x2 x3) fun r11 u10 =>
          bdV ((F_X2_seekLargest n) u10 x1 r11 (x3 - (1 : Int32))) fun u13 =>
          bdI (F_X2_isIn u13 x2 x3) fun r17 u16 =>
          if r17 = 0 then (
            F_X2_seekLargest_74 (F_X2_seekLargest n) u16
          ) else (
            gd x3 12 <|
            bdV ((F_X2_seekLargest n) u16 (x1 ||| ((1 : Int32) <<< (x3 &&& 31))) (x2 &&& (u16.1 9 x3.toNatClampNeg)) (x3 - (1 : Int32))) fun u21 =>
            F_X2_seekLargest_74 (F_X2_seekLargest n) u21
          )
        ) else (
          F_X2_seekLargest_27 (F_X2_seekLargest n) u4 x1
        )
      )
    ) else (
      some u4
    )
def F_X2_largestRing  (u : Mem) (x1 : Int32) : Option (Int32 × Mem) :=
  bdV (F_X2_seekLargest 20 (sI u 7 8 (0 : Int32)) (0 : Int32) x1 (11 : Int32)) fun u1 =>
  some ((u1.1 7 8), u1)
def F_X6_most  (u : Mem) (x1 : Int32) : Option (Int32 × Mem) :=
  bdI (F_X0_hasAll 1 u x1) fun r2 u1 =>
  if r2 = 0 then (
    bdI (F_X6_found u1 (-1000000001 : Int32)) fun r15 u14 =>
    some (r15, u14)
  ) else (
    bdV (F_X2_weigh u1) fun u5 =>
    bdI (F_X2_largestRing u5 x1) fun r9 u8 =>
    bdI (F_J6_bitCount_0f7a4 u8 r9) fun r12 u11 =>
    some (r12, u11)
  )
def F_X6_best  (u : Mem) (x1 : Int32) : Option (Int32 × Mem) :=
  bdI (F_X0_hasAll 1 u x1) fun r2 u1 =>
  if r2 = 0 then (
    bdI (F_X6_found u1 (-1000000001 : Int32)) fun r12 u11 =>
    some (r12, u11)
  ) else (
    bdV (F_X2_weigh u1) fun u5 =>
    bdI (F_X2_largestRing u5 x1) fun r9 u8 =>
    some (r9, u8)
  )
def F_X2_deal_139 (self : Mem → Int32 → Int32 → Int32 → Option Mem)  (u : Mem)  : Option Mem :=
  some u
def F_X2_deal_107 (self : Mem → Int32 → Int32 → Int32 → Option Mem) (k42 : Mem → Int32 → Int32 → Int32 → Int32 → Option Mem) (u : Mem) (v1 : Int32) (v2 : Int32) (v3 : Int32) (v4 : Int32) : Option Mem :=
  k42 u v1 v2 v3 (v4 + 1)
def F_X2_deal_42 (self : Mem → Int32 → Int32 → Int32 → Option Mem)  : Nat → Mem → Int32 → Int32 → Int32 → Int32 → Option Mem
  | 0, _, _, _, _, _ => none
  | n + 1, u, v1, v2, v3, v4 =>
    if v3 ≤ v4 then (
      if (12 : Int32) ≤ v3 then (
        F_X2_deal_139 self u
      ) else (
        gd v3 12 <|
        bdV (self (sI u 11 v3.toNatClampNeg ((1 : Int32) <<< (v2 &&& 31))) v1 (v2 + (1 : Int32)) (v3 + (1 : Int32))) fun u4 =>
        F_X2_deal_139 self u4
      )
    ) else (
      gd v4 12 <|
      gd v2 12 <|
      if ((u.1 11 v4.toNatClampNeg) &&& ((u.1 9 v2.toNatClampNeg) ^^^ (-1 : Int32))) = 0 then (
        gd v4 12 <|
        gd v4 12 <|
        bdV (some (sI u 11 v4.toNatClampNeg ((u.1 11 v4.toNatClampNeg) ||| ((1 : Int32) <<< (v2 &&& 31))))) fun u12 =>
        bdV (self u12 v1 (v2 + (1 : Int32)) v3) fun u14 =>
        gd v4 12 <|
        bdI (F_X2_without u14 (u14.1 11 v4.toNatClampNeg) v2) fun r19 u18 =>
        gd v4 12 <|
        F_X2_deal_107 self (F_X2_deal_42 self n) (sI u18 11 v4.toNatClampNeg r19) v1 v2 v3 v4
      ) else (
        F_X2_deal_107 self (F_X2_deal_42 self n) u v1 v2 v3 v4
      )
    )
def F_X2_deal : Nat → Mem → Int32 → Int32 → Int32 → Option Mem
  | 0, _, _, _, _ => none
  | n + 1, u, x1, x2, x3 =>
    if x3 < (u.1 7 9) then (
      if x2 < (12 : Int32) then (
        bdI (F_X2_isIn u x1 x2) fun r25 u24 =>
        if r25 = 0 then (
          bdV ((F_X2_deal n) u24 x1 (x2 + (1 : Int32)) x3) fun u28 =>
          some u28
        ) else (
          F_X2_deal_42 (F_X2_deal n) fu u24 x1 x2 x3 (0 : Int32)
        )
      ) else (
        some (sI u 7 9 x3)
      )
    ) else (
      some u
    )
def F_X2_fewestRings  (u : Mem) (x1 : Int32) : Option (Int32 × Mem) :=
  bdI (F_J6_bitCount_0f7a4 u x1) fun r2 u1 =>
  bdV (F_X2_deal 20 (sI u1 7 9 r2) x1 (0 : Int32) (0 : Int32)) fun u4 =>
  some ((u4.1 7 9), u4)
def F_X6_fewest  (u : Mem) (x1 : Int32) : Option (Int32 × Mem) :=
  bdI (F_X0_hasAll 1 u x1) fun r2 u1 =>
  if r2 = 0 then (
    bdI (F_X6_found u1 (-1000000001 : Int32)) fun r12 u11 =>
    some (r12, u11)
  ) else (
    bdV (F_X2_weigh u1) fun u5 =>
    bdI (F_X2_fewestRings u5 x1) fun r9 u8 =>
    some (r9, u8)
  )
def F_X2_loners_40 (k4 : Mem → Int32 → Int32 → Int32 → Option (Int32 × Mem)) (u : Mem) (v1 : Int32) (v2 : Int32) (v3 : Int32) : Option (Int32 × Mem) :=
  k4 u v1 v2 (v3 + 1)
def F_X2_loners_4  : Nat → Mem → Int32 → Int32 → Int32 → Option (Int32 × Mem)
  | 0, _, _, _, _ => none
  | n + 1, u, v1, v2, v3 =>
    if (u.1 4 1) ≤ v3 then (
      some (v2, u)
    ) else (
      bdI (F_X2_isIn u v1 v3) fun r3 u2 =>
      if r3 = 0 then (
        F_X2_loners_40 (F_X2_loners_4 n) u2 v1 v2 v3
      ) else (
        gd v3 12 <|
        if (v1 &&& (u2.1 9 v3.toNatClampNeg)) = 0 then (
          F_X2_loners_40 (F_X2_loners_4 n) u2 v1 (v2 ||| ((1 : Int32) <<< (v3 &&& 31))) v3
        ) else (
          F_X2_loners_40 (F_X2_loners_4 n) u2 v1 v2 v3
        )
      )
    )
def F_X2_loners  (u : Mem) (x1 : Int32) : Option (Int32 × Mem) :=
  F_X2_loners_4 fu u x1 (0 : Int32) (0 : Int32)
def F_X6_alone  (u : Mem) (x1 : Int32) : Option (Int32 × Mem) :=
  bdI (F_X0_hasAll 1 u x1) fun r2 u1 =>
  if r2 = 0 then (
    bdI (F_X6_found u1 (-1000000001 : Int32)) fun r12 u11 =>
    some (r12, u11)
  ) else (
    bdV (F_X2_weigh u1) fun u5 =>
    bdI (F_X2_loners u5 x1) fun r9 u8 =>
    some (r9, u8)
  )
def F_X2_gatherMembers_73 (k63 : Mem → Int32 → Option Mem) : Nat → Mem → Int32 → Int32 → Option Mem
  | 0, _, _, _ => none
  | n + 1, u, v2, v3 =>
    if (u.1 7 10) ≤ v3 then (
      k63 u (v2 + 1)
    ) else (
      gd v2 8 <|
      gd (u.1 12 v2.toNatClampNeg) 12 <|
      gd v3 8 <|
      bdI (F_X2_isIn u (u.1 8 (u.1 12 v2.toNatClampNeg).toNatClampNeg) (u.1 12 v3.toNatClampNeg)) fun r6 u5 =>
      bdV (F_X2_note u5 13 v2 v3 r6) fun u8 =>
      F_X2_gatherMembers_73 k63 n u8 v2 (v3 + 1)
    )
def F_X2_gatherMembers_63  : Nat → Mem → Int32 → Option Mem
  | 0, _, _ => none
  | n + 1, u, v2 =>
    if (u.1 7 10) ≤ v2 then (
      some u
    ) else (
      F_X2_gatherMembers_73 (F_X2_gatherMembers_63 n) fu u v2 (0 : Int32)
    )
def F_X2_gatherMembers_61  (u : Mem)  : Option Mem :=
  F_X2_gatherMembers_63 fu u (0 : Int32)
def F_X2_gatherMembers_55 (k7 : Mem → Int32 → Int32 → Option Mem) (u : Mem) (v1 : Int32) (v2 : Int32) : Option Mem :=
  k7 u v1 (v2 + 1)
def F_X2_gatherMembers_7  : Nat → Mem → Int32 → Int32 → Option Mem
  | 0, _, _, _ => none
  | n + 1, u, v1, v2 =>
    if (u.1 4 1) ≤ v2 then (
      F_X2_gatherMembers_61 u
    ) else (
      if (8 : Int32) ≤ (u.1 7 10) then (
        F_X2_gatherMembers_61 u
      ) else (
        bdI (F_X2_isIn u v1 v2) fun r15 u14 =>
        if r15 = 0 then (
          F_X2_gatherMembers_55 (F_X2_gatherMembers_7 n) u14 v1 v2
        ) else (
          gd (u14.1 7 10) 8 <|
          bdV (some (sI (sI u14 12 (u14.1 7 10).toNatClampNeg v2) 7 10 (((sI u14 12 (u14.1 7 10).toNatClampNeg v2).1 7 10) + (1 : Int32)))) fun u19 =>
          F_X2_gatherMembers_55 (F_X2_gatherMembers_7 n) u19 v1 v2
        )
      )
    )
def F_X2_gatherMembers  (u : Mem) (x1 : Int32) : Option Mem :=
  F_X2_gatherMembers_7 fu (sI u 7 10 (0 : Int32)) x1 (0 : Int32)
def F_X2_canLead_18  (u : Mem) (y0 : Int32) : Option (Int32 × Mem) :=
  gz y0 <|
  some (y0, u)
def F_X2_canLead  (u : Mem) (x1 : Int32) (x2 : Int32) : Option (Int32 × Mem) :=
  gd x1 8 <|
  if (x2 &&& ((u.1 13 x1.toNatClampNeg) ^^^ (-1 : Int32))) = 0 then (
    F_X2_canLead_18 u (1 : Int32)
  ) else (
    F_X2_canLead_18 u (0 : Int32)
  )
def F_X2_countOrders_76 (k29 : Mem → Int32 → Int32 → Int32 → Option Mem) (u : Mem) (v2 : Int32) (v3 : Int32) (v4 : Int32) : Option Mem :=
  k29 u v2 v3 (v4 + 1)
def F_X2_countOrders_29 (k14 : Mem → Int32 → Option Mem) : Nat → Mem → Int32 → Int32 → Int32 → Option Mem
  | 0, _, _, _, _ => none
  | n + 1, u, v2, v3, v4 =>
    if (u.1 7 10) ≤ v4 then (
      gd v2 256 <|
      k14 (sI u 14 v2.toNatClampNeg v3) (v2 + 1)
    ) else (
      bdI (F_X2_isIn u v2 v4) fun r4 u3 =>
      if r4 = 0 then (
        F_X2_countOrders_76 (F_X2_countOrders_29 k14 n) u3 v2 v3 v4
      ) else (
        bdI (F_X2_without u3 v2 v4) fun r8 u7 =>
        bdI (F_X2_canLead u7 v4 r8) fun r11 u10 =>
        if r11 = 0 then (
          F_X2_countOrders_76 (F_X2_countOrders_29 k14 n) u10 v2 v3 v4
        ) else (
          bdI (F_X2_without u10 v2 v4) fun r15 u14 =>
          gd r15 256 <|
          F_X2_countOrders_76 (F_X2_countOrders_29 k14 n) u14 v2 (v3 + (u14.1 14 r15.toNatClampNeg)) v4
        )
      )
    )
def F_X2_countOrders_14  : Nat → Mem → Int32 → Option Mem
  | 0, _, _ => none
  | n + 1, u, v2 =>
    if ((1 : Int32) <<< ((u.1 7 10) &&& 31)) ≤ v2 then (
      some u
    ) else (
      F_X2_countOrders_29 (F_X2_countOrders_14 n) fu u v2 (0 : Int32) (0 : Int32)
    )
def F_X2_countOrders  (u : Mem) (x1 : Int32) : Option Mem :=
  bdV (F_X2_gatherMembers u x1) fun u19 =>
  gd (0 : Int32) 256 <|
  F_X2_countOrders_14 fu (sI u19 14 (0 : Int32).toNatClampNeg (1 : Int32)) (1 : Int32)
def F_X2_howManyOrders  (u : Mem) (x1 : Int32) : Option (Int32 × Mem) :=
  bdV (F_X2_countOrders u x1) fun u1 =>
  gd (((1 : Int32) <<< ((u1.1 7 10) &&& 31)) - (1 : Int32)) 256 <|
  some ((u1.1 14 (((1 : Int32) <<< ((u1.1 7 10) &&& 31)) - (1 : Int32)).toNatClampNeg), u1)
def F_X6_orders  (u : Mem) (x1 : Int32) : Option (Int32 × Mem) :=
  bdI (F_X0_hasAll 1 u x1) fun r2 u1 =>
  if r2 = 0 then (
    bdI (F_X6_found u1 (-1000000001 : Int32)) fun r19 u18 =>
    some (r19, u18)
  ) else (
    bdI (F_J6_bitCount_0f7a4 u1 x1) fun r6 u5 =>
    if r6 ≤ (8 : Int32) then (
      bdV (F_X2_weigh u5) fun u9 =>
      bdI (F_X2_howManyOrders u9 x1) fun r13 u12 =>
      some (r13, u12)
    ) else (
      bdI (F_X6_found u5 (-1000000007 : Int32)) fun r16 u15 =>
      some (r16, u15)
    )
  )
def F_X2_firstLeader_33 (k2 : Mem → Int32 → Int32 → Option (Int32 × Mem)) (u : Mem) (v1 : Int32) (v2 : Int32) : Option (Int32 × Mem) :=
  k2 u v1 (v2 + 1)
def F_X2_firstLeader_2  : Nat → Mem → Int32 → Int32 → Option (Int32 × Mem)
  | 0, _, _, _ => none
  | n + 1, u, v1, v2 =>
    if (u.1 7 10) ≤ v2 then (
      some ((-1 : Int32), u)
    ) else (
      bdI (F_X2_isIn u v1 v2) fun r3 u2 =>
      if r3 = 0 then (
        F_X2_firstLeader_33 (F_X2_firstLeader_2 n) u2 v1 v2
      ) else (
        bdI (F_X2_without u2 v1 v2) fun r7 u6 =>
        bdI (F_X2_canLead u6 v2 r7) fun r10 u9 =>
        if r10 = 0 then (
          F_X2_firstLeader_33 (F_X2_firstLeader_2 n) u9 v1 v2
        ) else (
          some (v2, u9)
        )
      )
    )
def F_X2_firstLeader  (u : Mem) (x1 : Int32) : Option (Int32 × Mem) :=
  F_X2_firstLeader_2 fu u x1 (0 : Int32)
def F_X2_inFirstOrder_31  (u : Mem)  : Option (Int32 × Mem) :=
  some ((-1 : Int32), u)
def F_X2_inFirstOrder_39  : Nat → Mem → Int32 → Int32 → Int32 → Int32 → Option (Int32 × Mem)
  | 0, _, _, _, _, _ => none
  | n + 1, u, v2, v3, v4, v5 =>
    if v2 < v5 then (
      gd v4 8 <|
      some ((u.1 12 v4.toNatClampNeg), u)
    ) else (
      bdI (F_X2_firstLeader u v3) fun r4 u3 =>
      if r4 = (-1 : Int32) then (
        some ((-1 : Int32), u3)
      ) else (
        bdI (F_X2_without u3 v3 r4) fun r8 u7 =>
        F_X2_inFirstOrder_39 n u7 v2 r8 r4 (v5 + 1)
      )
    )
def F_X2_inFirstOrder  (u : Mem) (x1 : Int32) (x2 : Int32) : Option (Int32 × Mem) :=
  bdV (F_X2_countOrders u x1) fun u10 =>
  if (u10.1 7 10) ≤ x2 then (
    F_X2_inFirstOrder_31 u10
  ) else (
    gd (((1 : Int32) <<< ((u10.1 7 10) &&& 31)) - (1 : Int32)) 256 <|
    if (u10.1 14 (((1 : Int32) <<< ((u10.1 7 10) &&& 31)) - (1 : Int32)).toNatClampNeg) = 0 then (
      F_X2_inFirstOrder_31 u10
    ) else (
      F_X2_inFirstOrder_39 fu u10 x2 (((1 : Int32) <<< ((u10.1 7 10) &&& 31)) - (1 : Int32)) (-1 : Int32) (0 : Int32)
    )
  )
def F_X6_printOr_14  (u : Mem) (y0 : Int32) : Option (Int32 × Mem) :=
  some (y0, u)
def F_X6_printOr  (u : Mem) (x1 : Int32) (x2 : Int32) : Option (Int32 × Mem) :=
  if x2 = (-1 : Int32) then (
    bdI (F_X6_found u x1) fun r3 u2 =>
    F_X6_printOr_14 u2 r3
  ) else (
    F_X6_printOr_14 u x2
  )
def F_X6_ith_21  (u : Mem)  : Option (Int32 × Mem) :=
  bdI (F_X6_found u (-1000000001 : Int32)) fun r2 u1 =>
  some (r2, u1)
def F_X6_ith  (u : Mem) (x1 : Int32) (x2 : Int32) : Option (Int32 × Mem) :=
  bdI (F_X0_hasAll 1 u x1) fun r5 u4 =>
  if r5 = 0 then (
    F_X6_ith_21 u4
  ) else (
    if x2 < 0 then (
      F_X6_ith_21 u4
    ) else (
      if x2 < (8 : Int32) then (
        bdI (F_J6_bitCount_0f7a4 u4 x1) fun r11 u10 =>
        if r11 ≤ (8 : Int32) then (
          bdV (F_X2_weigh u10) fun u14 =>
          bdI (F_X2_inFirstOrder u14 x1 x2) fun r18 u17 =>
          bdI (F_X6_printOr u17 (-1000000004 : Int32) r18) fun r21 u20 =>
          some (r21, u20)
        ) else (
          bdI (F_X6_found u10 (-1000000007 : Int32)) fun r24 u23 =>
          some (r24, u23)
        )
      ) else (
        F_X6_ith_21 u4
      )
    )
  )
def F_X2_rowByYears_84 (k4 : Mem → Int32 → Int32 → Int32 → Option (Int32 × Mem)) (u : Mem) (v1 : Int32) (v2 : Int32) (v3 : Int32) : Option (Int32 × Mem) :=
  k4 u v1 v2 (v3 + 1)
def F_X2_rowByYears_73 (k4 : Mem → Int32 → Int32 → Int32 → Option (Int32 × Mem)) (u : Mem) (v1 : Int32) (v2 : Int32) (v3 : Int32) (v4 : Int32) : Option (Int32 × Mem) :=
  gd v4 12 <|
  F_X2_rowByYears_84 k4 (sI u 10 v4.toNatClampNeg v3) v1 (v2 + 1) v3
def F_X2_rowByYears_26 (k4 : Mem → Int32 → Int32 → Int32 → Option (Int32 × Mem)) : Nat → Mem → Int32 → Int32 → Int32 → Int32 → Option (Int32 × Mem)
  | 0, _, _, _, _, _ => none
  | n + 1, u, v1, v2, v3, v4 =>
    if v4 ≤ 0 then (
      F_X2_rowByYears_73 k4 u v1 v2 v3 v4
    ) else (
      gd (v4 - (1 : Int32)) 12 <|
      bdI (F_X0_isEarlier 1 u v3 (u.1 10 (v4 - (1 : Int32)).toNatClampNeg)) fun r5 u4 =>
      if r5 = 0 then (
        F_X2_rowByYears_73 k4 u4 v1 v2 v3 v4
      ) else (
        gd (v4 - (1 : Int32)) 12 <|
        gd v4 12 <|
        F_X2_rowByYears_26 k4 n (sI u4 10 v4.toNatClampNeg (u4.1 10 (v4 - (1 : Int32)).toNatClampNeg)) v1 v2 v3 (v4 - 1)
      )
    )
def F_X2_rowByYears_4  : Nat → Mem → Int32 → Int32 → Int32 → Option (Int32 × Mem)
  | 0, _, _, _, _ => none
  | n + 1, u, v1, v2, v3 =>
    if (u.1 4 1) ≤ v3 then (
      some (v2, u)
    ) else (
      bdI (F_X2_isIn u v1 v3) fun r12 u11 =>
      if r12 = 0 then (
        F_X2_rowByYears_84 (F_X2_rowByYears_4 n) u11 v1 v2 v3
      ) else (
        F_X2_rowByYears_26 (F_X2_rowByYears_4 n) fu u11 v1 v2 v3 v2
      )
    )
def F_X2_rowByYears  (u : Mem) (x1 : Int32) : Option (Int32 × Mem) :=
  F_X2_rowByYears_4 fu u x1 (0 : Int32) (0 : Int32)
def F_X2_fitsSomewhere_91 (k26 : Mem → Int32 → Int32 → Int32 → Int32 → Option (Int32 × Mem)) (u : Mem) (v1 : Int32) (v3 : Int32) (v4 : Int32) (v5 : Int32) : Option (Int32 × Mem) :=
  k26 u v1 v3 v4 (v5 + 1)
def F_X2_fitsSomewhere_26  : Nat → Mem → Int32 → Int32 → Int32 → Int32 → Option (Int32 × Mem)
  | 0, _, _, _, _, _ => none
  | n + 1, u, v1, v3, v4, v5 =>
    if v3 ≤ v5 then (
      some ((0 : Int32), u)
    ) else (
      gd v5 12 <|
      if (u.1 10 v5.toNatClampNeg) = v1 then (
        F_X2_fitsSomewhere_91 (F_X2_fitsSomewhere_26 n) u v1 v3 v4 v5
      ) else (
        gd (u.1 10 v5.toNatClampNeg) 12 <|
        bdI (F_X2_isIn u (u.1 8 (u.1 10 v5.toNatClampNeg).toNatClampNeg) v1) fun r6 u5 =>
        if r6 = 0 then (
          some ((0 : Int32), u5)
        ) else (
          bdI (F_X2_without u5 v4 (u.1 10 v5.toNatClampNeg)) fun r10 u9 =>
          gd v1 12 <|
          if (r10 &&& ((u9.1 8 v1.toNatClampNeg) ^^^ (-1 : Int32))) = 0 then (
            some ((1 : Int32), u9)
          ) else (
            F_X2_fitsSomewhere_91 (F_X2_fitsSomewhere_26 n) u9 v1 v3 r10 v5
          )
        )
      )
    )
def F_X2_fitsSomewhere  (u : Mem) (x1 : Int32) (x2 : Int32) (x3 : Int32) : Option (Int32 × Mem) :=
  bdI (F_X2_without u x2 x1) fun r15 u14 =>
  gd x1 12 <|
  if (r15 &&& ((u14.1 8 x1.toNatClampNeg) ^^^ (-1 : Int32))) = 0 then (
    some ((1 : Int32), u14)
  ) else (
    F_X2_fitsSomewhere_26 fu u14 x1 x3 r15 (0 : Int32)
  )
def F_X2_misdated_51 (k8 : Mem → Int32 → Int32 → Int32 → Option (Int32 × Mem)) (u : Mem) (v1 : Int32) (v2 : Int32) (v3 : Int32) : Option (Int32 × Mem) :=
  k8 u v1 v2 (v3 + 1)
def F_X2_misdated_8  : Nat → Mem → Int32 → Int32 → Int32 → Option (Int32 × Mem)
  | 0, _, _, _, _ => none
  | n + 1, u, v1, v2, v3 =>
    if (u.1 4 1) ≤ v3 then (
      some ((-1 : Int32), u)
    ) else (
      bdI (F_X2_isIn u v1 v3) fun r3 u2 =>
      if r3 = 0 then (
        F_X2_misdated_51 (F_X2_misdated_8 n) u2 v1 v2 v3
      ) else (
        bdI (F_X2_without u2 v1 v3) fun r7 u6 =>
        bdI (F_X2_isRing u6 r7) fun r10 u9 =>
        if r10 = 0 then (
          F_X2_misdated_51 (F_X2_misdated_8 n) u9 v1 v2 v3
        ) else (
          bdI (F_X2_fitsSomewhere u9 v3 v1 v2) fun r14 u13 =>
          if r14 = 0 then (
            F_X2_misdated_51 (F_X2_misdated_8 n) u13 v1 v2 v3
          ) else (
            some (v3, u13)
          )
        )
      )
    )
def F_X2_misdated  (u : Mem) (x1 : Int32) : Option (Int32 × Mem) :=
  bdI (F_X2_rowByYears u x1) fun r18 u17 =>
  F_X2_misdated_8 fu u17 x1 r18 (0 : Int32)
def F_X6_falseDate  (u : Mem) (x1 : Int32) : Option (Int32 × Mem) :=
  bdI (F_X0_hasAll 1 u x1) fun r2 u1 =>
  if r2 = 0 then (
    bdI (F_X6_found u1 (-1000000001 : Int32)) fun r22 u21 =>
    some (r22, u21)
  ) else (
    bdV (F_X2_weigh u1) fun u5 =>
    bdI (F_X2_isRing u5 x1) fun r9 u8 =>
    if r9 = 0 then (
      bdI (F_X2_misdated u8 x1) fun r13 u12 =>
      bdI (F_X6_printOr u12 (-1000000004 : Int32) r13) fun r16 u15 =>
      some (r16, u15)
    ) else (
      bdI (F_X6_found u8 (-1000000005 : Int32)) fun r19 u18 =>
      some (r19, u18)
    )
  )
def F_X2_surelyHad_75  (u : Mem) (v4 : Int64) : Option (Int64 × Mem) :=
  some (v4, u)
def F_X2_surelyHad_59 (k12 : Mem → Int32 → Int32 → Int64 → Int32 → Option (Int64 × Mem)) (u : Mem) (v2 : Int32) (v3 : Int32) (v4 : Int64) (v6 : Int32) (v7 : Nat) : Option (Int64 × Mem) :=
  bdL (F_X1_shown v7 u) fun r2 u1 =>
  k12 u1 v2 v3 (v4 ||| r2) (v6 + 1)
def F_X2_surelyHad_12  : Nat → Mem → Int32 → Int32 → Int64 → Int32 → Option (Int64 × Mem)
  | 0, _, _, _, _, _ => none
  | n + 1, u, v2, v3, v4, v6 =>
    if v3 ≤ v6 then (
      F_X2_surelyHad_75 u v4
    ) else (
      gd v6 12 <|
      gd (u.1 10 v6.toNatClampNeg) 12 <|
      if (u.1 (28 + (u.1 10 v6.toNatClampNeg).toNatClampNeg) 2) ≤ v2 then (
        if (u.1 (28 + (u.1 10 v6.toNatClampNeg).toNatClampNeg) 0) = (4 : Int32) then (
          F_X2_surelyHad_59 (F_X2_surelyHad_12 n) u v2 v3 (0 : Int64) v6 (28 + (u.1 10 v6.toNatClampNeg).toNatClampNeg)
        ) else (
          F_X2_surelyHad_59 (F_X2_surelyHad_12 n) u v2 v3 v4 v6 (28 + (u.1 10 v6.toNatClampNeg).toNatClampNeg)
        )
      ) else (
        F_X2_surelyHad_75 u v4
      )
    )
def F_X2_surelyHad  (u : Mem) (x1 : Int32) (x2 : Int32) : Option (Int64 × Mem) :=
  bdI (F_X2_rowByYears u x1) fun r11 u10 =>
  F_X2_surelyHad_12 fu u10 x2 r11 (0 : Int64) (0 : Int32)
def F_X6_had_18  (u : Mem)  : Option (Int64 × Mem) :=
  bdI (F_X6_found u (-1000000001 : Int32)) fun r2 u1 =>
  some (r2.toInt64, u1)
def F_X6_had  (u : Mem) (x1 : Int32) (x2 : Int32) : Option (Int64 × Mem) :=
  bdI (F_X0_hasAll 1 u x1) fun r5 u4 =>
  if r5 = 0 then (
    F_X6_had_18 u4
  ) else (
    bdI (F_X6_isYear u4 x2) fun r9 u8 =>
    if r9 = 0 then (
      F_X6_had_18 u8
    ) else (
      bdL (F_X2_surelyHad u8 x1 x2) fun r13 u12 =>
      some (r13, u12)
    )
  )
def F_X2_surelyHadNot_81  (u : Mem) (v4 : Int64) : Option (Int64 × Mem) :=
  some (v4, u)
def F_X2_surelyHadNot_75 (k12 : Mem → Int32 → Int32 → Int64 → Int32 → Option (Int64 × Mem)) (u : Mem) (v2 : Int32) (v3 : Int32) (v4 : Int64) (v6 : Int32) : Option (Int64 × Mem) :=
  k12 u v2 v3 v4 (v6 + 1)
def F_X2_surelyHadNot_56 (k12 : Mem → Int32 → Int32 → Int64 → Int32 → Option (Int64 × Mem)) (u : Mem) (v2 : Int32) (v3 : Int32) (v4 : Int64) (v6 : Int32) (v7 : Nat) : Option (Int64 × Mem) :=
  if (u.1 v7 2) < v2 then (
    F_X2_surelyHadNot_75 k12 u v2 v3 v4 v6
  ) else (
    bdL (F_X1_bare v7 u) fun r3 u2 =>
    F_X2_surelyHadNot_75 k12 u2 v2 v3 (v4 ||| r3) v6
  )
def F_X2_surelyHadNot_12  : Nat → Mem → Int32 → Int32 → Int64 → Int32 → Option (Int64 × Mem)
  | 0, _, _, _, _, _ => none
  | n + 1, u, v2, v3, v4, v6 =>
    if v3 ≤ v6 then (
      F_X2_surelyHadNot_81 u v4
    ) else (
      gd v6 12 <|
      gd (u.1 10 v6.toNatClampNeg) 12 <|
      if (u.1 (28 + (u.1 10 v6.toNatClampNeg).toNatClampNeg) 2) ≤ v2 then (
        F_X2_surelyHadNot_56 (F_X2_surelyHadNot_12 n) u v2 v3 v4 v6 (28 + (u.1 10 v6.toNatClampNeg).toNatClampNeg)
      ) else (
        if (u.1 (28 + (u.1 10 v6.toNatClampNeg).toNatClampNeg) 0) = (4 : Int32) then (
          F_X2_surelyHadNot_81 u v4
        ) else (
          F_X2_surelyHadNot_56 (F_X2_surelyHadNot_12 n) u v2 v3 v4 v6 (28 + (u.1 10 v6.toNatClampNeg).toNatClampNeg)
        )
      )
    )
def F_X2_surelyHadNot  (u : Mem) (x1 : Int32) (x2 : Int32) : Option (Int64 × Mem) :=
  bdI (F_X2_rowByYears u x1) fun r12 u11 =>
  F_X2_surelyHadNot_12 fu u11 x2 r12 (0 : Int64) (0 : Int32)
def F_X6_hadNot_18  (u : Mem)  : Option (Int64 × Mem) :=
  bdI (F_X6_found u (-1000000001 : Int32)) fun r2 u1 =>
  some (r2.toInt64, u1)
def F_X6_hadNot  (u : Mem) (x1 : Int32) (x2 : Int32) : Option (Int64 × Mem) :=
  bdI (F_X0_hasAll 1 u x1) fun r5 u4 =>
  if r5 = 0 then (
    F_X6_hadNot_18 u4
  ) else (
    bdI (F_X6_isYear u4 x2) fun r9 u8 =>
    if r9 = 0 then (
      F_X6_hadNot_18 u8
    ) else (
      bdL (F_X2_surelyHadNot u8 x1 x2) fun r13 u12 =>
      some (r13, u12)
    )
  )
def F_X0_canBeCast_62  (u : Mem) (y0 : Int32) : Option (Int32 × Mem) :=
  gz y0 <|
  some (y0, u)
def F_X0_canBeCast_61  (u : Mem)  : Option (Int32 × Mem) :=
  F_X0_canBeCast_62 u (0 : Int32)
def F_X0_canBeCast  (u : Mem) (x0 : Nat) (x1 : Nat) : Option (Int32 × Mem) :=
  if (u.1 x0 2) < (u.1 x1 2) then (
    F_X0_canBeCast_61 u
  ) else (
    if (lg_cmp (u.2 x1 4) (u.2 x0 4)) = 0 then (
      if ((u.1 x0 1) * (100 : Int32)) < ((u.1 x1 1) * (96 : Int32)) then (
        F_X0_canBeCast_61 u
      ) else (
        if ((u.1 x1 1) * (98 : Int32)) < ((u.1 x0 1) * (100 : Int32)) then (
          F_X0_canBeCast_61 u
        ) else (
          F_X0_canBeCast_62 u (1 : Int32)
        )
      )
    ) else (
      F_X0_canBeCast_61 u
    )
  )
def F_X0_sourceOf_24  (u : Mem)  : Option (Int32 × Mem) :=
  some ((-1 : Int32), u)
def F_X0_sourceOf_61 (k28 : Mem → Nat → Int32 → Int32 → Option (Int32 × Mem)) (u : Mem) (v0 : Nat) (v1 : Int32) (v2 : Int32) : Option (Int32 × Mem) :=
  k28 u v0 v1 (v2 + 1)
def F_X0_sourceOf_28  : Nat → Mem → Nat → Int32 → Int32 → Option (Int32 × Mem)
  | 0, _, _, _, _ => none
  | n + 1, u, v0, v1, v2 =>
    if (u.1 (v0 + 3) 1) ≤ v2 then (
      some ((-1 : Int32), u)
    ) else (
      if v2 = v1 then (
        F_X0_sourceOf_61 (F_X0_sourceOf_28 n) u v0 v1 v2
      ) else (
        gd v1 12 <|
        gd v2 12 <|
        bdI (F_X0_canBeCast u (12 * v0 + 16 + v1.toNatClampNeg) (12 * v0 + 16 + v2.toNatClampNeg)) fun r8 u7 =>
        if r8 = 0 then (
          F_X0_sourceOf_61 (F_X0_sourceOf_28 n) u7 v0 v1 v2
        ) else (
          some (v2, u7)
        )
      )
    )
def F_X0_sourceOf (x0 : Nat) (u : Mem) (x1 : Int32) : Option (Int32 × Mem) :=
  bdI (F_X0_has x0 u x1) fun r12 u11 =>
  if r12 = 0 then (
    F_X0_sourceOf_24 u11
  ) else (
    gd x1 12 <|
    bdI (F_X6_isUnder u11 (u11.1 (12 * x0 + 16 + x1.toNatClampNeg) 0) (2 : Int32)) fun r18 u17 =>
    if r18 = 0 then (
      F_X0_sourceOf_24 u17
    ) else (
      F_X0_sourceOf_28 fu u17 x0 x1 (0 : Int32)
    )
  )
def F_X6_castOf  (u : Mem) (x1 : Int32) : Option (Int32 × Mem) :=
  bdI (F_X0_has 1 u x1) fun r2 u1 =>
  if r2 = 0 then (
    bdI (F_X6_found u1 (-1000000001 : Int32)) fun r21 u20 =>
    some (r21, u20)
  ) else (
    gd x1 12 <|
    bdI (F_X6_isUnder u1 (u1.1 (28 + x1.toNatClampNeg) 0) (2 : Int32)) fun r8 u7 =>
    if r8 = 0 then (
      bdI (F_X6_found u7 (-1000000005 : Int32)) fun r18 u17 =>
      some (r18, u17)
    ) else (
      bdI (F_X0_sourceOf 1 u7 x1) fun r12 u11 =>
      bdI (F_X6_printOr u11 (-1000000004 : Int32) r12) fun r15 u14 =>
      some (r15, u14)
    )
  )
def F_X6_deep_55  (u : Mem) (v2 : Int32) : Option (Int32 × Mem) :=
  some (v2, u)
def F_X6_deep_29  : Nat → Mem → Int32 → Int32 → Option (Int32 × Mem)
  | 0, _, _, _ => none
  | n + 1, u, v2, v3 =>
    if v3 = (-1 : Int32) then (
      F_X6_deep_55 u v2
    ) else (
      if (12 : Int32) ≤ v2 then (
        F_X6_deep_55 u v2
      ) else (
        bdI (F_X0_sourceOf 1 u v3) fun r4 u3 =>
        F_X6_deep_29 n u3 (v2 + 1) r4
      )
    )
def F_X6_deep  (u : Mem) (x1 : Int32) : Option (Int32 × Mem) :=
  bdI (F_X0_has 1 u x1) fun r7 u6 =>
  if r7 = 0 then (
    bdI (F_X6_found u6 (-1000000001 : Int32)) fun r14 u13 =>
    some (r14, u13)
  ) else (
    bdI (F_X0_sourceOf 1 u6 x1) fun r11 u10 =>
    F_X6_deep_29 fu u10 (0 : Int32) r11
  )
def F_X2_weighOne_24 (k2 : Mem → Int32 → Int32 → Option Mem) (u : Mem) (v1 : Int32) (v2 : Int32) : Option Mem :=
  k2 u v1 (v2 + 1)
def F_X2_weighOne_2  : Nat → Mem → Int32 → Int32 → Option Mem
  | 0, _, _, _ => none
  | n + 1, u, v1, v2 =>
    if (u.1 4 1) ≤ v2 then (
      some u
    ) else (
      if v2 = v1 then (
        F_X2_weighOne_24 (F_X2_weighOne_2 n) u v1 v2
      ) else (
        bdV (F_X2_weighPair u v1 v2) fun u3 =>
        F_X2_weighOne_24 (F_X2_weighOne_2 n) u3 v1 v2
      )
    )
def F_X2_weighOne  (u : Mem) (x1 : Int32) : Option Mem :=
  F_X2_weighOne_2 fu u x1 (0 : Int32)
def F_X2_mostTelling_136 (k26 : Mem → Int32 → Int32 → Int32 → Int32 → Int32 → Option (Int32 × Mem)) (u : Mem) (v1 : Int32) (v2 : Int32) (v3 : Int32) (v4 : Int32) (v5 : Int32) : Option (Int32 × Mem) :=
  k26 u v1 v2 v3 v4 (v5 + 1)
def F_X2_mostTelling_108 (k26 : Mem → Int32 → Int32 → Int32 → Int32 → Int32 → Option (Int32 × Mem)) (u : Mem) (v1 : Int32) (v2 : Int32) (v3 : Int32) (v4 : Int32) (v5 : Int32) (v6 : Nat) (y0 : Int32) : Option (Int32 × Mem) :=
  bdV (F_X2_weighOne (sI u v6 3 (0 : Int32)) v5) fun u1 =>
  if y0 ≤ v4 then (
    F_X2_mostTelling_136 k26 u1 v1 v2 v3 v4 v5
  ) else (
    F_X2_mostTelling_136 k26 u1 v1 v2 v5 y0 v5
  )
def F_X2_mostTelling_26  : Nat → Mem → Int32 → Int32 → Int32 → Int32 → Int32 → Option (Int32 × Mem)
  | 0, _, _, _, _, _, _ => none
  | n + 1, u, v1, v2, v3, v4, v5 =>
    if (u.1 4 1) ≤ v5 then (
      some (v3, u)
    ) else (
      gd v5 12 <|
      if (u.1 (28 + v5.toNatClampNeg) 3) = 0 then (
        gd v5 12 <|
        bdV (F_X2_weighOne (sI u (28 + v5.toNatClampNeg) 3 (1 : Int32)) v5) fun u10 =>
        gd v5 12 <|
        if (u10.1 9 v5.toNatClampNeg) = (u.1 9 v5.toNatClampNeg) then (
          F_X2_mostTelling_108 (F_X2_mostTelling_26 n) u10 v1 v2 v3 v4 v5 (28 + v5.toNatClampNeg) (0 : Int32)
        ) else (
          bdI (F_X2_fewestRings u10 v1) fun r16 u15 =>
          F_X2_mostTelling_108 (F_X2_mostTelling_26 n) u15 v1 v2 v3 v4 v5 (28 + v5.toNatClampNeg) (if 0 ≤ (r16 - v2) then (r16 - v2) else 0 - (r16 - v2))
        )
      ) else (
        F_X2_mostTelling_136 (F_X2_mostTelling_26 n) u v1 v2 v3 v4 v5
      )
    )
def F_X2_mostTelling  (u : Mem)  : Option (Int32 × Mem) :=
  bdI (F_X2_fewestRings u (((1 : Int32) <<< ((u.1 4 1) &&& 31)) - (1 : Int32))) fun r19 u18 =>
  F_X2_mostTelling_26 fu u18 (((1 : Int32) <<< ((u.1 4 1) &&& 31)) - (1 : Int32)) r19 (-1 : Int32) (0 : Int32) (0 : Int32)
def F_X6_tell  (u : Mem)  : Option (Int32 × Mem) :=
  bdV (F_X2_weigh u) fun u1 =>
  bdI (F_X2_mostTelling u1) fun r5 u4 =>
  bdI (F_X6_printOr u4 (-1000000004 : Int32) r5) fun r8 u7 =>
  some (r8, u7)
def F_X2_likeliestKind_68 (k24 : Mem → Int32 → Nat → Int32 → Int32 → Int32 → Int32 → Option (Int32 × Mem)) (u : Mem) (v1 : Int32) (v2 : Nat) (v3 : Int32) (v4 : Int32) (v5 : Int32) (v6 : Int32) : Option (Int32 × Mem) :=
  k24 u v1 v2 v3 v4 v5 (v6 + 1)
def F_X2_likeliestKind_24  : Nat → Mem → Int32 → Nat → Int32 → Int32 → Int32 → Int32 → Option (Int32 × Mem)
  | 0, _, _, _, _, _, _, _ => none
  | n + 1, u, v1, v2, v3, v4, v5, v6 =>
    if (6 : Int32) ≤ v6 then (
      some (v4, (sI u v2 0 v3))
    ) else (
      bdV (F_X2_weighOne (sI u v2 0 v6) v1) fun u2 =>
      gd v1 12 <|
      bdI (F_J6_bitCount_0f7a4 u2 (u2.1 9 v1.toNatClampNeg)) fun r7 u6 =>
      if r7 ≤ v5 then (
        F_X2_likeliestKind_68 (F_X2_likeliestKind_24 n) u6 v1 v2 v3 v4 v5 v6
      ) else (
        F_X2_likeliestKind_68 (F_X2_likeliestKind_24 n) u6 v1 v2 v3 v6 r7 v6
      )
    )
def F_X2_likeliestKind  (u : Mem) (x1 : Int32) : Option (Int32 × Mem) :=
  gd x1 12 <|
  F_X2_likeliestKind_24 fu u x1 (28 + x1.toNatClampNeg) (u.1 (28 + x1.toNatClampNeg) 0) (0 : Int32) (-1 : Int32) (0 : Int32)
def F_X6_kind  (u : Mem) (x1 : Int32) : Option (Int32 × Mem) :=
  bdI (F_X0_has 1 u x1) fun r2 u1 =>
  if r2 = 0 then (
    bdI (F_X6_found u1 (-1000000001 : Int32)) fun r12 u11 =>
    some (r12, u11)
  ) else (
    bdV (F_X2_weigh u1) fun u5 =>
    bdI (F_X2_likeliestKind u5 x1) fun r9 u8 =>
    some (r9, u8)
  )
def F_X2_howManyPairs_4  : Nat → Mem → Int32 → Int32 → Option (Int32 × Mem)
  | 0, _, _, _ => none
  | n + 1, u, v1, v2 =>
    if (u.1 4 1) ≤ v2 then (
      some ((v1 / (2 : Int32)), u)
    ) else (
      gd v2 12 <|
      bdI (F_J6_bitCount_0f7a4 u (u.1 9 v2.toNatClampNeg)) fun r4 u3 =>
      F_X2_howManyPairs_4 n u3 (v1 + r4) (v2 + 1)
    )
def F_X2_howManyPairs  (u : Mem)  : Option (Int32 × Mem) :=
  F_X2_howManyPairs_4 fu u (0 : Int32) (0 : Int32)
def F_X6_pairs  (u : Mem)  : Option (Int32 × Mem) :=
  bdV (F_X2_weigh u) fun u1 =>
  bdI (F_X2_howManyPairs u1) fun r5 u4 =>
  some (r5, u4)
def F_X4_take_29  (u : Mem)  : Option Mem :=
  some u
def F_X4_take  (u : Mem) (x1 : Int32) : Option Mem :=
  if (120 : Int32) ≤ (u.1 15 1) then (
    F_X4_take_29 u
  ) else (
    gd (u.1 15 1) 120 <|
    bdV (some (sI (sI u 16 (u.1 15 1).toNatClampNeg x1) 15 1 (((sI u 16 (u.1 15 1).toNatClampNeg x1).1 15 1) + (1 : Int32)))) fun u3 =>
    F_X4_take_29 u3
  )
def F_X6_feed_10  (u : Mem)  : Option (Int32 × Mem) :=
  bdI (F_X6_found u (-1000000001 : Int32)) fun r2 u1 =>
  some (r2, u1)
def F_X6_feed_42  : Nat → Mem → Int32 → Int32 → Option (Int32 × Mem)
  | 0, _, _, _ => none
  | n + 1, u, v1, v3 =>
    if v3 < 0 then (
      some ((u.1 15 1), u)
    ) else (
      bdV (F_X4_take u (((v1.toUInt32 >>> (((8 : Int32) * v3).toUInt32 &&& Int32.toUInt32 31)).toInt32) &&& (255 : Int32))) fun u5 =>
      F_X6_feed_42 n u5 v1 (v3 - 1)
    )
def F_X6_feed  (u : Mem) (x1 : Int32) (x2 : Int32) : Option (Int32 × Mem) :=
  if x2 < (1 : Int32) then (
    F_X6_feed_10 u
  ) else (
    if x2 ≤ (4 : Int32) then (
      if ((u.1 15 1) + x2) ≤ (120 : Int32) then (
        F_X6_feed_42 fu u x1 (x2 - (1 : Int32))
      ) else (
        bdI (F_X6_found u (-1000000002 : Int32)) fun r12 u11 =>
        some (r12, u11)
      )
    ) else (
      F_X6_feed_10 u
    )
  )
def F_X6_wipe  (u : Mem)  : Option (Int32 × Mem) :=
  some ((u.1 15 1), (sI u 15 1 (0 : Int32)))
def F_X1_become (x0 : Nat) (u : Mem) (x1 : Nat) : Option Mem :=
  bdV (some (sI (sI (sI u x0 0 (u.1 x1 0)) x0 1 ((sI u x0 0 (u.1 x1 0)).1 x1 1)) x0 2 ((sI (sI u x0 0 (u.1 x1 0)) x0 1 ((sI u x0 0 (u.1 x1 0)).1 x1 1)).1 x1 2))) fun u1 =>
  gz (u1.1 x1 3) <|
  some (sL (sI u1 x0 3 (u1.1 x1 3)) x0 4 ((sI u1 x0 3 (u1.1 x1 3)).2 x1 4))
def F_X0_become_18  : Nat → Mem → Nat → Nat → Int32 → Option Mem
  | 0, _, _, _, _ => none
  | n + 1, u, v0, v1, v2 =>
    if (u.1 (v0 + 3) 1) ≤ v2 then (
      some u
    ) else (
      gd v2 12 <|
      gd v2 12 <|
      bdV (F_X1_become (12 * v0 + 16 + v2.toNatClampNeg) u (12 * v1 + 16 + v2.toNatClampNeg)) fun u6 =>
      F_X0_become_18 n u6 v0 v1 (v2 + 1)
    )
def F_X0_become (x0 : Nat) (u : Mem) (x1 : Nat) : Option Mem :=
  bdV (some (sI (sI u (x0 + 3) 1 (u.1 (x1 + 3) 1)) (x0 + 3) 2 ((sI u (x0 + 3) 1 (u.1 (x1 + 3) 1)).1 (x1 + 3) 2))) fun u9 =>
  F_X0_become_18 fu u9 x0 x1 (0 : Int32)
def F_X4_at_22  (u : Mem) (y0 : Int32) : Option (Int32 × Mem) :=
  some (y0, u)
def F_X4_at_21  (u : Mem)  : Option (Int32 × Mem) :=
  F_X4_at_22 u (-1 : Int32)
def F_X4_at  (u : Mem) (x1 : Int32) : Option (Int32 × Mem) :=
  if x1 < 0 then (
    F_X4_at_21 u
  ) else (
    if (u.1 15 1) ≤ x1 then (
      F_X4_at_21 u
    ) else (
      gd x1 120 <|
      F_X4_at_22 u (u.1 16 x1.toNatClampNeg)
    )
  )
def F_X5_isLetter_17  (u : Mem) (y0 : Int32) : Option (Int32 × Mem) :=
  gz y0 <|
  some (y0, u)
def F_X5_isLetter_16  (u : Mem)  : Option (Int32 × Mem) :=
  F_X5_isLetter_17 u (0 : Int32)
def F_X5_isLetter  (u : Mem) (x0 : Int32) : Option (Int32 × Mem) :=
  if x0 < (97 : Int32) then (
    F_X5_isLetter_16 u
  ) else (
    if (122 : Int32) < x0 then (
      F_X5_isLetter_16 u
    ) else (
      F_X5_isLetter_17 u (1 : Int32)
    )
  )
def F_X5_stepOverLetters_44  (u : Mem)  : Option Mem :=
  some u
def F_X5_stepOverLetters_0  : Nat → Mem → Option Mem
  | 0, _ => none
  | n + 1, u =>
    if (u.1 15 1) ≤ (u.1 17 5) then (
      F_X5_stepOverLetters_44 u
    ) else (
      bdI (F_X4_at u (u.1 17 5)) fun r3 u2 =>
      bdI (F_X5_isLetter u2 r3) fun r6 u5 =>
      if r6 = 0 then (
        F_X5_stepOverLetters_44 u5
      ) else (
        F_X5_stepOverLetters_0 n (sI u5 17 5 ((u5.1 17 5) + (1 : Int32)))
      )
    )
def F_X5_stepOverLetters  (u : Mem)  : Option Mem :=
  F_X5_stepOverLetters_0 fu u
def F_X5_isDigit_17  (u : Mem) (y0 : Int32) : Option (Int32 × Mem) :=
  gz y0 <|
  some (y0, u)
def F_X5_isDigit_16  (u : Mem)  : Option (Int32 × Mem) :=
  F_X5_isDigit_17 u (0 : Int32)
def F_X5_isDigit  (u : Mem) (x0 : Int32) : Option (Int32 × Mem) :=
  if x0 < (48 : Int32) then (
    F_X5_isDigit_16 u
  ) else (
    if (57 : Int32) < x0 then (
      F_X5_isDigit_16 u
    ) else (
      F_X5_isDigit_17 u (1 : Int32)
    )
  )
def F_X5_stepOverDigits_76  (u : Mem)  : Option Mem :=
  some u
def F_X5_stepOverDigits_0  : Nat → Mem → Option Mem
  | 0, _ => none
  | n + 1, u =>
    if (u.1 15 1) ≤ (u.1 17 5) then (
      F_X5_stepOverDigits_76 u
    ) else (
      bdI (F_X4_at u (u.1 17 5)) fun r3 u2 =>
      bdI (F_X5_isDigit u2 r3) fun r6 u5 =>
      if r6 = 0 then (
        F_X5_stepOverDigits_76 u5
      ) else (
        bdI (F_X4_at u5 (u5.1 17 5)) fun r10 u9 =>
        bdV (some (sI u9 17 6 (if (10000 : Int32) < ((((10 : Int32) * (u5.1 17 6)) + r10) - (48 : Int32)) then (10000 : Int32) else ((((10 : Int32) * (u5.1 17 6)) + r10) - (48 : Int32))))) fun u12 =>
        F_X5_stepOverDigits_0 n (sI u12 17 5 ((u12.1 17 5) + (1 : Int32)))
      )
    )
def F_X5_stepOverDigits  (u : Mem)  : Option Mem :=
  F_X5_stepOverDigits_0 fu u
def F_X5_step_152  (u : Mem)  : Option Mem :=
  some u
def F_X5_step_139  (u : Mem) (y1 : Int32) : Option Mem :=
  F_X5_step_152 (sI (sI u 17 3 y1) 17 5 (((sI u 17 3 y1).1 17 5) + (1 : Int32)))
def F_X5_step_51  (u : Mem)  : Option Mem :=
  bdI (F_X4_at (sI (sI u 17 5 (u.1 17 4)) 17 6 (0 : Int32)) ((sI (sI u 17 5 (u.1 17 4)) 17 6 (0 : Int32)).1 17 4)) fun r2 u1 =>
  if r2 = (-1 : Int32) then (
    F_X5_step_152 (sI u1 17 3 (0 : Int32))
  ) else (
    bdI (F_X5_isLetter u1 r2) fun r6 u5 =>
    if r6 = 0 then (
      bdI (F_X5_isDigit u5 r2) fun r10 u9 =>
      if r10 = 0 then (
        if r2 = (59 : Int32) then (
          F_X5_step_139 u9 (3 : Int32)
        ) else (
          F_X5_step_139 u9 (4 : Int32)
        )
      ) else (
        bdV (F_X5_stepOverDigits (sI u9 17 3 (2 : Int32))) fun u14 =>
        F_X5_step_152 u14
      )
    ) else (
      bdV (F_X5_stepOverLetters (sI u5 17 3 (1 : Int32))) fun u17 =>
      F_X5_step_152 u17
    )
  )
def F_X5_step_8  : Nat → Mem → Option Mem
  | 0, _ => none
  | n + 1, u =>
    if (u.1 15 1) ≤ (u.1 17 4) then (
      F_X5_step_51 u
    ) else (
      bdI (F_X4_at u (u.1 17 4)) fun r22 u21 =>
      if r22 = (32 : Int32) then (
        F_X5_step_8 n (sI u21 17 4 ((u21.1 17 4) + (1 : Int32)))
      ) else (
        F_X5_step_51 u21
      )
    )
def F_X5_step  (u : Mem)  : Option Mem :=
  F_X5_step_8 fu (sI u 17 4 (u.1 17 5))
def F_X5_isWord_24  (u : Mem)  : Option (Int32 × Mem) :=
  some ((0 : Int32), u)
def F_X5_isWord_28  : Nat → Mem → Nat → Int32 → Option (Int32 × Mem)
  | 0, _, _, _ => none
  | n + 1, u, v1, v2 =>
    if (nI (len11.getD v1 0)) ≤ v2 then (
      some ((1 : Int32), u)
    ) else (
      bdI (F_X4_at u ((u.1 17 4) + v2)) fun r3 u2 =>
      gd v2 (len11.getD v1 0) <|
      if r3 = ((byt11.getD v1 []).getD v2.toNatClampNeg 0 &&& 255) then (
        F_X5_isWord_28 n u2 v1 (v2 + 1)
      ) else (
        some ((0 : Int32), u2)
      )
    )
def F_X5_isWord  (u : Mem) (x1 : Nat) : Option (Int32 × Mem) :=
  if (u.1 17 3) = (1 : Int32) then (
    if ((u.1 17 5) - (u.1 17 4)) = (nI (len11.getD x1 0)) then (
      F_X5_isWord_28 fu u x1 (0 : Int32)
    ) else (
      F_X5_isWord_24 u
    )
  ) else (
    F_X5_isWord_24 u
  )
def F_X5_isNumber_29  (u : Mem) (y0 : Int32) : Option (Int32 × Mem) :=
  gz y0 <|
  some (y0, u)
def F_X5_isNumber_28  (u : Mem)  : Option (Int32 × Mem) :=
  F_X5_isNumber_29 u (0 : Int32)
def F_X5_isNumber  (u : Mem) (x1 : Int32) (x2 : Int32) : Option (Int32 × Mem) :=
  if (u.1 17 3) = (2 : Int32) then (
    if (u.1 17 6) < x1 then (
      F_X5_isNumber_28 u
    ) else (
      if x2 < (u.1 17 6) then (
        F_X5_isNumber_28 u
      ) else (
        F_X5_isNumber_29 u (1 : Int32)
      )
    )
  ) else (
    F_X5_isNumber_28 u
  )
def F_X5_readSlack  (u : Mem)  : Option (Int32 × Mem) :=
  bdI (F_X5_isNumber u (0 : Int32) (999 : Int32)) fun r2 u1 =>
  if r2 = 0 then (
    some ((0 : Int32), u1)
  ) else (
    bdV (F_X5_step (sI u1 4 2 (u1.1 17 6))) fun u5 =>
    some ((1 : Int32), u5)
  )
def F_X5_readLook  (u : Mem)  : Option (Int32 × Mem) :=
  bdI (F_X5_isNumber u (0 : Int32) ((u.1 4 1) - (1 : Int32))) fun r2 u1 =>
  if r2 = 0 then (
    some ((0 : Int32), u1)
  ) else (
    gd (u1.1 17 6) 12 <|
    bdV (F_X5_step (sI u1 (28 + (u1.1 17 6).toNatClampNeg) 3 (1 : Int32))) fun u7 =>
    some ((1 : Int32), u7)
  )
def F_X5_kindNamed_69  (u : Mem) (y0 : Int32) : Option (Int32 × Mem) :=
  some (y0, u)
def F_X5_kindNamed  (u : Mem)  : Option (Int32 × Mem) :=
  bdI (F_X5_isWord u 2) fun r2 u1 =>
  if r2 = 0 then (
    bdI (F_X5_isWord u1 3) fun r6 u5 =>
    if r6 = 0 then (
      bdI (F_X5_isWord u5 4) fun r10 u9 =>
      if r10 = 0 then (
        bdI (F_X5_isWord u9 5) fun r14 u13 =>
        if r14 = 0 then (
          bdI (F_X5_isWord u13 6) fun r18 u17 =>
          if r18 = 0 then (
            bdI (F_X5_isWord u17 7) fun r22 u21 =>
            if r22 = 0 then (
              F_X5_kindNamed_69 u21 (-1 : Int32)
            ) else (
              F_X5_kindNamed_69 u21 (5 : Int32)
            )
          ) else (
            some ((4 : Int32), u17)
          )
        ) else (
          some ((3 : Int32), u13)
        )
      ) else (
        some ((2 : Int32), u9)
      )
    ) else (
      some ((1 : Int32), u5)
    )
  ) else (
    some ((0 : Int32), u1)
  )
def F_X5_readPrint_42  (u : Mem)  : Option (Int32 × Mem) :=
  some ((0 : Int32), u)
def F_X5_readPrint_163  (u : Mem)  : Option (Int32 × Mem) :=
  some ((1 : Int32), u)
def F_X5_readPrint_145  (u : Mem) (v1 : Nat) : Option (Int32 × Mem) :=
  bdI (F_X5_isWord u 10) fun r2 u1 =>
  if r2 = 0 then (
    F_X5_readPrint_163 u1
  ) else (
    bdV (F_X5_step (sI u1 v1 3 (1 : Int32))) fun u5 =>
    F_X5_readPrint_163 u5
  )
def F_X5_readPrint_107  (u : Mem) (v1 : Nat) : Option (Int32 × Mem) :=
  bdI (F_X5_isWord u 9) fun r9 u8 =>
  if r9 = 0 then (
    F_X5_readPrint_145 u8 v1
  ) else (
    bdV (F_X5_step u8) fun u12 =>
    bdI (F_X5_isNumber u12 (0 : Int32) (2000 : Int32)) fun r16 u15 =>
    if r16 = 0 then (
      some ((0 : Int32), u15)
    ) else (
      bdV (F_X5_step (sI u15 v1 2 (u15.1 17 6))) fun u19 =>
      F_X5_readPrint_145 u19 v1
    )
  )
def F_X5_readPrint_69  (u : Mem) (v1 : Nat) : Option (Int32 × Mem) :=
  bdI (F_X5_isWord u 8) fun r23 u22 =>
  if r23 = 0 then (
    F_X5_readPrint_107 u22 v1
  ) else (
    bdV (F_X5_step u22) fun u26 =>
    bdI (F_X5_isNumber u26 (1 : Int32) (9999 : Int32)) fun r30 u29 =>
    if r30 = 0 then (
      some ((0 : Int32), u29)
    ) else (
      bdV (F_X5_step (sI u29 v1 1 (u29.1 17 6))) fun u33 =>
      F_X5_readPrint_107 u33 v1
    )
  )
def F_X5_readPrint_2  : Nat → Mem → Nat → Int32 → Option (Int32 × Mem)
  | 0, _, _, _ => none
  | n + 1, u, v1, v2 =>
    if (8 : Int32) ≤ v2 then (
      F_X5_readPrint_69 u v1
    ) else (
      if (u.1 17 3) = (2 : Int32) then (
        bdI (F_X5_isNumber u (0 : Int32) (39 : Int32)) fun r39 u38 =>
        if r39 = 0 then (
          F_X5_readPrint_42 u38
        ) else (
          if (lg_cmp ((u38.2 v1 4) &&& ((1 : Int64) <<< ((u38.1 17 6).toInt64 &&& 63))) (0 : Int64)) = 0 then (
            bdV (some (sL u38 v1 4 ((u38.2 v1 4) ||| ((1 : Int64) <<< ((u38.1 17 6).toInt64 &&& 63))))) fun u43 =>
            bdV (F_X5_step u43) fun u45 =>
            F_X5_readPrint_2 n u45 v1 (v2 + 1)
          ) else (
            F_X5_readPrint_42 u38
          )
        )
      ) else (
        F_X5_readPrint_69 u v1
      )
    )
def F_X5_readPrint  (u : Mem) (x1 : Nat) : Option (Int32 × Mem) :=
  F_X5_readPrint_2 fu u x1 (0 : Int32)
def F_X5_readItem  (u : Mem)  : Option (Int32 × Mem) :=
  bdI (F_X5_isWord u 0) fun r2 u1 =>
  if r2 = 0 then (
    bdI (F_X5_isWord u1 1) fun r6 u5 =>
    if r6 = 0 then (
      bdI (F_X5_kindNamed u5) fun r10 u9 =>
      if r10 = (-1 : Int32) then (
        some ((0 : Int32), u9)
      ) else (
        bdI (F_X0_hang 1 u9 r10 (0 : Int64)) fun r14 u13 =>
        if r14 = (-1 : Int32) then (
          some ((0 : Int32), u13)
        ) else (
          bdV (F_X5_step u13) fun u17 =>
          gd r14 12 <|
          bdI (F_X5_readPrint u17 (28 + r14.toNatClampNeg)) fun r23 u22 =>
          gz r23 <|
          some (r23, u22)
        )
      )
    ) else (
      bdV (F_X5_step u5) fun u26 =>
      bdI (F_X5_readLook u26) fun r30 u29 =>
      gz r30 <|
      some (r30, u29)
    )
  ) else (
    bdV (F_X5_step u1) fun u33 =>
    bdI (F_X5_readSlack u33) fun r37 u36 =>
    gz r37 <|
    some (r37, u36)
  )
def F_X5_readArchive_65  (u : Mem)  : Option (Int32 × Mem) :=
  bdV (F_X0_become 1 u 3) fun u1 =>
  some (((-1 : Int32) - (u1.1 17 4)), u1)
def F_X5_readArchive_22  : Nat → Mem → Int32 → Option (Int32 × Mem)
  | 0, _, _ => none
  | n + 1, u, v1 =>
    if (120 : Int32) < v1 then (
      F_X5_readArchive_65 u
    ) else (
      bdI (F_X5_readItem u) fun r6 u5 =>
      if r6 = 0 then (
        F_X5_readArchive_65 u5
      ) else (
        if (u5.1 17 3) = 0 then (
          some ((v1 + 1), u5)
        ) else (
          if (u5.1 17 3) = (3 : Int32) then (
            bdV (F_X5_step u5) fun u11 =>
            F_X5_readArchive_22 n u11 (v1 + 1)
          ) else (
            F_X5_readArchive_65 u5
          )
        )
      )
    )
def F_X5_readArchive  (u : Mem)  : Option (Int32 × Mem) :=
  bdV (F_X0_become 3 u 1) fun u14 =>
  bdV (F_X5_step (sI u14 17 5 (0 : Int32))) fun u17 =>
  F_X5_readArchive_22 fu u17 (0 : Int32)
def F_X6_text  (u : Mem)  : Option (Int32 × Mem) :=
  bdI (F_X5_readArchive u) fun r2 u1 =>
  some (r2, (sI u1 15 1 (0 : Int32)))
def F_X6_isSheet_14  (u : Mem) (y0 : Int32) : Option (Int32 × Mem) :=
  gz y0 <|
  some (y0, u)
def F_X6_isSheet_13  (u : Mem)  : Option (Int32 × Mem) :=
  F_X6_isSheet_14 u (0 : Int32)
def F_X6_isSheet  (u : Mem) (x0 : Int32) : Option (Int32 × Mem) :=
  if x0 < 0 then (
    F_X6_isSheet_13 u
  ) else (
    if (4 : Int32) ≤ x0 then (
      F_X6_isSheet_13 u
    ) else (
      F_X6_isSheet_14 u (1 : Int32)
    )
  )
def F_X6_isBits_27  (u : Mem) (y0 : Int32) : Option (Int32 × Mem) :=
  gz y0 <|
  some (y0, u)
def F_X6_isBits_22  (u : Mem)  : Option (Int32 × Mem) :=
  F_X6_isBits_27 u (1 : Int32)
def F_X6_isBits  (u : Mem) (x0 : Int32) : Option (Int32 × Mem) :=
  if x0 = 0 then (
    F_X6_isBits_22 u
  ) else (
    if x0 = (8 : Int32) then (
      F_X6_isBits_22 u
    ) else (
      if x0 = (16 : Int32) then (
        F_X6_isBits_22 u
      ) else (
        if x0 = (64 : Int32) then (
          F_X6_isBits_22 u
        ) else (
          F_X6_isBits_27 u (0 : Int32)
        )
      )
    )
  )
def F_X3_lay_12  : Nat → Mem → Nat → Int32 → Option Mem
  | 0, _, _, _ => none
  | n + 1, u, v0, v3 =>
    if (40 : Int32) ≤ v3 then (
      some u
    ) else (
      gd v3 40 <|
      F_X3_lay_12 n (sL u (v0 + 23) v3.toNatClampNeg (0 : Int64)) v0 (v3 + 1)
    )
def F_X3_lay (x0 : Nat) (u : Mem) (x1 : Int32) (x2 : Int32) : Option Mem :=
  F_X3_lay_12 fu (sI (sI u (x0 + 19) 1 x1) (x0 + 19) 2 x2) x0 (0 : Int32)
def F_X6_sheet_14  (u : Mem)  : Option (Int32 × Mem) :=
  bdI (F_X6_found u (-1000000001 : Int32)) fun r2 u1 =>
  some (r2, u1)
def F_X6_sheet_54  (u : Mem) (v1 : Int32) (v2 : Int32) (y0 : Int32) : Option (Int32 × Mem) :=
  gd v1 4 <|
  bdV (F_X3_lay v1.toNatClampNeg u v2 y0) fun u5 =>
  some (y0, u5)
def F_X6_sheet  (u : Mem) (x1 : Int32) (x2 : Int32) (x3 : Int32) : Option (Int32 × Mem) :=
  bdI (F_X6_isSheet u x1) fun r9 u8 =>
  if r9 = 0 then (
    F_X6_sheet_14 u8
  ) else (
    bdI (F_X6_isBits u8 x2) fun r13 u12 =>
    if r13 = 0 then (
      F_X6_sheet_14 u12
    ) else (
      if 0 ≤ x3 then (
        if x3 ≤ (40 : Int32) then (
          if x2 = 0 then (
            F_X6_sheet_54 u12 x1 x2 (0 : Int32)
          ) else (
            F_X6_sheet_54 u12 x1 x2 x3
          )
        ) else (
          bdI (F_X6_found u12 (-1000000001 : Int32)) fun r20 u19 =>
          some (r20, u19)
        )
      ) else (
        bdI (F_X6_found u12 (-1000000007 : Int32)) fun r23 u22 =>
        some (r23, u22)
      )
    )
  )
def F_X3_isMissing_12  (u : Mem) (y0 : Int32) : Option (Int32 × Mem) :=
  gz y0 <|
  some (y0, u)
def F_X3_isMissing (x0 : Nat) (u : Mem)  : Option (Int32 × Mem) :=
  if (u.1 (x0 + 19) 1) = 0 then (
    F_X3_isMissing_12 u (1 : Int32)
  ) else (
    F_X3_isMissing_12 u (0 : Int32)
  )
def F_X3_lowest_31  (u : Mem) (y0 : Int64) : Option (Int64 × Mem) :=
  some (y0, u)
def F_X3_lowest (x0 : Nat) (u : Mem) (x1 : Int64) : Option (Int64 × Mem) :=
  if (u.1 (x0 + 19) 1) = (8 : Int32) then (
    some (x1.toInt32.toInt8.toInt32.toInt64, u)
  ) else (
    if (u.1 (x0 + 19) 1) = (16 : Int32) then (
      F_X3_lowest_31 u x1.toInt32.toInt16.toInt32.toInt64
    ) else (
      F_X3_lowest_31 u x1
    )
  )
def F_X3_put_23  (u : Mem)  : Option Mem :=
  some u
def F_X3_put (x0 : Nat) (u : Mem) (x1 : Int32) (x2 : Int64) : Option Mem :=
  if x1 < 0 then (
    F_X3_put_23 u
  ) else (
    if (u.1 (x0 + 19) 2) ≤ x1 then (
      F_X3_put_23 u
    ) else (
      bdL (F_X3_lowest x0 u x2) fun r4 u3 =>
      gd x1 40 <|
      F_X3_put_23 (sL u3 (x0 + 23) x1.toNatClampNeg r4)
    )
  )
def F_X6_write_52  (u : Mem)  : Option (Int64 × Mem) :=
  bdI (F_X6_found u (-1000000001 : Int32)) fun r2 u1 =>
  some (r2.toInt64, u1)
def F_X6_write  (u : Mem) (x1 : Int32) (x2 : Int32) (x3 : Int64) : Option (Int64 × Mem) :=
  bdI (F_X6_isSheet u x1) fun r5 u4 =>
  if r5 = 0 then (
    bdI (F_X6_found u4 (-1000000001 : Int32)) fun r23 u22 =>
    some (r23.toInt64, u22)
  ) else (
    gd x1 4 <|
    bdI (F_X3_isMissing x1.toNatClampNeg u4) fun r10 u9 =>
    if r10 = 0 then (
      if x2 < 0 then (
        F_X6_write_52 u9
      ) else (
        if x2 < (u9.1 (x1.toNatClampNeg + 19) 2) then (
          gd x2 40 <|
          bdV (F_X3_put x1.toNatClampNeg u9 x2 x3) fun u16 =>
          some ((u9.2 (x1.toNatClampNeg + 23) x2.toNatClampNeg), u16)
        ) else (
          F_X6_write_52 u9
        )
      )
    ) else (
      bdI (F_X6_found u9 (-1000000006 : Int32)) fun r20 u19 =>
      some (r20.toInt64, u19)
    )
  )
def F_X3_hasRun_31  (u : Mem) (y0 : Int32) : Option (Int32 × Mem) :=
  gz y0 <|
  some (y0, u)
def F_X3_hasRun_30  (u : Mem)  : Option (Int32 × Mem) :=
  F_X3_hasRun_31 u (0 : Int32)
def F_X3_hasRun (x0 : Nat) (u : Mem) (x1 : Int32) (x2 : Int32) : Option (Int32 × Mem) :=
  if x1 < 0 then (
    F_X3_hasRun_30 u
  ) else (
    if x2 < 0 then (
      F_X3_hasRun_30 u
    ) else (
      if (u.1 (x0 + 19) 2) < x1 then (
        F_X3_hasRun_30 u
      ) else (
        if ((u.1 (x0 + 19) 2) - x1) < x2 then (
          F_X3_hasRun_30 u
        ) else (
          F_X3_hasRun_31 u (1 : Int32)
        )
      )
    )
  )
def F_X6_copy_14  (u : Mem)  : Option (Int32 × Mem) :=
  bdI (F_X6_found u (-1000000001 : Int32)) fun r2 u1 =>
  some (r2, u1)
def F_X6_copy_53  (u : Mem)  : Option (Int32 × Mem) :=
  bdI (F_X6_found u (-1000000006 : Int32)) fun r5 u4 =>
  some (r5, u4)
def F_X6_copy_103  (u : Mem)  : Option (Int32 × Mem) :=
  bdI (F_X6_found u (-1000000001 : Int32)) fun r8 u7 =>
  some (r8, u7)
def F_X6_copy  (u : Mem) (x1 : Int32) (x2 : Int32) (x3 : Int32) (x4 : Int32) (x5 : Int32) : Option (Int32 × Mem) :=
  bdI (F_X6_isSheet u x1) fun r11 u10 =>
  if r11 = 0 then (
    F_X6_copy_14 u10
  ) else (
    bdI (F_X6_isSheet u10 x3) fun r15 u14 =>
    if r15 = 0 then (
      F_X6_copy_14 u14
    ) else (
      gd x1 4 <|
      gd x3 4 <|
      bdI (F_X3_isMissing x1.toNatClampNeg u14) fun r21 u20 =>
      if r21 = 0 then (
        bdI (F_X3_isMissing x3.toNatClampNeg u20) fun r25 u24 =>
        if r25 = 0 then (
          if (u24.1 (x1.toNatClampNeg + 19) 1) = (u24.1 (x3.toNatClampNeg + 19) 1) then (
            bdI (F_X3_hasRun x1.toNatClampNeg u24 x2 x5) fun r30 u29 =>
            if r30 = 0 then (
              F_X6_copy_103 u29
            ) else (
              bdI (F_X3_hasRun x3.toNatClampNeg u29 x4 x5) fun r34 u33 =>
              if r34 = 0 then (
                F_X6_copy_103 u33
              ) else (
                gc x2 x4 x5 <|
                some (x5, (cpL u33 (x1.toNatClampNeg + 23) (x3.toNatClampNeg + 23) x2 x4 x5))
              )
            )
          ) else (
            bdI (F_X6_found u24 (-1000000003 : Int32)) fun r39 u38 =>
            some (r39, u38)
          )
        ) else (
          F_X6_copy_53 u24
        )
      ) else (
        F_X6_copy_53 u20
      )
    )
  )
def F_X6_dates_111  (u : Mem) (v3 : Int32) : Option (Int32 × Mem) :=
  some (v3, u)
def F_X6_dates_105 (k40 : Mem → Nat → Int32 → Int32 → Option (Int32 × Mem)) (u : Mem) (v2 : Nat) (v3 : Int32) (v4 : Int32) : Option (Int32 × Mem) :=
  k40 u v2 v3 (v4 + 1)
def F_X6_dates_40  : Nat → Mem → Nat → Int32 → Int32 → Option (Int32 × Mem)
  | 0, _, _, _, _ => none
  | n + 1, u, v2, v3, v4 =>
    if (u.1 (v2 + 19) 2) ≤ v4 then (
      F_X6_dates_111 u v3
    ) else (
      if (u.1 4 1) ≤ v4 then (
        F_X6_dates_111 u v3
      ) else (
        gd v4 40 <|
        if (lg_cmp (u.2 (v2 + 23) v4.toNatClampNeg) (0 : Int64)) < 0 then (
          F_X6_dates_105 (F_X6_dates_40 n) u v2 v3 v4
        ) else (
          if 0 < (lg_cmp (u.2 (v2 + 23) v4.toNatClampNeg) (2000 : Int64)) then (
            F_X6_dates_105 (F_X6_dates_40 n) u v2 v3 v4
          ) else (
            gd v4 12 <|
            bdV (some (sI u (28 + v4.toNatClampNeg) 2 ((u.2 (v2 + 23) v4.toNatClampNeg).toInt32))) fun u8 =>
            F_X6_dates_105 (F_X6_dates_40 n) u8 v2 (v3 + 1) v4
          )
        )
      )
    )
def F_X6_dates  (u : Mem) (x1 : Int32) : Option (Int32 × Mem) :=
  bdI (F_X6_isSheet u x1) fun r11 u10 =>
  if r11 = 0 then (
    bdI (F_X6_found u10 (-1000000001 : Int32)) fun r23 u22 =>
    some (r23, u22)
  ) else (
    gd x1 4 <|
    bdI (F_X3_isMissing x1.toNatClampNeg u10) fun r16 u15 =>
    if r16 = 0 then (
      F_X6_dates_40 fu u15 x1.toNatClampNeg (0 : Int32) (0 : Int32)
    ) else (
      bdI (F_X6_found u15 (-1000000006 : Int32)) fun r20 u19 =>
      some (r20, u19)
    )
  )
def F_X6_show_53  : Nat → Mem → Nat → Int32 → Int32 → Option (Int32 × Mem)
  | 0, _, _, _, _ => none
  | n + 1, u, v2, v3, v4 =>
    if v3 ≤ v4 then (
      some (v3, u)
    ) else (
      gd v4 12 <|
      bdL (F_X1_shown (28 + v4.toNatClampNeg) u) fun r5 u4 =>
      bdV (F_X3_put v2 u4 v4 r5) fun u7 =>
      F_X6_show_53 n u7 v2 v3 (v4 + 1)
    )
def F_X6_show  (u : Mem) (x1 : Int32) : Option (Int32 × Mem) :=
  bdI (F_X6_isSheet u x1) fun r11 u10 =>
  if r11 = 0 then (
    bdI (F_X6_found u10 (-1000000001 : Int32)) fun r23 u22 =>
    some (r23, u22)
  ) else (
    gd x1 4 <|
    bdI (F_X3_isMissing x1.toNatClampNeg u10) fun r16 u15 =>
    if r16 = 0 then (
      F_X6_show_53 fu u15 x1.toNatClampNeg (if (u15.1 4 1) < (u15.1 (x1.toNatClampNeg + 19) 2) then (u15.1 4 1) else (u15.1 (x1.toNatClampNeg + 19) 2)) (0 : Int32)
    ) else (
      bdI (F_X6_found u15 (-1000000006 : Int32)) fun r20 u19 =>
      some (r20, u19)
    )
  )
def F_X0_canAllBe_29 (k2 : Mem → Nat → Int32 → Int32 → Int32 → Option (Int32 × Mem)) (u : Mem) (v0 : Nat) (v1 : Int32) (v2 : Int32) (v3 : Int32) : Option (Int32 × Mem) :=
  k2 u v0 v1 v2 (v3 + 1)
def F_X0_canAllBe_2  : Nat → Mem → Nat → Int32 → Int32 → Int32 → Option (Int32 × Mem)
  | 0, _, _, _, _, _ => none
  | n + 1, u, v0, v1, v2, v3 =>
    if (u.1 (v0 + 3) 1) ≤ v3 then (
      some ((1 : Int32), u)
    ) else (
      if (v1 &&& ((1 : Int32) <<< (v3 &&& 31))) = 0 then (
        F_X0_canAllBe_29 (F_X0_canAllBe_2 n) u v0 v1 v2 v3
      ) else (
        bdI (F_X0_canBe v0 u v3 v2) fun r4 u3 =>
        if r4 = 0 then (
          some ((0 : Int32), u3)
        ) else (
          F_X0_canAllBe_29 (F_X0_canAllBe_2 n) u3 v0 v1 v2 v3
        )
      )
    )
def F_X0_canAllBe (x0 : Nat) (u : Mem) (x1 : Int32) (x2 : Int32) : Option (Int32 × Mem) :=
  F_X0_canAllBe_2 fu u x0 x1 x2 (0 : Int32)
def F_X6_read_79  (u : Mem) (v4 : Int32) : Option (Int32 × Mem) :=
  some (((1 : Int32) + v4), u)
def F_X6_read_111  (u : Mem) (v4 : Int32) : Option (Int32 × Mem) :=
  some (((1 : Int32) + v4), u)
def F_X6_read_40  : Nat → Mem → Nat → Int32 → Int32 → Option (Int32 × Mem)
  | 0, _, _, _, _ => none
  | n + 1, u, v2, v3, v4 =>
    if (u.1 (v2 + 19) 2) ≤ v4 then (
      some ((0 : Int32), u)
    ) else (
      gd v4 40 <|
      if (lg_cmp (u.2 (v2 + 23) v4.toNatClampNeg) (0 : Int64)) < 0 then (
        F_X6_read_79 u v4
      ) else (
        if (lg_cmp (u.2 (v2 + 23) v4.toNatClampNeg) (u.1 4 1).toInt64) < 0 then (
          if (v3 &&& ((1 : Int32) <<< ((u.2 (v2 + 23) v4.toNatClampNeg).toInt32 &&& 31))) = 0 then (
            bdI (F_X0_canAllBe 1 u v3 ((u.2 (v2 + 23) v4.toNatClampNeg).toInt32)) fun r7 u6 =>
            if r7 = 0 then (
              F_X6_read_111 u6 v4
            ) else (
              F_X6_read_40 n u6 v2 (v3 ||| ((1 : Int32) <<< ((u.2 (v2 + 23) v4.toNatClampNeg).toInt32 &&& 31))) (v4 + 1)
            )
          ) else (
            F_X6_read_111 u v4
          )
        ) else (
          F_X6_read_79 u v4
        )
      )
    )
def F_X6_read  (u : Mem) (x1 : Int32) : Option (Int32 × Mem) :=
  bdI (F_X6_isSheet u x1) fun r11 u10 =>
  if r11 = 0 then (
    bdI (F_X6_found u10 (-1000000001 : Int32)) fun r23 u22 =>
    some (r23, u22)
  ) else (
    gd x1 4 <|
    bdI (F_X3_isMissing x1.toNatClampNeg u10) fun r16 u15 =>
    if r16 = 0 then (
      F_X6_read_40 fu u15 x1.toNatClampNeg (0 : Int32) (0 : Int32)
    ) else (
      bdI (F_X6_found u15 (-1000000006 : Int32)) fun r20 u19 =>
      some (r20, u19)
    )
  )
def F_X6_image  (u : Mem)  : Option (Int32 × Mem) :=
  bdV (F_X0_become 2 u 1) fun u1 =>
  some ((1 : Int32), (sI u1 0 7 (1 : Int32)))
def F_X6_undo  (u : Mem)  : Option (Int32 × Mem) :=
  if (u.1 0 7) = 0 then (
    bdI (F_X6_found u (-1000000004 : Int32)) fun r6 u5 =>
    some (r6, u5)
  ) else (
    bdV (F_X0_become 1 u 2) fun u2 =>
    some ((u2.1 4 1), u2)
  )
def F_X6_tear_12  (u : Mem) (y0 : Int32) : Option (Int32 × Mem) :=
  some (y0, (sI u 0 7 (0 : Int32)))
def F_X6_tear  (u : Mem)  : Option (Int32 × Mem) :=
  if (u.1 0 7) = 0 then (
    F_X6_tear_12 u (0 : Int32)
  ) else (
    F_X6_tear_12 u (1 : Int32)
  )
def F_X0_howManySeen_27 (k4 : Mem → Nat → Int32 → Int32 → Option (Int32 × Mem)) (u : Mem) (v0 : Nat) (v1 : Int32) (v2 : Int32) : Option (Int32 × Mem) :=
  k4 u v0 v1 (v2 + 1)
def F_X0_howManySeen_4  : Nat → Mem → Nat → Int32 → Int32 → Option (Int32 × Mem)
  | 0, _, _, _, _ => none
  | n + 1, u, v0, v1, v2 =>
    if (u.1 (v0 + 3) 1) ≤ v2 then (
      some (v1, u)
    ) else (
      gd v2 12 <|
      if (u.1 (12 * v0 + 16 + v2.toNatClampNeg) 3) = 0 then (
        F_X0_howManySeen_27 (F_X0_howManySeen_4 n) u v0 v1 v2
      ) else (
        F_X0_howManySeen_27 (F_X0_howManySeen_4 n) u v0 (v1 + 1) v2
      )
    )
def F_X0_howManySeen (x0 : Nat) (u : Mem)  : Option (Int32 × Mem) :=
  F_X0_howManySeen_4 fu u x0 (0 : Int32) (0 : Int32)
def F_X0_howManyMarks_4  : Nat → Mem → Nat → Int32 → Int32 → Option (Int32 × Mem)
  | 0, _, _, _, _ => none
  | n + 1, u, v0, v1, v2 =>
    if (u.1 (v0 + 3) 1) ≤ v2 then (
      some (v1, u)
    ) else (
      gd v2 12 <|
      bdI (F_J13_bitCount_95d88 u (u.2 (12 * v0 + 16 + v2.toNatClampNeg) 4)) fun r5 u4 =>
      F_X0_howManyMarks_4 n u4 v0 (v1 + r5) (v2 + 1)
    )
def F_X0_howManyMarks (x0 : Nat) (u : Mem)  : Option (Int32 × Mem) :=
  F_X0_howManyMarks_4 fu u x0 (0 : Int32) (0 : Int32)
def F_X6_count  (u : Mem) (x1 : Int32) : Option (Int32 × Mem) :=
  if x1 = 0 then (
    some ((u.1 4 1), u)
  ) else (
    if x1 = 1 then (
      bdI (F_X0_howManySeen 1 u) fun r4 u3 =>
      some (r4, u3)
    ) else (
      if x1 = 2 then (
        some ((u.1 15 1), u)
      ) else (
        if x1 = 3 then (
          some ((u.1 4 2), u)
        ) else (
          if x1 = 4 then (
            bdI (F_X0_howManyMarks 1 u) fun r10 u9 =>
            some (r10, u9)
          ) else (
            bdI (F_X6_found u (-1000000001 : Int32)) fun r13 u12 =>
            some (r13, u12)
  )))))
def F_X6_status_11  (u : Mem)  : Option (Int32 × Mem) :=
  bdI (F_X6_found u (-1000000001 : Int32)) fun r2 u1 =>
  some (r2, u1)
def F_X6_status_33  : Nat → Mem → Int32 → Int32 → Option (Int32 × Mem)
  | 0, _, _, _ => none
  | n + 1, u, v2, v3 =>
    if (7 : Int32) ≤ v3 then (
      some (v2, u)
    ) else (
      gd v3 7 <|
      F_X6_status_33 n u (v2 + (u.1 27 v3.toNatClampNeg)) (v3 + 1)
    )
def F_X6_status  (u : Mem) (x1 : Int32) : Option (Int32 × Mem) :=
  if x1 < (-1 : Int32) then (
    F_X6_status_11 u
  ) else (
    if x1 < (7 : Int32) then (
      if x1 < 0 then (
        F_X6_status_33 fu u (0 : Int32) (0 : Int32)
      ) else (
        gd x1 7 <|
        some ((u.1 27 x1.toNatClampNeg), u)
      )
    ) else (
      F_X6_status_11 u
    )
  )
