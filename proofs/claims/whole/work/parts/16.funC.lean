/-! the class: its methods as functions over the compressed world (decompiled by program out of the bytecode) -/
def f2_isRow (x0 : Int32) : Int32 :=
  if x0 < 0 then
    (0 : Int32)
  else
    if (8 : Int32) ≤ x0 then
      (0 : Int32)
    else
      (1 : Int32)
def f2_isLane (x0 : Int32) : Int32 :=
  if x0 < 0 then
    (0 : Int32)
  else
    if (2 : Int32) < x0 then
      (0 : Int32)
    else
      (1 : Int32)
def f6_found (x1 : Int32) (S : Zs) : Option (Int64 × Zs) :=
  lt_ (zI S 0 11 x1) fun S2 =>
  some ((-9000000000000000010 : Int64) - x1.toInt64, S2)
def f2_make_17 : Nat → Int32 → Int32 → Int32 → Zs → Option Zs
  | 0 => fun _ _ _ _ => none
  | n + 1 => fun x1 x3 x4 S =>
    if x3 ≤ x4 then
      some S
    else
      if inb x1 8 = true then
        if inb x4 40 = true then lt_ (zI S (3 + x1.toNatClampNeg) x4.toNatClampNeg (0 : Int32)) fun S32 =>
          lt_ (x4 + (1 : Int32)) fun v33 =>
          f2_make_17 n x1 x3 v33 S32
        else none
      else none
def f2_make (x1 : Int32) (x2 : Int32) (x3 : Int32) (S : Zs) : Option Zs :=
  if inb x1 8 = true then lt_ (zI S 11 x1.toNatClampNeg x2) fun S6 =>
    if inb x1 8 = true then lt_ (zI S6 12 x1.toNatClampNeg x3) fun S13 =>
      f2_make_17 fuel0 x1 x3 (0 : Int32) S13
    else none
  else none
def f6_fine (x1 : Int64) (S : Zs) : Option (Int64 × Zs) :=
  lt_ (zI S 0 11 (0 : Int32)) fun S2 =>
  some (x1, S2)
def f6_row (x1 : Int32) (x2 : Int32) (x3 : Int32) (S : Zs) : Option (Int64 × Zs) :=
  if f2_isRow x1 = 0 then
    some ((-9000000000000000001 : Int64), S)
  else
    if f2_isLane x2 = 0 then
      some ((-9000000000000000001 : Int64), S)
    else
      if x3 ≤ (40 : Int32) then
        if 0 ≤ x3 then
          bd1 (f2_make x1 x2 x3 S) fun S41 =>
          bd2 (f6_fine x3.toInt64 S41) fun r47 S47 =>
          some (r47, S47)
        else
          bd2 (f6_found (4 : Int32) S) fun r30 S30 =>
          some (r30, S30)
      else
        some ((-9000000000000000001 : Int64), S)
def f2_isMissing (S : Zs) (x1 : Int32) : Option Int32 :=
  if inb x1 8 = true then
    if S.1 12 x1.toNatClampNeg = (-1 : Int32) then
      some (1 : Int32)
    else
      some (0 : Int32)
  else none
def f2_has (S : Zs) (x1 : Int32) (x2 : Int32) (x3 : Int32) : Option Int32 :=
  if x2 < 0 then
    some (0 : Int32)
  else
    if x3 < 0 then
      some (0 : Int32)
    else
      if inb x1 8 = true then
        if S.1 12 x1.toNatClampNeg < x3 then
          some (0 : Int32)
        else
          if inb x1 8 = true then
            if (S.1 12 x1.toNatClampNeg) - x3 < x2 then
              some (0 : Int32)
            else
              some (1 : Int32)
          else none
      else none
def f2_put_33 (x1 : Int32) (x2 : Int32) (x4 : Int32) (S : Zs) : Option (Int32 × Zs) :=
  if inb x1 8 = true then
    if inb x2 40 = true then lt_ (zI S (3 + x1.toNatClampNeg) x2.toNatClampNeg x4) fun S42 =>
      some (x4, S42)
    else none
  else none
def f2_put (x1 : Int32) (x2 : Int32) (x3 : Int32) (S : Zs) : Option (Int32 × Zs) :=
  if inb x1 8 = true then
    if S.1 11 x1.toNatClampNeg = 0 then
      lt_ x3.toInt8.toInt32 fun v14 =>
      f2_put_33 x1 x2 v14 S
    else
      if inb x1 8 = true then
        if S.1 11 x1.toNatClampNeg = (1 : Int32) then
          lt_ x3.toInt16.toInt32 fun v31 =>
          f2_put_33 x1 x2 v31 S
        else
          f2_put_33 x1 x2 x3 S
      else none
  else none
def f6_set (x1 : Int32) (x2 : Int32) (x3 : Int32) (S : Zs) : Option (Int64 × Zs) :=
  if f2_isRow x1 = 0 then
    some ((-9000000000000000001 : Int64), S)
  else
    bd1 (f2_isMissing S x1) fun r16 =>
    if r16 = 0 then
      bd1 (f2_has S x1 x2 (1 : Int32)) fun r35 =>
      if r35 = 0 then
        bd2 (f6_found (2 : Int32) S) fun r43 S43 =>
        some (r43, S43)
      else
        bd2 (f2_put x1 x2 x3 S) fun r55 S55 =>
        bd2 (f6_fine r55.toInt64 S55) fun r59 S59 =>
        some (r59, S59)
    else
      bd2 (f6_found (1 : Int32) S) fun r24 S24 =>
      some (r24, S24)
def f2_sameLane (S : Zs) (x1 : Int32) (x2 : Int32) : Option Int32 :=
  if inb x1 8 = true then
    if inb x2 8 = true then
      if S.1 11 x1.toNatClampNeg = S.1 11 x2.toNatClampNeg then
        some (1 : Int32)
      else
        some (0 : Int32)
    else none
  else none
def f2_carry (x1 : Int32) (x2 : Int32) (x3 : Int32) (x4 : Int32) (x5 : Int32) (S : Zs) : Option Zs :=
  if inb x1 8 = true then
    if inb x3 8 = true then
      if cpok x2 x4 x5 40 40 = true then lt_ (zcI S (3 + x1.toNatClampNeg) x2.toNatClampNeg (3 + x3.toNatClampNeg) x4.toNatClampNeg x5.toNatClampNeg) fun S17 =>
        some S17
      else none
    else none
  else none
def f6_copy_40 (S : Zs) : Option (Int64 × Zs) :=
  bd2 (f6_found (1 : Int32) S) fun r42 S42 =>
  some (r42, S42)
def f6_copy_93 (S : Zs) : Option (Int64 × Zs) :=
  bd2 (f6_found (2 : Int32) S) fun r95 S95 =>
  some (r95, S95)
def f6_copy (x1 : Int32) (x2 : Int32) (x3 : Int32) (x4 : Int32) (x5 : Int32) (S : Zs) : Option (Int64 × Zs) :=
  if f2_isRow x1 = 0 then
    some ((-9000000000000000001 : Int64), S)
  else
    if f2_isRow x3 = 0 then
      some ((-9000000000000000001 : Int64), S)
    else
      bd1 (f2_isMissing S x1) fun r23 =>
      if r23 = 0 then
        bd1 (f2_isMissing S x3) fun r34 =>
        if r34 = 0 then
          bd1 (f2_sameLane S x1 x3) fun r52 =>
          if r52 = 0 then
            bd2 (f6_found (5 : Int32) S) fun r60 S60 =>
            some (r60, S60)
          else
            bd1 (f2_has S x1 x2 x5) fun r72 =>
            if r72 = 0 then
              f6_copy_93 S
            else
              bd1 (f2_has S x3 x4 x5) fun r87 =>
              if r87 = 0 then
                f6_copy_93 S
              else
                bd1 (f2_carry x1 x2 x3 x4 x5 S) fun S110 =>
                bd2 (f6_fine x5.toInt64 S110) fun r117 S117 =>
                some (r117, S117)
        else
          f6_copy_40 S
      else
        f6_copy_40 S
def f2_remove (x1 : Int32) (S : Zs) : Option (Int32 × Zs) :=
  if inb x1 8 = true then
    lt_ (S.1 12 x1.toNatClampNeg) fun v6 =>
    if inb x1 8 = true then lt_ (zI S 12 x1.toNatClampNeg (-1 : Int32)) fun S13 =>
      some (v6, S13)
    else none
  else none
def f6_drop (x1 : Int32) (S : Zs) : Option (Int64 × Zs) :=
  if f2_isRow x1 = 0 then
    some ((-9000000000000000001 : Int64), S)
  else
    bd1 (f2_isMissing S x1) fun r16 =>
    if r16 = 0 then
      bd2 (f2_remove x1 S) fun r34 S34 =>
      bd2 (f6_fine r34.toInt64 S34) fun r38 S38 =>
      some (r38, S38)
    else
      bd2 (f6_found (1 : Int32) S) fun r24 S24 =>
      some (r24, S24)
def f3_hasRoom (S : Zs) (x1 : Int32) : Int32 :=
  if (400 : Int32) < (S.1 13 1) + x1 then
    (0 : Int32)
  else
    (1 : Int32)
def f3_append_54 (S : Zs) : Option (Int32 × Zs) :=
  some (S.1 13 1, S)
def f3_append_5 : Nat → Int64 → Int32 → Zs → Option (Int32 × Zs)
  | 0 => fun _ _ _ => none
  | n + 1 => fun x1 x4 S =>
    if x4 < 0 then
      f3_append_54 S
    else
      if (400 : Int32) ≤ S.1 13 1 then
        f3_append_54 S
      else
        if inb (S.1 13 1) 400 = true then lt_ (zI S 14 (S.1 13 1).toNatClampNeg ((((x1.toUInt64 >>> (((8 : Int32) * x4).toInt64.toUInt64 &&& Int64.toUInt64 63)).toInt64).toInt32).toInt8.toInt32).toInt8.toInt32) fun S37 =>
          lt_ (zI S37 13 1 ((S37.1 13 1) + (1 : Int32))) fun S45 =>
          lt_ (x4 + (-1 : Int32)) fun v48 =>
          f3_append_5 n x1 v48 S45
        else none
def f3_append (x1 : Int64) (x3 : Int32) (S : Zs) : Option (Int32 × Zs) :=
  lt_ (x3 - (1 : Int32)) fun v3 =>
  f3_append_5 fuel0 x1 v3 S
def f6_feed (x1 : Int64) (x3 : Int32) (S : Zs) : Option (Int64 × Zs) :=
  if x3 < (1 : Int32) then
    some ((-9000000000000000001 : Int64), S)
  else
    if x3 ≤ (8 : Int32) then
      if f3_hasRoom S x3 = 0 then
        some ((-9000000000000000003 : Int64), S)
      else
        bd2 (f3_append x1 x3 S) fun r36 S36 =>
        some (r36.toInt64, S36)
    else
      some ((-9000000000000000001 : Int64), S)
def f3_isLetter (x0 : Int32) : Int32 :=
  if x0 < (97 : Int32) then
    (0 : Int32)
  else
    if (122 : Int32) < x0 then
      (0 : Int32)
    else
      (1 : Int32)
def f3_isWord_20 (q1 : Nat) (S : Zs) : Nat → Int32 → Option Int32
  | 0 => fun _ => none
  | n + 1 => fun x2 =>
    if (4 : Int32) ≤ x2 then
      some (1 : Int32)
    else
      if inb ((S.1 13 4) + x2) 400 = true then
        if inb x2 4 = true then
          if S.1 14 ((S.1 13 4) + x2).toNatClampNeg = fT_ch q1 x2 then
            lt_ (x2 + (1 : Int32)) fun v49 =>
            f3_isWord_20 q1 S n v49
          else
            some (0 : Int32)
        else none
      else none
def f3_isWord (q1 : Nat) (S : Zs) : Option Int32 :=
  if (S.1 13 5) - (S.1 13 4) = (4 : Int32) then
    f3_isWord_20 q1 S fuel0 (0 : Int32)
  else
    some (0 : Int32)
def f3_takeName_39 (S : Zs) : Option Zs :=
  lt_ (zI S 13 6 (5 : Int32)) fun S41 =>
  bd1 (f3_isWord 1000 S41) fun r47 =>
  if r47 = 0 then
    bd1 (f3_isWord 1001 S41) fun r64 =>
    if r64 = 0 then
      some S41
    else
      lt_ (zI S41 13 6 (2 : Int32)) fun S72 =>
      some S72
  else
    lt_ (zI S41 13 6 (1 : Int32)) fun S55 =>
    some S55
def f3_takeName_0 : Nat → Zs → Option Zs
  | 0 => fun _ => none
  | n + 1 => fun S =>
    if S.1 13 1 ≤ S.1 13 5 then
      f3_takeName_39 S
    else
      if inb (S.1 13 5) 400 = true then
        if f3_isLetter (S.1 14 (S.1 13 5).toNatClampNeg) = 0 then
          f3_takeName_39 S
        else
          lt_ (zI S 13 5 ((S.1 13 5) + (1 : Int32))) fun S33 =>
          f3_takeName_0 n S33
      else none
def f3_takeName (S : Zs) : Option Zs :=
  f3_takeName_0 fuel0 S
def f3_isFigure (x0 : Int32) : Int32 :=
  if x0 < (48 : Int32) then
    (0 : Int32)
  else
    if (57 : Int32) < x0 then
      (0 : Int32)
    else
      (1 : Int32)
def f3_takeNumber_100 (t0 : Int32) (S : Zs) : Option Zs :=
  lt_ (zI S 13 6 t0) fun S100 =>
  some S100
def f3_takeNumber_81 (S : Zs) : Option Zs :=
  if (2 : Int32) < (S.1 13 5) - (S.1 13 4) then
    f3_takeNumber_100 (5 : Int32) S
  else
    f3_takeNumber_100 (3 : Int32) S
def f3_takeNumber_68 (k5 : Zs → Option Zs) (S : Zs) : Option Zs :=
  lt_ (zI S 13 5 ((S.1 13 5) + (1 : Int32))) fun S75 =>
  k5 S75
def f3_takeNumber_5 : Nat → Zs → Option Zs
  | 0 => fun _ => none
  | n + 1 => fun S =>
    if S.1 13 1 ≤ S.1 13 5 then
      f3_takeNumber_81 S
    else
      if inb (S.1 13 5) 400 = true then
        if f3_isFigure (S.1 14 (S.1 13 5).toNatClampNeg) = 0 then
          f3_takeNumber_81 S
        else
          if (2 : Int32) ≤ (S.1 13 5) - (S.1 13 4) then
            f3_takeNumber_68 (f3_takeNumber_5 n) S
          else
            if inb (S.1 13 5) 400 = true then
              lt_ (zI S 13 7 (((S.1 13 7) * (10 : Int32)) + ((S.1 14 (S.1 13 5).toNatClampNeg) - (48 : Int32)))) fun S65 =>
              f3_takeNumber_68 (f3_takeNumber_5 n) S65
            else none
      else none
def f3_takeNumber (S : Zs) : Option Zs :=
  lt_ (zI S 13 7 (0 : Int32)) fun S2 =>
  f3_takeNumber_5 fuel0 S2
def f3_step_151 (t0 : Int32) (S : Zs) : Option Zs :=
  lt_ (zI S 13 6 t0) fun S151 =>
  lt_ (zI S151 13 5 ((S151.1 13 4) + (1 : Int32))) fun S161 =>
  some S161
def f3_step_60 (S : Zs) : Option Zs :=
  lt_ (zI S 13 5 (S.1 13 4)) fun S65 =>
  if S65.1 13 4 < S65.1 13 1 then
    if inb (S65.1 13 4) 400 = true then
      if f3_isLetter (S65.1 14 (S65.1 13 4).toNatClampNeg) = 0 then
        if inb (S65.1 13 4) 400 = true then
          if f3_isFigure (S65.1 14 (S65.1 13 4).toNatClampNeg) = 0 then
            if inb (S65.1 13 4) 400 = true then
              if S65.1 14 (S65.1 13 4).toNatClampNeg = (59 : Int32) then
                f3_step_151 (4 : Int32) S65
              else
                f3_step_151 (5 : Int32) S65
            else none
          else
            bd1 (f3_takeNumber S65) fun S125 =>
            some S125
        else none
      else
        bd1 (f3_takeName S65) fun S103 =>
        some S103
    else none
  else
    lt_ (zI S65 13 6 (0 : Int32)) fun S81 =>
    some S81
def f3_step_47 (k8 : Zs → Option Zs) (S : Zs) : Option Zs :=
  lt_ (zI S 13 4 ((S.1 13 4) + (1 : Int32))) fun S54 =>
  k8 S54
def f3_step_8 : Nat → Zs → Option Zs
  | 0 => fun _ => none
  | n + 1 => fun S =>
    if S.1 13 1 ≤ S.1 13 4 then
      f3_step_60 S
    else
      if inb (S.1 13 4) 400 = true then
        if S.1 14 (S.1 13 4).toNatClampNeg = (32 : Int32) then
          f3_step_47 (f3_step_8 n) S
        else
          if inb (S.1 13 4) 400 = true then
            if S.1 14 (S.1 13 4).toNatClampNeg = (10 : Int32) then
              f3_step_47 (f3_step_8 n) S
            else
              f3_step_60 S
          else none
      else none
def f3_step (S : Zs) : Option Zs :=
  lt_ (zI S 13 4 (S.1 13 5)) fun S5 =>
  f3_step_8 fuel0 S5
def f3_blame (x1 : Int32) (S : Zs) : Option (Int32 × Zs) :=
  lt_ (zI S 13 2 x1) fun S2 =>
  lt_ (zI S2 13 3 (S2.1 13 4)) fun S10 =>
  some ((0 : Int32), S10)
def f3_isNumberUpTo_30 (S : Zs) : Option (Int32 × Zs) :=
  bd2 (f3_blame (2 : Int32) S) fun r32 S32 =>
  if r32 = 0 then
    some ((0 : Int32), S32)
  else
    some ((1 : Int32), S32)
def f3_isNumberUpTo (x1 : Int32) (S : Zs) : Option (Int32 × Zs) :=
  if S.1 13 6 = (3 : Int32) then
    if S.1 13 7 < (1 : Int32) then
      f3_isNumberUpTo_30 S
    else
      if S.1 13 7 ≤ x1 then
        some ((1 : Int32), S)
      else
        f3_isNumberUpTo_30 S
  else
    bd2 (f3_blame (1 : Int32) S) fun r10 S10 =>
    some (r10, S10)
def f3_passSemicolon (S : Zs) : Option (Int32 × Zs) :=
  if S.1 13 6 = (4 : Int32) then
    bd1 (f3_step S) fun S15 =>
    some ((1 : Int32), S15)
  else
    bd2 (f3_blame (1 : Int32) S) fun r10 S10 =>
    some (r10, S10)
def f3_readGood (q1 : Nat) (S : Zs) : Option (Int32 × Zs) :=
  if S.1 13 6 = (1 : Int32) then
    if S.1 q1 1 < (6 : Int32) then
      bd1 (f3_step S) fun S30 =>
      bd2 (f3_isNumberUpTo (20 : Int32) S30) fun r36 S36 =>
      if r36 = 0 then
        some ((0 : Int32), S36)
      else
        if inb (S36.1 q1 1) 6 = true then lt_ (zI S36 (q1 + 1) (S36.1 q1 1).toNatClampNeg (S36.1 13 7)) fun S56 =>
          lt_ (zI S56 q1 1 ((S56.1 q1 1) + (1 : Int32))) fun S64 =>
          bd1 (f3_step S64) fun S68 =>
          bd2 (f3_passSemicolon S68) fun r72 S72 =>
          some (r72, S72)
        else none
    else
      bd2 (f3_blame (3 : Int32) S) fun r25 S25 =>
      some (r25, S25)
  else
    bd2 (f3_blame (1 : Int32) S) fun r10 S10 =>
    some (r10, S10)
def f3_readLand_62 (q1 : Nat) : Nat → Int32 → Zs → Option (Int32 × Zs)
  | 0 => fun _ _ => none
  | n + 1 => fun x2 S =>
    if S.1 q1 1 ≤ x2 then
      lt_ (zI S q1 0 ((S.1 q1 0) + (1 : Int32))) fun S113 =>
      bd2 (f3_passSemicolon S113) fun r117 S117 =>
      some (r117, S117)
    else
      bd2 (f3_isNumberUpTo (20 : Int32) S) fun r73 S73 =>
      if r73 = 0 then
        some ((0 : Int32), S73)
      else
        if inb (S73.1 q1 0) 3 = true then
          if inb x2 6 = true then lt_ (zI S73 (q1 + 4 + (S73.1 q1 0).toNatClampNeg) x2.toNatClampNeg (S73.1 13 7)) fun S95 =>
            bd1 (f3_step S95) fun S97 =>
            lt_ (x2 + (1 : Int32)) fun v100 =>
            f3_readLand_62 q1 n v100 S97
          else none
        else none
def f3_readLand (q1 : Nat) (S : Zs) : Option (Int32 × Zs) :=
  if S.1 13 6 = (2 : Int32) then
    if S.1 q1 0 < (3 : Int32) then
      bd1 (f3_step S) fun S29 =>
      bd2 (f3_isNumberUpTo (99 : Int32) S29) fun r35 S35 =>
      if r35 = 0 then
        some ((0 : Int32), S35)
      else
        if inb (S35.1 q1 0) 3 = true then lt_ (zI S35 (q1 + 2) (S35.1 q1 0).toNatClampNeg (S35.1 13 7)) fun S55 =>
          bd1 (f3_step S55) fun S57 =>
          f3_readLand_62 q1 fuel0 (0 : Int32) S57
        else none
    else
      bd2 (f3_blame (3 : Int32) S) fun r24 S24 =>
      some (r24, S24)
  else
    bd2 (f3_blame (1 : Int32) S) fun r10 S10 =>
    some (r10, S10)
def f3_readInto_106 (q1 : Nat) (x2 : Int32) (S : Zs) : Option (Int32 × Zs) :=
  if x2 = 0 then
    some ((0 : Int32), S)
  else
    if S.1 13 6 = 0 then
      some ((1 : Int32), S)
    else
      bd2 (f3_blame (1 : Int32) S) fun r119 S119 =>
      if r119 = 0 then
        some ((0 : Int32), S119)
      else
        some ((1 : Int32), S119)
def f3_readInto_77 (q1 : Nat) : Nat → Int32 → Int32 → Zs → Option (Int32 × Zs)
  | 0 => fun _ _ _ => none
  | n + 1 => fun x2 x3 S =>
    if (3 : Int32) ≤ x3 then
      f3_readInto_106 q1 x2 S
    else
      if x2 = 0 then
        f3_readInto_106 q1 x2 S
      else
        if S.1 13 6 = (2 : Int32) then
          bd2 (f3_readLand q1 S) fun r96 S96 =>
          lt_ (x3 + (1 : Int32)) fun v100 =>
          f3_readInto_77 q1 n r96 v100 S96
        else
          f3_readInto_106 q1 x2 S
def f3_readInto_74 (q1 : Nat) (t0 : Int32) (S : Zs) : Option (Int32 × Zs) :=
  f3_readInto_77 q1 fuel0 t0 (0 : Int32) S
def f3_readInto_73 (q1 : Nat) (S : Zs) : Option (Int32 × Zs) :=
  f3_readInto_74 q1 (0 : Int32) S
def f3_readInto_57 (q1 : Nat) (x2 : Int32) (S : Zs) : Option (Int32 × Zs) :=
  if x2 = 0 then
    f3_readInto_73 q1 S
  else
    bd2 (f3_readLand q1 S) fun r63 S63 =>
    if r63 = 0 then
      f3_readInto_73 q1 S63
    else
      f3_readInto_74 q1 (1 : Int32) S63
def f3_readInto_27 (q1 : Nat) : Nat → Int32 → Int32 → Zs → Option (Int32 × Zs)
  | 0 => fun _ _ _ => none
  | n + 1 => fun x2 x3 S =>
    if (6 : Int32) ≤ x3 then
      f3_readInto_57 q1 x2 S
    else
      if x2 = 0 then
        f3_readInto_57 q1 x2 S
      else
        if S.1 13 6 = (1 : Int32) then
          bd2 (f3_readGood q1 S) fun r47 S47 =>
          lt_ (x3 + (1 : Int32)) fun v51 =>
          f3_readInto_27 q1 n r47 v51 S47
        else
          f3_readInto_57 q1 x2 S
def f3_readInto (q1 : Nat) (S : Zs) : Option (Int32 × Zs) :=
  lt_ (zI S q1 1 (0 : Int32)) fun S2 =>
  lt_ (zI S2 q1 0 (0 : Int32)) fun S7 =>
  lt_ (zI S7 13 5 (0 : Int32)) fun S12 =>
  bd1 (f3_step S12) fun S16 =>
  bd2 (f3_readGood q1 S16) fun r21 S21 =>
  f3_readInto_27 q1 fuel0 r21 (0 : Int32) S21
def f3_empty (S : Zs) : Option Zs :=
  lt_ (zI S 13 1 (0 : Int32)) fun S2 =>
  some S2
def f0_layTwo_33 (o q1 : Nat) : Nat → Int32 → Int32 → Int32 → Zs → Option Zs
  | 0 => fun _ _ _ _ => none
  | n + 1 => fun x2 x3 x4 S =>
    if S.1 o 0 ≤ x4 then
      some S
    else
      if inb x4 6 = true then
        if inb x4 6 = true then lt_ (zI S (o + 1) x4.toNatClampNeg (S.1 (q1 + 1) x4.toNatClampNeg)) fun S55 =>
          if inb x2 3 = true then
            if inb x4 6 = true then
              if inb x4 6 = true then lt_ (zL S55 (o + 2) x4.toNatClampNeg ((S55.1 (q1 + 4 + x2.toNatClampNeg) x4.toNatClampNeg).toInt64)) fun S72 =>
                if inb x3 3 = true then
                  if inb x4 6 = true then
                    if inb x4 6 = true then lt_ (zL S72 (o + 3) x4.toNatClampNeg ((S72.1 (q1 + 4 + x3.toNatClampNeg) x4.toNatClampNeg).toInt64)) fun S89 =>
                      lt_ (x4 + (1 : Int32)) fun v90 =>
                      f0_layTwo_33 o q1 n x2 x3 v90 S89
                    else none
                  else none
                else none
              else none
            else none
          else none
        else none
      else none
def f0_layTwo (o q1 : Nat) (x2 : Int32) (x3 : Int32) (S : Zs) : Option Zs :=
  lt_ (zI S o 0 (S.1 q1 1)) fun S5 =>
  if inb x2 3 = true then
    lt_ (zL S5 o 5 ((S5.1 (q1 + 2) x2.toNatClampNeg).toInt64)) fun S16 =>
    if inb x3 3 = true then
      lt_ (zL S16 o 6 ((S16.1 (q1 + 2) x3.toNatClampNeg).toInt64)) fun S27 =>
      f0_layTwo_33 o q1 fuel0 x2 x3 (0 : Int32) S27
    else none
  else none
def f0_sort_80 (o : Nat) (k2 : Int32 → Zs → Option Zs) (x1 : Int32) (x2 : Int32) (S : Zs) : Option Zs :=
  if inb x2 6 = true then lt_ (zI S (o + 4) x2.toNatClampNeg x1) fun S86 =>
    lt_ (x1 + (1 : Int32)) fun v87 =>
    k2 v87 S86
  else none
def f0_sort_12 (o : Nat) (k2 : Int32 → Zs → Option Zs) : Nat → Int32 → Int32 → Zs → Option Zs
  | 0 => fun _ _ _ => none
  | n + 1 => fun x1 x2 S =>
    if x2 ≤ 0 then
      f0_sort_80 o k2 x1 x2 S
    else
      if inb (x2 - (1 : Int32)) 6 = true then
        if inb (S.1 (o + 4) (x2 - (1 : Int32)).toNatClampNeg) 6 = true then
          if inb x1 6 = true then
            if inb x1 6 = true then
              if inb (x2 - (1 : Int32)) 6 = true then
                if inb (S.1 (o + 4) (x2 - (1 : Int32)).toNatClampNeg) 6 = true then
                  if (S.2 (o + 2) (S.1 (o + 4) (x2 - (1 : Int32)).toNatClampNeg).toNatClampNeg) * (S.2 (o + 3) x1.toNatClampNeg) ≤ (S.2 (o + 2) x1.toNatClampNeg) * (S.2 (o + 3) (S.1 (o + 4) (x2 - (1 : Int32)).toNatClampNeg).toNatClampNeg) then
                    f0_sort_80 o k2 x1 x2 S
                  else
                    if inb (x2 - (1 : Int32)) 6 = true then
                      if inb x2 6 = true then lt_ (zI S (o + 4) x2.toNatClampNeg (S.1 (o + 4) (x2 - (1 : Int32)).toNatClampNeg)) fun S73 =>
                        lt_ (x2 + (-1 : Int32)) fun v74 =>
                        f0_sort_12 o k2 n x1 v74 S73
                      else none
                    else none
                else none
              else none
            else none
          else none
        else none
      else none
def f0_sort_2 (o : Nat) : Nat → Int32 → Zs → Option Zs
  | 0 => fun _ _ => none
  | n + 1 => fun x1 S =>
    if S.1 o 0 ≤ x1 then
      some S
    else
      f0_sort_12 o (f0_sort_2 o n) fuel0 x1 x1 S
def f0_sort (o : Nat) (S : Zs) : Option Zs :=
  f0_sort_2 o fuel0 (0 : Int32) S
def f0_allShares_4 (o : Nat) (S : Zs) : Nat → Int64 → Int32 → Option Int64
  | 0 => fun _ _ => none
  | n + 1 => fun x1 x3 =>
    if S.1 o 0 ≤ x3 then
      some x1
    else
      if inb x3 6 = true then
        lt_ (x1 + ((S.1 (o + 1) x3.toNatClampNeg).toInt64)) fun v21 =>
        lt_ (x3 + (1 : Int32)) fun v22 =>
        f0_allShares_4 o S n v21 v22
      else none
def f0_allShares (o : Nat) (S : Zs) : Option Int64 :=
  f0_allShares_4 o S fuel0 (0 : Int64) (0 : Int32)
def f0_settleTwo_135 (o : Nat) (x1 : Int64) (x3 : Int64) (S : Zs) : Option Zs :=
  lt_ (zL S o 7 (x3 * (S.2 o 6))) fun S142 =>
  lt_ (zL S142 o 8 ((x1 - x3) * (S142.2 o 5))) fun S154 =>
  some S154
def f0_settleTwo_10 (o : Nat) : Nat → Int64 → Int64 → Int32 → Zs → Option Zs
  | 0 => fun _ _ _ _ => none
  | n + 1 => fun x1 x3 x5 S =>
    if S.1 o 0 ≤ x5 then
      f0_settleTwo_135 o x1 x3 S
    else
      if inb x5 6 = true then
        lt_ (S.1 (o + 4) x5.toNatClampNeg) fun v26 =>
        if inb v26 6 = true then
          lt_ ((S.2 o 5) * (S.2 (o + 3) v26.toNatClampNeg)) fun v40 =>
          if inb v26 6 = true then
            lt_ (v40 + ((S.2 o 6) * (S.2 (o + 2) v26.toNatClampNeg))) fun v57 =>
            if x3 * v57 ≤ v40 * x1 then
              if inb v26 6 = true then
                if (x3 + ((S.1 (o + 1) v26.toNatClampNeg).toInt64)) * v57 < v40 * x1 then
                  if inb v26 6 = true then
                    lt_ (x3 + ((S.1 (o + 1) v26.toNatClampNeg).toInt64)) fun v128 =>
                    lt_ (x5 + (1 : Int32)) fun v129 =>
                    f0_settleTwo_10 o n x1 v128 v129 S
                  else none
                else
                  if inb v26 6 = true then
                    lt_ (zL S o 7 (S.2 (o + 3) v26.toNatClampNeg)) fun S103 =>
                    if inb v26 6 = true then
                      lt_ (zL S103 o 8 (S103.2 (o + 2) v26.toNatClampNeg)) fun S114 =>
                      some S114
                    else none
                  else none
              else none
            else
              f0_settleTwo_135 o x1 x3 S
          else none
        else none
      else none
def f0_settleTwo (o : Nat) (S : Zs) : Option Zs :=
  bd1 (f0_allShares o S) fun r1 =>
  f0_settleTwo_10 o fuel0 r1 (0 : Int64) (0 : Int32) S
def f1_clearWins_9 (k2 : Int32 → Zs → Option Zs) : Nat → Int32 → Int32 → Zs → Option Zs
  | 0 => fun _ _ _ => none
  | n + 1 => fun x1 x2 S =>
    if (6 : Int32) ≤ x2 then
      lt_ (x1 + (1 : Int32)) fun v30 =>
      k2 v30 S
    else
      if inb x1 3 = true then
        if inb x2 6 = true then lt_ (zI S (29 + x1.toNatClampNeg) x2.toNatClampNeg (0 : Int32)) fun S23 =>
          lt_ (x2 + (1 : Int32)) fun v24 =>
          f1_clearWins_9 k2 n x1 v24 S23
        else none
      else none
def f1_clearWins_2 : Nat → Int32 → Zs → Option Zs
  | 0 => fun _ _ => none
  | n + 1 => fun x1 S =>
    if (3 : Int32) ≤ x1 then
      some S
    else
      f1_clearWins_9 (f1_clearWins_2 n) fuel0 x1 (0 : Int32) S
def f1_clearWins (S : Zs) : Option Zs :=
  f1_clearWins_2 fuel0 (0 : Int32) S
def f0_layTied_48 (o q1 : Nat) : Nat → Int32 → Int64 → Int32 → Int64 → Int32 → Int32 → Zs → Option Zs
  | 0 => fun _ _ _ _ _ _ _ => none
  | n + 1 => fun x2 x3 x5 x6 x8 x9 S =>
    if S.1 o 0 ≤ x9 then
      some S
    else
      if inb x9 6 = true then
        if inb x9 6 = true then lt_ (zI S (o + 1) x9.toNatClampNeg (S.1 (q1 + 1) x9.toNatClampNeg)) fun S70 =>
          if inb x2 3 = true then
            if inb x9 6 = true then
              if inb x5 3 = true then
                if inb x9 6 = true then
                  if inb x9 6 = true then lt_ (zL S70 (o + 2) x9.toNatClampNeg (if ((S70.1 (q1 + 4 + x5.toNatClampNeg) x9.toNatClampNeg).toInt64) * x6 < ((S70.1 (q1 + 4 + x2.toNatClampNeg) x9.toNatClampNeg).toInt64) * x3 then ((S70.1 (q1 + 4 + x5.toNatClampNeg) x9.toNatClampNeg).toInt64) * x6 else ((S70.1 (q1 + 4 + x2.toNatClampNeg) x9.toNatClampNeg).toInt64) * x3)) fun S106 =>
                    if inb x8 3 = true then
                      if inb x9 6 = true then
                        if inb x9 6 = true then lt_ (zL S106 (o + 3) x9.toNatClampNeg ((S106.1 (q1 + 4 + x8.toNatClampNeg) x9.toNatClampNeg).toInt64)) fun S124 =>
                          lt_ (x9 + (1 : Int32)) fun v125 =>
                          f0_layTied_48 o q1 n x2 x3 x5 x6 x8 v125 S124
                        else none
                      else none
                    else none
                  else none
                else none
              else none
            else none
          else none
        else none
      else none
def f0_layTied (o q1 : Nat) (x2 : Int32) (x3 : Int64) (x5 : Int32) (x6 : Int64) (x8 : Int32) (S : Zs) : Option Zs :=
  lt_ (zI S o 0 (S.1 q1 1)) fun S5 =>
  if inb x2 3 = true then
    if inb x5 3 = true then
      lt_ (zL S5 o 5 ((((S5.1 (q1 + 2) x2.toNatClampNeg).toInt64) * x3) + (((S5.1 (q1 + 2) x5.toNatClampNeg).toInt64) * x6))) fun S30 =>
      if inb x8 3 = true then
        lt_ (zL S30 o 6 ((S30.1 (q1 + 2) x8.toNatClampNeg).toInt64)) fun S42 =>
        f0_layTied_48 o q1 fuel0 x2 x3 x5 x6 x8 (0 : Int32) S42
      else none
    else none
  else none
def f1_tie (q1 : Nat) (x2 : Int32) (x3 : Int32) (x4 : Int32) (S : Zs) : Option Zs :=
  lt_ (((3 : Int32) - x2) - x3) fun v5 =>
  if inb x3 3 = true then
    if inb x4 6 = true then
      lt_ ((S.1 (q1 + 4 + x3.toNatClampNeg) x4.toNatClampNeg).toInt64) fun v17 =>
      if inb x2 3 = true then
        if inb x4 6 = true then
          lt_ ((S.1 (q1 + 4 + x2.toNatClampNeg) x4.toNatClampNeg).toInt64) fun v29 =>
          bd1 (f0_layTied 23 q1 x2 v17 x3 v29 v5 S) fun S44 =>
          bd1 (f0_sort 23 S44) fun S51 =>
          bd1 (f0_settleTwo 23 S51) fun S58 =>
          if inb x2 3 = true then lt_ (zL S58 (q1 + 7) x2.toNatClampNeg (v17 * (S58.2 23 7))) fun S76 =>
            if inb x3 3 = true then lt_ (zL S76 (q1 + 7) x3.toNatClampNeg (v29 * (S76.2 23 7))) fun S92 =>
              if inb v5 3 = true then lt_ (zL S92 (q1 + 7) v5.toNatClampNeg (S92.2 23 8)) fun S106 =>
                some S106
              else none
            else none
          else none
        else none
      else none
    else none
  else none
def f5_cost (o q1 : Nat) (S : Zs) (x2 : Int32) (x3 : Int32) : Option Int64 :=
  if inb x2 3 = true then
    if inb x2 3 = true then
      if inb x3 6 = true then
        some ((S.2 q1 x2.toNatClampNeg) * ((S.1 (o + 4 + x2.toNatClampNeg) x3.toNatClampNeg).toInt64))
      else none
    else none
  else none
def f5_makersBy_62 (o q1 : Nat) (S : Zs) (k14 : Int32 → Int64 → Int32 → Int32 → Option Int32) (x2 : Int32) (x3 : Int64) (x5 : Int32) (x6 : Int32) : Option Int32 :=
  lt_ (x6 + (1 : Int32)) fun v62 =>
  k14 x2 x3 x5 v62
def f5_makersBy_46 (o q1 : Nat) (S : Zs) (k14 : Int32 → Int64 → Int32 → Int32 → Option Int32) (x2 : Int32) (x3 : Int64) (x5 : Int32) (x6 : Int32) (x7 : Int64) : Option Int32 :=
  if x7 = x3 then
    lt_ (x5 ||| ((1 : Int32) <<< (x6 &&& 31))) fun v60 =>
    f5_makersBy_62 o q1 S k14 x2 x3 v60 x6
  else
    f5_makersBy_62 o q1 S k14 x2 x3 x5 x6
def f5_makersBy_14 (o q1 : Nat) (S : Zs) : Nat → Int32 → Int64 → Int32 → Int32 → Option Int32
  | 0 => fun _ _ _ _ => none
  | n + 1 => fun x2 x3 x5 x6 =>
    if S.1 o 0 ≤ x6 then
      some x5
    else
      bd1 (f5_cost o q1 S x6 x2) fun r28 =>
      if x3 ≤ r28 then
        f5_makersBy_46 o q1 S (f5_makersBy_14 o q1 S n) x2 x3 x5 x6 r28
      else
        f5_makersBy_46 o q1 S (f5_makersBy_14 o q1 S n) x2 r28 (0 : Int32) x6 r28
def f5_makersBy (o q1 : Nat) (S : Zs) (x2 : Int32) : Option Int32 :=
  bd1 (f5_cost o q1 S (0 : Int32) x2) fun r4 =>
  f5_makersBy_14 o q1 S fuel0 x2 r4 (1 : Int32) (1 : Int32)
def f5_allShares_4 (o : Nat) (S : Zs) : Nat → Int32 → Int32 → Option Int32
  | 0 => fun _ _ => none
  | n + 1 => fun x1 x2 =>
    if S.1 o 1 ≤ x2 then
      some x1
    else
      if inb x2 6 = true then
        lt_ (x1 + (S.1 (o + 1) x2.toNatClampNeg)) fun v20 =>
        lt_ (x2 + (1 : Int32)) fun v21 =>
        f5_allShares_4 o S n v20 v21
      else none
def f5_allShares (o : Nat) (S : Zs) : Option Int32 :=
  f5_allShares_4 o S fuel0 (0 : Int32) (0 : Int32)
def f5_allLands (o : Nat) (S : Zs) : Int32 :=
  ((1 : Int32) <<< ((S.1 o 0) &&& 31)) - (1 : Int32)
def f5_incomeOf_39 (o q1 : Nat) (S : Zs) (k5 : Int32 → Int64 → Int32 → Option Int64) (x2 : Int32) (x3 : Int64) (x5 : Int32) : Option Int64 :=
  lt_ (x5 + (1 : Int32)) fun v39 =>
  k5 x2 x3 v39
def f5_incomeOf_5 (o q1 : Nat) (S : Zs) : Nat → Int32 → Int64 → Int32 → Option Int64
  | 0 => fun _ _ _ => none
  | n + 1 => fun x2 x3 x5 =>
    if S.1 o 0 ≤ x5 then
      some x3
    else
      if (x2 >>> (x5 &&& 31)) &&& (1 : Int32) = 0 then
        f5_incomeOf_39 o q1 S (f5_incomeOf_5 o q1 S n) x2 x3 x5
      else
        if inb x5 3 = true then
          if inb x5 3 = true then
            lt_ (x3 + (((S.1 (o + 2) x5.toNatClampNeg).toInt64) * (S.2 q1 x5.toNatClampNeg))) fun v38 =>
            f5_incomeOf_39 o q1 S (f5_incomeOf_5 o q1 S n) x2 v38 x5
          else none
        else none
def f5_incomeOf (o q1 : Nat) (S : Zs) (x2 : Int32) : Option Int64 :=
  f5_incomeOf_5 o q1 S fuel0 x2 (0 : Int64) (0 : Int32)
def f5_sharesFor_37 (o : Nat) (S : Zs) (k5 : Int32 → Int64 → Int32 → Option Int64) (x1 : Int32) (x2 : Int64) (x4 : Int32) : Option Int64 :=
  lt_ (x4 + (1 : Int32)) fun v37 =>
  k5 x1 x2 v37
def f5_sharesFor_5 (o : Nat) (S : Zs) : Nat → Int32 → Int64 → Int32 → Option Int64
  | 0 => fun _ _ _ => none
  | n + 1 => fun x1 x2 x4 =>
    if S.1 o 1 ≤ x4 then
      some x2
    else
      if inb x4 6 = true then
        if (S.1 (o + 8) x4.toNatClampNeg) &&& x1 = 0 then
          f5_sharesFor_37 o S (f5_sharesFor_5 o S n) x1 x2 x4
        else
          if inb x4 6 = true then
            lt_ (x2 + ((S.1 (o + 1) x4.toNatClampNeg).toInt64)) fun v36 =>
            f5_sharesFor_37 o S (f5_sharesFor_5 o S n) x1 v36 x4
          else none
      else none
def f5_sharesFor (o : Nat) (S : Zs) (x1 : Int32) : Option Int64 :=
  f5_sharesFor_5 o S fuel0 x1 (0 : Int64) (0 : Int32)
def f5_idleBy_48 (o q1 : Nat) : Nat → Int64 → Int64 → Int32 → Zs → Option (Int32 × Zs)
  | 0 => fun _ _ _ _ => none
  | n + 1 => fun x2 x4 x6 S =>
    if f5_allLands o S < x6 then
      some ((0 : Int32), S)
    else
      bd1 (f5_incomeOf o q1 S x6) fun r61 =>
      bd1 (f5_sharesFor o S x6) fun r71 =>
      if r61 * x2 ≤ x4 * r71 then
        lt_ (x6 + (1 : Int32)) fun v82 =>
        f5_idleBy_48 o q1 n x2 x4 v82 S
      else
        some (x6, S)
def f5_idleBy_2 (o q1 : Nat) : Nat → Int32 → Zs → Option (Int32 × Zs)
  | 0 => fun _ _ => none
  | n + 1 => fun x2 S =>
    if S.1 o 1 ≤ x2 then
      bd1 (f5_allShares o S) fun r29 =>
      lt_ r29.toInt64 fun v33 =>
      bd1 (f5_incomeOf o q1 S (f5_allLands o S)) fun r40 =>
      f5_idleBy_48 o q1 fuel0 v33 r40 (1 : Int32) S
    else
      bd1 (f5_makersBy o q1 S x2) fun r18 =>
      if inb x2 6 = true then lt_ (zI S (o + 8) x2.toNatClampNeg r18) fun S21 =>
        lt_ (x2 + (1 : Int32)) fun v22 =>
        f5_idleBy_2 o q1 n v22 S21
      else none
def f5_idleBy (o q1 : Nat) (S : Zs) : Option (Int32 × Zs) :=
  f5_idleBy_2 o q1 fuel0 (0 : Int32) S
def f1_findTied_142 (q1 : Nat) (k117 : Int32 → Int32 → Int32 → Int32 → Zs → Option (Int32 × Zs)) (x2 : Int32) (x3 : Int32) (x4 : Int32) (x6 : Int32) (t0 : Int32) (S : Zs) : Option (Int32 × Zs) :=
  if inb t0 3 = true then
    if inb x6 6 = true then
      if inb (S.1 (18 + 4) x6.toNatClampNeg) 6 = true then
        if inb (S.1 (18 + 4) x6.toNatClampNeg) 6 = true then lt_ (zI S (29 + t0.toNatClampNeg) (S.1 (18 + 4) x6.toNatClampNeg).toNatClampNeg ((S.1 (29 + t0.toNatClampNeg) (S.1 (18 + 4) x6.toNatClampNeg).toNatClampNeg) + (1 : Int32))) fun S157 =>
          lt_ (x6 + (1 : Int32)) fun v158 =>
          k117 x2 x3 x4 v158 S157
        else none
      else none
    else none
  else none
def f1_findTied_117 (q1 : Nat) : Nat → Int32 → Int32 → Int32 → Int32 → Zs → Option (Int32 × Zs)
  | 0 => fun _ _ _ _ _ => none
  | n + 1 => fun x2 x3 x4 x6 S =>
    if S.1 q1 1 ≤ x6 then
      some ((0 : Int32), S)
    else
      if x4 ≤ x6 then
        f1_findTied_142 q1 (f1_findTied_117 q1 n) x2 x3 x4 x6 x3 S
      else
        f1_findTied_142 q1 (f1_findTied_117 q1 n) x2 x3 x4 x6 x2 S
def f1_findTied_114 (q1 : Nat) (x2 : Int32) (x3 : Int32) (x4 : Int32) (S : Zs) : Option (Int32 × Zs) :=
  f1_findTied_117 q1 fuel0 x2 x3 x4 (0 : Int32) S
def f1_findTied_108 (q1 : Nat) (k29 : Int32 → Int32 → Int32 → Int32 → Int32 → Zs → Option (Int32 × Zs)) (x2 : Int32) (x3 : Int32) (x4 : Int32) (x5 : Int32) (x6 : Int32) (S : Zs) : Option (Int32 × Zs) :=
  lt_ (x6 + (1 : Int32)) fun v108 =>
  k29 x2 x3 x4 x5 v108 S
def f1_findTied_29 (q1 : Nat) : Nat → Int32 → Int32 → Int32 → Int32 → Int32 → Zs → Option (Int32 × Zs)
  | 0 => fun _ _ _ _ _ _ => none
  | n + 1 => fun x2 x3 x4 x5 x6 S =>
    if (6 : Int32) ≤ x6 then
      f1_findTied_114 q1 x2 x3 x4 S
    else
      if x5 ≤ x4 then
        f1_findTied_114 q1 x2 x3 x4 S
      else
        lt_ ((x4 + x5) >>> ((1 : Int32) &&& 31)) fun v50 =>
        if inb v50 6 = true then
          bd1 (f1_tie q1 x2 x3 (S.1 (18 + 4) v50.toNatClampNeg) S) fun S66 =>
          bd2 (f5_idleBy q1 (q1 + 7) S66) fun r74 S74 =>
          if r74 = 0 then
            some ((1 : Int32), S74)
          else
            if (r74 >>> (x2 &&& 31)) &&& (1 : Int32) = 0 then
              f1_findTied_108 q1 (f1_findTied_29 q1 n) x2 x3 x4 v50 x6 S74
            else
              lt_ (v50 + (1 : Int32)) fun v99 =>
              f1_findTied_108 q1 (f1_findTied_29 q1 n) x2 x3 v99 x5 x6 S74
        else none
def f1_findTied (q1 : Nat) (x2 : Int32) (x3 : Int32) (S : Zs) : Option (Int32 × Zs) :=
  bd1 (f0_layTwo 18 q1 x2 x3 S) fun S7 =>
  bd1 (f0_sort 18 S7) fun S14 =>
  lt_ (S14.1 q1 1) fun v24 =>
  f1_findTied_29 q1 fuel0 x2 x3 (0 : Int32) v24 (0 : Int32) S14
def f1_settleApart_111 (q1 : Nat) (k27 : Int64 → Int32 → Zs → Option Zs) (x2 : Int64) (x4 : Int32) (S : Zs) : Option Zs :=
  lt_ (x4 + (1 : Int32)) fun v111 =>
  k27 x2 v111 S
def f1_settleApart_75 (q1 : Nat) (k27 : Int64 → Int32 → Zs → Option Zs) (k39 : Int64 → Int32 → Int64 → Int32 → Zs → Option Zs) (x2 : Int64) (x4 : Int32) (x5 : Int64) (x7 : Int32) (S : Zs) : Option Zs :=
  lt_ (x7 + (1 : Int32)) fun v75 =>
  k39 x2 x4 x5 v75 S
def f1_settleApart_39 (q1 : Nat) (k27 : Int64 → Int32 → Zs → Option Zs) : Nat → Int64 → Int32 → Int64 → Int32 → Zs → Option Zs
  | 0 => fun _ _ _ _ _ => none
  | n + 1 => fun x2 x4 x5 x7 S =>
    if S.1 q1 1 ≤ x7 then
      if inb x4 3 = true then
        if S.1 (q1 + 2) x4.toNatClampNeg ≤ 0 then
          f1_settleApart_111 q1 k27 x2 x4 S
        else
          if inb x4 3 = true then
            if (S.1 (q1 + 2) x4.toNatClampNeg).toInt64 = 0 then none else
            if inb x4 3 = true then lt_ (zL S (q1 + 7) x4.toNatClampNeg (x5 * (x2 / ((S.1 (q1 + 2) x4.toNatClampNeg).toInt64)))) fun S110 =>
              f1_settleApart_111 q1 k27 x2 x4 S110
            else none
          else none
      else none
    else
      if inb x4 3 = true then
        if inb x7 6 = true then
          if S.1 (29 + x4.toNatClampNeg) x7.toNatClampNeg = (2 : Int32) then
            if inb x7 6 = true then
              lt_ (x5 + ((S.1 (q1 + 1) x7.toNatClampNeg).toInt64)) fun v73 =>
              f1_settleApart_75 q1 k27 (f1_settleApart_39 q1 k27 n) x2 x4 v73 x7 S
            else none
          else
            f1_settleApart_75 q1 k27 (f1_settleApart_39 q1 k27 n) x2 x4 x5 x7 S
        else none
      else none
def f1_settleApart_27 (q1 : Nat) : Nat → Int64 → Int32 → Zs → Option Zs
  | 0 => fun _ _ _ => none
  | n + 1 => fun x2 x4 S =>
    if (3 : Int32) ≤ x4 then
      some S
    else
      f1_settleApart_39 q1 (f1_settleApart_27 q1 n) fuel0 x2 x4 (0 : Int64) (0 : Int32) S
def f1_settleApart (q1 : Nat) (S : Zs) : Option Zs :=
  if inb (0 : Int32) 3 = true then
    if inb (1 : Int32) 3 = true then
      if inb (2 : Int32) 3 = true then
        lt_ ((((S.1 (q1 + 2) (0 : Int32).toNatClampNeg).toInt64) * ((S.1 (q1 + 2) (1 : Int32).toNatClampNeg).toInt64)) * ((S.1 (q1 + 2) (2 : Int32).toNatClampNeg).toInt64)) fun v23 =>
        f1_settleApart_27 q1 fuel0 v23 (0 : Int32) S
      else none
    else none
  else none
def f6_commonDivisor_9 : Nat → Int64 → Int64 → Int32 → Option Int64
  | 0 => fun _ _ _ => none
  | n + 1 => fun x4 x6 x8 =>
    if (200 : Int32) ≤ x8 then
      some x4
    else
      if x6 = (0 : Int64) then
        some x4
      else
        if x6 = 0 then none else
        lt_ (x4 - x4 / x6 * x6) fun v29 =>
        lt_ (x8 + (1 : Int32)) fun v39 =>
        f6_commonDivisor_9 n x6 v29 v39
def f6_commonDivisor (x0 : Int64) (x2 : Int64) : Option Int64 :=
  f6_commonDivisor_9 fuel0 x0 x2 (0 : Int32)
def f1_shorten_31 (q0 : Nat) : Nat → Int64 → Int32 → Zs → Option Zs
  | 0 => fun _ _ _ => none
  | n + 1 => fun x1 x3 S =>
    if S.1 q0 0 ≤ x3 then
      some S
    else
      if x1 ≤ (1 : Int64) then
        some S
      else
        if inb x3 3 = true then
          if x1 = 0 then none else
          if inb x3 3 = true then lt_ (zL S (q0 + 7) x3.toNatClampNeg ((S.2 (q0 + 7) x3.toNatClampNeg) / x1)) fun S54 =>
            lt_ (x3 + (1 : Int32)) fun v55 =>
            f1_shorten_31 q0 n x1 v55 S54
          else none
        else none
def f1_shorten_4 (q0 : Nat) : Nat → Int64 → Int32 → Zs → Option Zs
  | 0 => fun _ _ _ => none
  | n + 1 => fun x1 x3 S =>
    if S.1 q0 0 ≤ x3 then
      f1_shorten_31 q0 fuel0 x1 (0 : Int32) S
    else
      if inb x3 3 = true then
        bd1 (f6_commonDivisor (S.2 (q0 + 7) x3.toNatClampNeg) x1) fun r19 =>
        lt_ (x3 + (1 : Int32)) fun v23 =>
        f1_shorten_4 q0 n r19 v23 S
      else none
def f1_shorten (q0 : Nat) (S : Zs) : Option Zs :=
  f1_shorten_4 q0 fuel0 (0 : Int64) (0 : Int32) S
def f1_settle_126 (q1 : Nat) (S : Zs) : Option Zs :=
  bd1 (f1_shorten q1 S) fun S127 =>
  some S127
def f1_settle (q1 : Nat) (S : Zs) : Option Zs :=
  if S.1 q1 0 = (1 : Int32) then
    if inb (0 : Int32) 3 = true then lt_ (zL S (q1 + 7) (0 : Int32).toNatClampNeg (1 : Int64)) fun S14 =>
      f1_settle_126 q1 S14
    else none
  else
    if S.1 q1 0 = (2 : Int32) then
      bd1 (f0_layTwo 18 q1 (0 : Int32) (1 : Int32) S) fun S33 =>
      bd1 (f0_sort 18 S33) fun S40 =>
      bd1 (f0_settleTwo 18 S40) fun S47 =>
      if inb (0 : Int32) 3 = true then lt_ (zL S47 (q1 + 7) (0 : Int32).toNatClampNeg (S47.2 18 7)) fun S62 =>
        if inb (1 : Int32) 3 = true then lt_ (zL S62 (q1 + 7) (1 : Int32).toNatClampNeg (S62.2 18 8)) fun S75 =>
          f1_settle_126 q1 S75
        else none
      else none
    else
      if S.1 q1 0 = (3 : Int32) then
        bd1 (f1_clearWins S) fun S88 =>
        bd2 (f1_findTied q1 (0 : Int32) (1 : Int32) S88) fun r95 S95 =>
        if r95 = 0 then
          bd2 (f1_findTied q1 (0 : Int32) (2 : Int32) S95) fun r105 S105 =>
          if r105 = 0 then
            bd2 (f1_findTied q1 (1 : Int32) (2 : Int32) S105) fun r115 S115 =>
            if r115 = 0 then
              bd1 (f1_settleApart q1 S115) fun S123 =>
              f1_settle_126 q1 S123
            else
              f1_settle_126 q1 S115
          else
            f1_settle_126 q1 S105
        else
          f1_settle_126 q1 S95
      else
        f1_settle_126 q1 S
def f5_take_61 (o q1 : Nat) : Nat → Int32 → Zs → Option Zs
  | 0 => fun _ _ => none
  | n + 1 => fun x2 S =>
    if (3 : Int32) ≤ x2 then
      some S
    else
      if inb x2 3 = true then
        if inb x2 3 = true then
          if cpok (0 : Int32) (0 : Int32) (6 : Int32) 6 6 = true then lt_ (zcI S (q1 + 4 + x2.toNatClampNeg) (0 : Int32).toNatClampNeg (o + 4 + x2.toNatClampNeg) (0 : Int32).toNatClampNeg (6 : Int32).toNatClampNeg) fun S82 =>
            lt_ (x2 + (1 : Int32)) fun v85 =>
            f5_take_61 o q1 n v85 S82
          else none
        else none
      else none
def f5_take (o q1 : Nat) (S : Zs) : Option Zs :=
  lt_ (zI S o 0 (S.1 q1 0)) fun S5 =>
  lt_ (zI S5 o 1 (S5.1 q1 1)) fun S13 =>
  if cpok (0 : Int32) (0 : Int32) (6 : Int32) 6 6 = true then lt_ (zcI S13 (q1 + 1) (0 : Int32).toNatClampNeg (o + 1) (0 : Int32).toNatClampNeg (6 : Int32).toNatClampNeg) fun S28 =>
    if cpok (0 : Int32) (0 : Int32) (3 : Int32) 3 3 = true then lt_ (zcI S28 (q1 + 2) (0 : Int32).toNatClampNeg (o + 2) (0 : Int32).toNatClampNeg (3 : Int32).toNatClampNeg) fun S42 =>
      if cpok (0 : Int32) (0 : Int32) (3 : Int32) 3 3 = true then lt_ (zcL S42 (q1 + 7) (0 : Int32).toNatClampNeg (o + 7) (0 : Int32).toNatClampNeg (3 : Int32).toNatClampNeg) fun S56 =>
        f5_take_61 o q1 fuel0 (0 : Int32) S56
      else none
    else none
  else none
def f6_world (S : Zs) : Option (Int64 × Zs) :=
  bd2 (f3_readInto 55 S) fun r8 S8 =>
  bd1 (f3_empty S8) fun S16 =>
  if r8 = 0 then
    some ((-9000000000000000100 : Int64) - ((S16.1 13 3).toInt64), S16)
  else
    bd1 (f1_settle 55 S16) fun S44 =>
    bd1 (f5_take 37 55 S44) fun S55 =>
    lt_ (zI S55 0 10 (0 : Int32)) fun S60 =>
    some ((S60.1 37 0).toInt64, S60)
def f6_fault (S : Zs) : Int32 :=
  S.1 13 2
def f5_isLand (o : Nat) (S : Zs) (x1 : Int32) : Int32 :=
  if x1 < 0 then
    (0 : Int32)
  else
    if S.1 o 0 ≤ x1 then
      (0 : Int32)
    else
      (1 : Int32)
def f5_isGood (o : Nat) (S : Zs) (x1 : Int32) : Int32 :=
  if x1 < 0 then
    (0 : Int32)
  else
    if S.1 o 1 ≤ x1 then
      (0 : Int32)
    else
      (1 : Int32)
def f6_told (S : Zs) (x1 : Int32) (x2 : Int32) (x3 : Int32) : Option Int64 :=
  if f5_isLand 37 S x1 = 0 then
    some (-9000000000000000001 : Int64)
  else
    if f5_isGood 37 S x2 = 0 then
      some (-9000000000000000001 : Int64)
    else
      if x3 = 0 then
        if inb x1 3 = true then
          if inb x2 6 = true then
            some ((S.1 (37 + 4 + x1.toNatClampNeg) x2.toNatClampNeg).toInt64)
          else none
        else none
      else
      if x3 = 1 then
        if inb x1 3 = true then
          some ((S.1 (37 + 2) x1.toNatClampNeg).toInt64)
        else none
      else
      if x3 = 2 then
        if inb x2 6 = true then
          some ((S.1 (37 + 1) x2.toNatClampNeg).toInt64)
        else none
      else
        some (-9000000000000000001 : Int64)
def f6_part_17 (x5 : Int64) (t0 : Int64) : Option Int64 :=
  if x5 ≤ (1 : Int64) then
    some t0
  else
    if x5 = 0 then none else
    some (t0 / x5)
def f6_part (x0 : Int64) (x2 : Int64) (x4 : Int32) : Option Int64 :=
  bd1 (f6_commonDivisor x0 x2) fun r2 =>
  if x4 = 0 then
    f6_part_17 r2 x0
  else
    f6_part_17 r2 x2
def f6_wage (S : Zs) (x1 : Int32) (x2 : Int32) : Option Int64 :=
  if f5_isLand 37 S x1 = 0 then
    some (-9000000000000000001 : Int64)
  else
    if x2 < 0 then
      some (-9000000000000000001 : Int64)
    else
      if x2 ≤ (1 : Int32) then
        if inb x1 3 = true then
          if inb (0 : Int32) 3 = true then
            bd1 (f6_part (S.2 (37 + 7) x1.toNatClampNeg) (S.2 (37 + 7) (0 : Int32).toNatClampNeg) x2) fun r43 =>
            some r43
          else none
        else none
      else
        some (-9000000000000000001 : Int64)
def f5_leastCost_11 (o q1 : Nat) (S : Zs) : Nat → Int32 → Int64 → Int32 → Option Int64
  | 0 => fun _ _ _ => none
  | n + 1 => fun x2 x3 x5 =>
    if S.1 o 0 ≤ x5 then
      some x3
    else
      bd1 (f5_cost o q1 S x5 x2) fun r26 =>
      lt_ (if r26 < x3 then r26 else x3) fun v32 =>
      lt_ (x5 + (1 : Int32)) fun v33 =>
      f5_leastCost_11 o q1 S n x2 v32 v33
def f5_leastCost (o q1 : Nat) (S : Zs) (x2 : Int32) : Option Int64 :=
  bd1 (f5_cost o q1 S (0 : Int32) x2) fun r4 =>
  f5_leastCost_11 o q1 S fuel0 x2 r4 (1 : Int32)
def f6_price (S : Zs) (x1 : Int32) (x2 : Int32) : Option Int64 :=
  if f5_isGood 37 S x1 = 0 then
    some (-9000000000000000001 : Int64)
  else
    if x2 < 0 then
      some (-9000000000000000001 : Int64)
    else
      if x2 ≤ (2 : Int32) then
        if x2 = (2 : Int32) then
          bd1 (f5_makersBy 37 (37 + 7) S x1) fun r41 =>
          some r41.toInt64
        else
          bd1 (f5_leastCost 37 (37 + 7) S x1) fun r58 =>
          if inb (0 : Int32) 3 = true then
            bd1 (f6_part r58 (S.2 (37 + 7) (0 : Int32).toNatClampNeg) x2) fun r71 =>
            some r71
          else none
      else
        some (-9000000000000000001 : Int64)
def f6_gain (S : Zs) (x1 : Int32) (x2 : Int32) (x3 : Int32) : Option Int64 :=
  if f5_isLand 37 S x1 = 0 then
    some (-9000000000000000001 : Int64)
  else
    if f5_isGood 37 S x2 = 0 then
      some (-9000000000000000001 : Int64)
    else
      if x3 < 0 then
        some (-9000000000000000001 : Int64)
      else
        if x3 ≤ (1 : Int32) then
          bd1 (f5_cost 37 (37 + 7) S x1 x2) fun r48 =>
          bd1 (f5_leastCost 37 (37 + 7) S x2) fun r63 =>
          bd1 (f6_part r48 r63 x3) fun r67 =>
          some r67
        else
          some (-9000000000000000001 : Int64)
def f5_isThere (o : Nat) (S : Zs) : Int32 :=
  if S.1 o 0 ≤ 0 then
    (0 : Int32)
  else
    (1 : Int32)
def f6_findingAt (S : Zs) (x1 : Int32) (x2 : Int32) (x3 : Int32) : Option Int32 :=
  bd1 (f2_isMissing S x1) fun r5 =>
  if r5 = 0 then
    bd1 (f2_has S x1 x2 x3) fun r20 =>
    if r20 = 0 then
      some (2 : Int32)
    else
      some (0 : Int32)
  else
    some (1 : Int32)
def f2_item (S : Zs) (x1 : Int32) (x2 : Int32) : Option Int32 :=
  if inb x1 8 = true then
    if inb x2 40 = true then
      some (S.1 (3 + x1.toNatClampNeg) x2.toNatClampNeg)
    else none
  else none
def f6_judge_52 : Nat → Int32 → Int32 → Int32 → Zs → Option (Int64 × Zs)
  | 0 => fun _ _ _ _ => none
  | n + 1 => fun x1 x2 x4 S =>
    if S.1 37 0 ≤ x4 then
      bd2 (f5_idleBy 37 64 S) fun r121 S121 =>
      bd2 (f6_fine r121.toInt64 S121) fun r125 S125 =>
      some (r125, S125)
    else
      bd1 (f2_item S x1 (x2 + x4)) fun r73 =>
      if r73 < (1 : Int32) then
        some ((-9000000000000000001 : Int64), S)
      else
        if r73 ≤ (999 : Int32) then
          if inb x4 3 = true then lt_ (zL S 64 x4.toNatClampNeg r73.toInt64) fun S105 =>
            lt_ (x4 + (1 : Int32)) fun v106 =>
            f6_judge_52 n x1 x2 v106 S105
          else none
        else
          some ((-9000000000000000001 : Int64), S)
def f6_judge (x1 : Int32) (x2 : Int32) (S : Zs) : Option (Int64 × Zs) :=
  if f2_isRow x1 = 0 then
    some ((-9000000000000000001 : Int64), S)
  else
    if f5_isThere 37 S = 0 then
      some ((-9000000000000000002 : Int64), S)
    else
      bd1 (f6_findingAt S x1 x2 (S.1 37 0)) fun r35 =>
      if r35 = 0 then
        f6_judge_52 fuel0 x1 x2 (0 : Int32) S
      else
        bd2 (f6_found r35 S) fun r45 S45 =>
        some (r45, S45)
def f0_cut_64 (o : Nat) (S : Zs) (k6 : Int32 → Int32 → Int32 → Option Int32) (x1 : Int32) (x2 : Int32) (x3 : Int32) : Option Int32 :=
  lt_ (x3 + (1 : Int32)) fun v64 =>
  k6 x1 x2 v64
def f0_cut_6 (o : Nat) (S : Zs) : Nat → Int32 → Int32 → Int32 → Option Int32
  | 0 => fun _ _ _ => none
  | n + 1 => fun x1 x2 x3 =>
    if S.1 o 0 ≤ x3 then
      some (((2 : Int32) * x1) + x2)
    else
      if inb x3 6 = true then
        lt_ ((S.2 (o + 2) x3.toNatClampNeg) * (S.2 o 7)) fun v25 =>
        if inb x3 6 = true then
          lt_ ((S.2 (o + 3) x3.toNatClampNeg) * (S.2 o 8)) fun v38 =>
          if v38 ≤ v25 then
            if v25 = v38 then
              f0_cut_64 o S (f0_cut_6 o S n) x1 (1 : Int32) x3
            else
              f0_cut_64 o S (f0_cut_6 o S n) x1 x2 x3
          else
            lt_ (x1 + (1 : Int32)) fun v48 =>
            f0_cut_64 o S (f0_cut_6 o S n) v48 x2 x3
        else none
      else none
def f0_cut (o : Nat) (S : Zs) : Option Int32 :=
  f0_cut_6 o S fuel0 (0 : Int32) (0 : Int32) (0 : Int32)
def f6_chain (x1 : Int32) (x2 : Int32) (x3 : Int32) (S : Zs) : Option (Int64 × Zs) :=
  if f5_isLand 37 S x1 = 0 then
    some ((-9000000000000000001 : Int64), S)
  else
    if f5_isLand 37 S x2 = 0 then
      some ((-9000000000000000001 : Int64), S)
    else
      if x1 = x2 then
        some ((-9000000000000000001 : Int64), S)
      else
        if (-1 : Int32) ≤ x3 then
          if x3 < S.1 37 1 then
            bd1 (f0_layTwo 32 37 x1 x2 S) fun S61 =>
            bd1 (f0_sort 32 S61) fun S68 =>
            if x3 < 0 then
              bd1 (f0_settleTwo 32 S68) fun S90 =>
              bd1 (f0_cut 32 S90) fun r97 =>
              some (r97.toInt64, S90)
            else
              if inb x3 6 = true then
                some ((S68.1 (32 + 4) x3.toNatClampNeg).toInt64, S68)
              else none
          else
            some ((-1000000 : Int64), S)
        else
          some ((-9000000000000000001 : Int64), S)
def f6_landOfRing (x0 : Int32) (x1 : Int32) : Int32 :=
  ((x0 >>> (((3 : Int32) * x1) &&& 31)) &&& (7 : Int32)) - (1 : Int32)
def f6_bestGift_92 (S : Zs) (k5 : Int32 → Int32 → Int32 → Int32 → Option Int32) (x1 : Int32) (x2 : Int32) (x3 : Int32) (x4 : Int32) : Option Int32 :=
  lt_ (x4 + (1 : Int32)) fun v92 =>
  k5 x1 x2 x3 v92
def f6_bestGift_89 (S : Zs) (k5 : Int32 → Int32 → Int32 → Int32 → Option Int32) (x1 : Int32) (x2 : Int32) (x4 : Int32) : Option Int32 :=
  f6_bestGift_92 S k5 x1 x2 x4 x4
def f6_bestGift_5 (S : Zs) : Nat → Int32 → Int32 → Int32 → Int32 → Option Int32
  | 0 => fun _ _ _ _ => none
  | n + 1 => fun x1 x2 x3 x4 =>
    if S.1 37 1 ≤ x4 then
      some x3
    else
      if inb x4 6 = true then
        if ((S.1 65 x4.toNatClampNeg) >>> (x1 &&& 31)) &&& (1 : Int32) = 0 then
          f6_bestGift_92 S (f6_bestGift_5 S n) x1 x2 x3 x4
        else
          if x3 < 0 then
            f6_bestGift_89 S (f6_bestGift_5 S n) x1 x2 x4
          else
            if inb x2 3 = true then
              if inb x4 6 = true then
                if inb x1 3 = true then
                  if inb x3 6 = true then
                    if inb x2 3 = true then
                      if inb x3 6 = true then
                        if inb x1 3 = true then
                          if inb x4 6 = true then
                            if (S.1 (37 + 4 + x2.toNatClampNeg) x3.toNatClampNeg) * (S.1 (37 + 4 + x1.toNatClampNeg) x4.toNatClampNeg) ≤ (S.1 (37 + 4 + x2.toNatClampNeg) x4.toNatClampNeg) * (S.1 (37 + 4 + x1.toNatClampNeg) x3.toNatClampNeg) then
                              f6_bestGift_92 S (f6_bestGift_5 S n) x1 x2 x3 x4
                            else
                              f6_bestGift_89 S (f6_bestGift_5 S n) x1 x2 x4
                          else none
                        else none
                      else none
                    else none
                  else none
                else none
              else none
            else none
      else none
def f6_bestGift (S : Zs) (x1 : Int32) (x2 : Int32) : Option Int32 :=
  f6_bestGift_5 S fuel0 x1 x2 (-1 : Int32) (0 : Int32)
def f6_makesMore_51 (S : Zs) (k20 : Int32 → Int32 → Int64 → Int64 → Int32 → Option Int32) (x1 : Int32) (x2 : Int32) (x3 : Int64) (x5 : Int64) (x7 : Int32) (x8 : Int32) (t0 : Int32) (t1 : Int32) : Option Int32 :=
  lt_ (f6_landOfRing t1 t0) fun v54 =>
  if f5_isLand 37 S x8 = 0 then
    some (0 : Int32)
  else
    if f5_isLand 37 S v54 = 0 then
      some (0 : Int32)
    else
      bd1 (f6_bestGift S x8 v54) fun r87 =>
      if 0 ≤ r87 then
        if inb v54 3 = true then
          if inb r87 6 = true then
            lt_ (x3 * ((S.1 (37 + 4 + v54.toNatClampNeg) r87.toNatClampNeg).toInt64)) fun v115 =>
            if inb x8 3 = true then
              if inb r87 6 = true then
                lt_ (x5 * ((S.1 (37 + 4 + x8.toNatClampNeg) r87.toNatClampNeg).toInt64)) fun v133 =>
                lt_ (x7 + (1 : Int32)) fun v135 =>
                k20 x1 x2 v115 v133 v135
              else none
            else none
          else none
        else none
      else
        some (0 : Int32)
def f6_makesMore_20 (S : Zs) : Nat → Int32 → Int32 → Int64 → Int64 → Int32 → Option Int32
  | 0 => fun _ _ _ _ _ => none
  | n + 1 => fun x1 x2 x3 x5 x7 =>
    if x2 ≤ x7 then
      if x5 ≤ x3 then
        some (0 : Int32)
      else
        some (1 : Int32)
    else
      lt_ (f6_landOfRing x1 x7) fun v32 =>
      if x2 ≤ x7 + (1 : Int32) then
        f6_makesMore_51 S (f6_makesMore_20 S n) x1 x2 x3 x5 x7 v32 (0 : Int32) x1
      else
        f6_makesMore_51 S (f6_makesMore_20 S n) x1 x2 x3 x5 x7 v32 (x7 + (1 : Int32)) x1
def f6_makesMore_11 (S : Zs) (x1 : Int32) (t0 : Int32) : Option Int32 :=
  f6_makesMore_20 S fuel0 x1 t0 (1 : Int64) (1 : Int64) (0 : Int32)
def f6_makesMore (S : Zs) (x1 : Int32) : Option Int32 :=
  if (64 : Int32) ≤ x1 then
    f6_makesMore_11 S x1 (3 : Int32)
  else
    f6_makesMore_11 S x1 (2 : Int32)
def f6_leastRing_2 (S : Zs) : Nat → Int32 → Option Int64
  | 0 => fun _ => none
  | n + 1 => fun x1 =>
    if (5 : Int32) ≤ x1 then
      some (0 : Int64)
    else
      if inb x1 5 = true then
        bd1 (f6_makesMore S (zRings.getD x1.toNatClampNeg 0)) fun r16 =>
        if r16 = 0 then
          lt_ (x1 + (1 : Int32)) fun v29 =>
          f6_leastRing_2 S n v29
        else
          if inb x1 5 = true then
            some ((zRings.getD x1.toNatClampNeg 0).toInt64)
          else none
      else none
def f6_leastRing (S : Zs) : Option Int64 :=
  f6_leastRing_2 S fuel0 (0 : Int32)
def f6_more_52 : Nat → Int32 → Int32 → Int32 → Zs → Option (Int64 × Zs)
  | 0 => fun _ _ _ _ => none
  | n + 1 => fun x1 x2 x4 S =>
    if S.1 37 1 ≤ x4 then
      bd1 (f6_leastRing S) fun r117 =>
      bd2 (f6_fine r117 S) fun r120 S120 =>
      some (r120, S120)
    else
      bd1 (f2_item S x1 (x2 + x4)) fun r73 =>
      if r73 < (1 : Int32) then
        some ((-9000000000000000001 : Int64), S)
      else
        if r73 ≤ f5_allLands 37 S then
          if inb x4 6 = true then lt_ (zI S 65 x4.toNatClampNeg r73) fun S108 =>
            lt_ (x4 + (1 : Int32)) fun v109 =>
            f6_more_52 n x1 x2 v109 S108
          else none
        else
          some ((-9000000000000000001 : Int64), S)
def f6_more (x1 : Int32) (x2 : Int32) (S : Zs) : Option (Int64 × Zs) :=
  if f2_isRow x1 = 0 then
    some ((-9000000000000000001 : Int64), S)
  else
    if f5_isThere 37 S = 0 then
      some ((-9000000000000000002 : Int64), S)
    else
      bd1 (f6_findingAt S x1 x2 (S.1 37 1)) fun r35 =>
      if r35 = 0 then
        f6_more_52 fuel0 x1 x2 (0 : Int32) S
      else
        bd2 (f6_found r35 S) fun r45 S45 =>
        some (r45, S45)
def f6_stays (S : Zs) (x1 : Int32) (x2 : Int32) (x3 : Int32) : Option Int64 :=
  if f5_isLand 37 S x1 = 0 then
    some (-9000000000000000001 : Int64)
  else
    if f5_isGood 37 S x2 = 0 then
      some (-9000000000000000001 : Int64)
    else
      if x3 < 0 then
        some (-9000000000000000001 : Int64)
      else
        if x3 ≤ (900 : Int32) then
          bd1 (f5_cost 37 (37 + 7) S x1 x2) fun r50 =>
          lt_ (r50 * (100 : Int64)) fun v57 =>
          bd1 (f5_leastCost 37 (37 + 7) S x2) fun r71 =>
          lt_ (r71 * (((100 : Int32) + x3).toInt64)) fun v80 =>
          if v80 < v57 then
            some (0 : Int64)
          else
            some (1 : Int64)
        else
          some (-9000000000000000001 : Int64)
def f6_keepAhead (S : Zs) : Option Zs :=
  bd1 (f5_take 46 37 S) fun S8 =>
  lt_ (zI S8 0 10 (1 : Int32)) fun S13 =>
  some S13
def f6_learn (x1 : Int32) (x2 : Int32) (x3 : Int32) (S : Zs) : Option (Int64 × Zs) :=
  if f5_isLand 37 S x1 = 0 then
    some ((-9000000000000000001 : Int64), S)
  else
    if f5_isLand 37 S x2 = 0 then
      some ((-9000000000000000001 : Int64), S)
    else
      if x1 = x2 then
        some ((-9000000000000000001 : Int64), S)
      else
        if f5_isGood 37 S x3 = 0 then
          some ((-9000000000000000001 : Int64), S)
        else
          bd1 (f6_keepAhead S) fun S43 =>
          if inb x1 3 = true then
            if inb x3 6 = true then
              if inb x2 3 = true then
                if inb x3 6 = true then
                  lt_ ((S43.1 (37 + 4 + x1.toNatClampNeg) x3.toNatClampNeg) - (S43.1 (37 + 4 + x2.toNatClampNeg) x3.toNatClampNeg)) fun v69 =>
                  if 0 < v69 then
                    if inb x1 3 = true then
                      if inb x2 3 = true then
                        if inb x3 6 = true then
                          if inb x3 6 = true then lt_ (zI S43 (37 + 4 + x1.toNatClampNeg) x3.toNatClampNeg (S43.1 (37 + 4 + x2.toNatClampNeg) x3.toNatClampNeg)) fun S99 =>
                            bd1 (f1_settle 37 S99) fun S108 =>
                            some (v69.toInt64, S108)
                          else none
                        else none
                      else none
                    else none
                  else
                    some ((0 : Int64), S43)
                else none
              else none
            else none
          else none
def f6_on_136 (S : Zs) (k33 : Int32 → Int32 → Int32 → Int32 → Option Int64) (x1 : Int32) (x2 : Int32) (x4 : Int32) (t0 : Int32) : Option Int64 :=
  lt_ (x4 + (1 : Int32)) fun v137 =>
  k33 x1 x2 t0 v137
def f6_on_131 (S : Zs) (k33 : Int32 → Int32 → Int32 → Int32 → Option Int64) (x1 : Int32) (x2 : Int32) (x4 : Int32) : Option Int64 :=
  f6_on_136 S k33 x1 x2 x4 (1 : Int32)
def f6_on_118 (S : Zs) (k33 : Int32 → Int32 → Int32 → Int32 → Option Int64) (x1 : Int32) (x3 : Int32) (x4 : Int32) (x5 : Int64) (x7 : Int64) (t0 : Int32) : Option Int64 :=
  if x3 = 0 then
    if x7 ≤ x5 then
      f6_on_136 S k33 x1 t0 x4 (0 : Int32)
    else
      f6_on_131 S k33 x1 t0 x4
  else
    f6_on_131 S k33 x1 t0 x4
def f6_on_113 (S : Zs) (k33 : Int32 → Int32 → Int32 → Int32 → Option Int64) (x1 : Int32) (x3 : Int32) (x4 : Int32) (x5 : Int64) (x7 : Int64) : Option Int64 :=
  f6_on_118 S k33 x1 x3 x4 x5 x7 (1 : Int32)
def f6_on_33 (S : Zs) : Nat → Int32 → Int32 → Int32 → Int32 → Option Int64
  | 0 => fun _ _ _ _ => none
  | n + 1 => fun x1 x2 x3 x4 =>
    if S.1 37 1 ≤ x4 then
      if x2 = 0 then
        if x3 = 0 then
          some (0 : Int64)
        else
          some (-1 : Int64)
      else
        if x3 = 0 then
          some (1 : Int64)
        else
          some (2 : Int64)
    else
      if inb x1 3 = true then
        bd1 (f5_leastCost 46 (46 + 7) S x4) fun r67 =>
        lt_ ((S.2 (37 + 7) x1.toNatClampNeg) * r67) fun v71 =>
        if inb x1 3 = true then
          bd1 (f5_leastCost 37 (37 + 7) S x4) fun r95 =>
          lt_ ((S.2 (46 + 7) x1.toNatClampNeg) * r95) fun v99 =>
          if x2 = 0 then
            if v71 ≤ v99 then
              f6_on_118 S (f6_on_33 S n) x1 x3 x4 v71 v99 (0 : Int32)
            else
              f6_on_113 S (f6_on_33 S n) x1 x3 x4 v71 v99
          else
            f6_on_113 S (f6_on_33 S n) x1 x3 x4 v71 v99
        else none
      else none
def f6_on (S : Zs) (x1 : Int32) : Option Int64 :=
  if f5_isLand 37 S x1 = 0 then
    some (-9000000000000000001 : Int64)
  else
    if S.1 0 10 = 0 then
      some (-9000000000000000002 : Int64)
    else
      f6_on_33 S fuel0 x1 (0 : Int32) (0 : Int32) (0 : Int32)
def f6_makersChange (x1 : Int32) (x2 : Int32) (x3 : Int32) (S : Zs) : Option (Int32 × Zs) :=
  if inb x1 3 = true then
    if inb x2 6 = true then
      lt_ ((S.1 (37 + 4 + x1.toNatClampNeg) x2.toNatClampNeg) + x3) fun v13 =>
      if v13 < (1 : Int32) then
        some ((0 : Int32), S)
      else
        if v13 ≤ (20 : Int32) then
          bd1 (f5_take 55 37 S) fun S38 =>
          if inb x1 3 = true then
            if inb x2 6 = true then lt_ (zI S38 (55 + 4 + x1.toNatClampNeg) x2.toNatClampNeg v13) fun S53 =>
              bd1 (f1_settle 55 S53) fun S62 =>
              bd1 (f5_makersBy 55 (55 + 7) S62 x2) fun r77 =>
              bd1 (f5_makersBy 37 (37 + 7) S62 x2) fun r92 =>
              if r77 = r92 then
                some ((0 : Int32), S62)
              else
                some ((1 : Int32), S62)
            else none
          else none
        else
          some ((0 : Int32), S)
    else none
  else none
def f6_edge_28 : Nat → Int32 → Int32 → Int32 → Zs → Option (Int64 × Zs)
  | 0 => fun _ _ _ _ => none
  | n + 1 => fun x1 x2 x3 S =>
    if (20 : Int32) ≤ x3 then
      some ((-1000000 : Int64), S)
    else
      bd2 (f6_makersChange x1 x2 x3 S) fun r38 S38 =>
      if r38 = 0 then
        bd2 (f6_makersChange x1 x2 (-x3) S38) fun r52 S52 =>
        if r52 = 0 then
          lt_ (x3 + (1 : Int32)) fun v62 =>
          f6_edge_28 n x1 x2 v62 S52
        else
          some ((-x3).toInt64, S52)
      else
        some (x3.toInt64, S38)
def f6_edge (x1 : Int32) (x2 : Int32) (S : Zs) : Option (Int64 × Zs) :=
  if f5_isLand 37 S x1 = 0 then
    some ((-9000000000000000001 : Int64), S)
  else
    if f5_isGood 37 S x2 = 0 then
      some ((-9000000000000000001 : Int64), S)
    else
      f6_edge_28 fuel0 x1 x2 (1 : Int32) S
def f6_oneGoes_65 (k6 : Int32 → Int32 → Int32 → Zs → Option (Int32 × Zs)) (x1 : Int32) (x2 : Int32) (x3 : Int32) (S : Zs) : Option (Int32 × Zs) :=
  lt_ (x3 + (1 : Int32)) fun v65 =>
  k6 x1 x2 v65 S
def f6_oneGoes_41 (k6 : Int32 → Int32 → Int32 → Zs → Option (Int32 × Zs)) (x1 : Int32) (x2 : Int32) (x3 : Int32) (S : Zs) : Option (Int32 × Zs) :=
  if inb x3 3 = true then
    if inb x2 3 = true then
      if S.2 (37 + 7) x3.toNatClampNeg ≤ S.2 (37 + 7) x2.toNatClampNeg then
        f6_oneGoes_65 k6 x1 x2 x3 S
      else
        f6_oneGoes_65 k6 x1 x3 x3 S
    else none
  else none
def f6_oneGoes_6 : Nat → Int32 → Int32 → Int32 → Zs → Option (Int32 × Zs)
  | 0 => fun _ _ _ _ => none
  | n + 1 => fun x1 x2 x3 S =>
    if S.1 37 0 ≤ x3 then
      if x1 = x2 then
        some ((0 : Int32), S)
      else
        if inb x1 3 = true then
          if S.1 (37 + 2) x1.toNatClampNeg < (2 : Int32) then
            some ((0 : Int32), S)
          else
            if inb x2 3 = true then
              if S.1 (37 + 2) x2.toNatClampNeg < (99 : Int32) then
                bd1 (f5_take 55 37 S) fun S113 =>
                if inb x1 3 = true then
                  if inb x1 3 = true then lt_ (zI S113 (55 + 2) x1.toNatClampNeg ((S113.1 (55 + 2) x1.toNatClampNeg) - (1 : Int32))) fun S128 =>
                    if inb x2 3 = true then
                      if inb x2 3 = true then lt_ (zI S128 (55 + 2) x2.toNatClampNeg ((S128.1 (55 + 2) x2.toNatClampNeg) + (1 : Int32))) fun S141 =>
                        bd1 (f1_settle 55 S141) fun S150 =>
                        if inb x2 3 = true then
                          if inb x1 3 = true then
                            if S150.2 (55 + 7) x1.toNatClampNeg ≤ S150.2 (55 + 7) x2.toNatClampNeg then
                              bd1 (f5_take 37 55 S150) fun S185 =>
                              some ((1 : Int32), S185)
                            else
                              some ((0 : Int32), S150)
                          else none
                        else none
                      else none
                    else none
                  else none
                else none
              else
                some ((0 : Int32), S)
            else none
        else none
    else
      if inb x3 3 = true then
        if inb x1 3 = true then
          if S.2 (37 + 7) x1.toNatClampNeg ≤ S.2 (37 + 7) x3.toNatClampNeg then
            f6_oneGoes_41 (f6_oneGoes_6 n) x1 x2 x3 S
          else
            f6_oneGoes_41 (f6_oneGoes_6 n) x3 x2 x3 S
        else none
      else none
def f6_oneGoes (S : Zs) : Option (Int32 × Zs) :=
  f6_oneGoes_6 fuel0 (0 : Int32) (0 : Int32) (1 : Int32) S
def f6_move_34 : Nat → Int32 → Int32 → Zs → Option (Int64 × Zs)
  | 0 => fun _ _ _ => none
  | n + 1 => fun x1 x2 S =>
    if x1 ≤ x2 then
      some (x2.toInt64, S)
    else
      bd2 (f6_oneGoes S) fun r40 S40 =>
      if r40 = 0 then
        some (x2.toInt64, S40)
      else
        lt_ (x2 + (1 : Int32)) fun v46 =>
        f6_move_34 n x1 v46 S40
def f6_move (x1 : Int32) (S : Zs) : Option (Int64 × Zs) :=
  if x1 < (1 : Int32) then
    some ((-9000000000000000001 : Int64), S)
  else
    if x1 ≤ (5 : Int32) then
      if f5_isThere 37 S = 0 then
        some ((-9000000000000000002 : Int64), S)
      else
        bd1 (f6_keepAhead S) fun S29 =>
        f6_move_34 fuel0 x1 (0 : Int32) S29
    else
      some ((-9000000000000000001 : Int64), S)
def f6_isOfKind (S : Zs) (x1 : Int32) (x2 : Int32) : Option Int32 :=
  bd1 (f5_makersBy 37 (37 + 7) S x1) fun r12 =>
  if x2 = 1 then
    if fJ_bitCount r12 = (1 : Int32) then
      some (1 : Int32)
    else
      some (0 : Int32)
  else
  if x2 = 2 then
    if fJ_bitCount r12 ≤ (1 : Int32) then
      some (0 : Int32)
    else
      some (1 : Int32)
  else
  if x2 = 3 then
    if fJ_bitCount r12 ≤ (1 : Int32) then
      some (0 : Int32)
    else
      if r12 = f5_allLands 37 S then
        some (1 : Int32)
      else
        some (0 : Int32)
  else
  if x2 = 4 then
    if r12 = (1 : Int32) then
      some (1 : Int32)
    else
      some (0 : Int32)
  else
  if x2 = 5 then
    if r12 = (1 : Int32) then
      bd1 (f5_leastCost 37 (37 + 7) S x1) fun r133 =>
      if inb (0 : Int32) 3 = true then
        if r133 < (10 : Int64) * (S.2 (37 + 7) (0 : Int32).toNatClampNeg) then
          some (0 : Int32)
        else
          some (1 : Int32)
      else none
    else
      some (0 : Int32)
  else
    some (1 : Int32)
def f6_kindOf_2 (S : Zs) : Nat → Int32 → Int32 → Option Int32
  | 0 => fun _ _ => none
  | n + 1 => fun x1 x2 =>
    if x2 ≤ 0 then
      some (0 : Int32)
    else
      bd1 (f6_isOfKind S x1 x2) fun r9 =>
      if r9 = 0 then
        lt_ (x2 + (-1 : Int32)) fun v17 =>
        f6_kindOf_2 S n x1 v17
      else
        some x2
def f6_kindOf (S : Zs) (x1 : Int32) : Option Int32 :=
  f6_kindOf_2 S fuel0 x1 (5 : Int32)
def f6_kind (S : Zs) (x1 : Int32) : Option Int64 :=
  if f5_isGood 37 S x1 = 0 then
    some (-9000000000000000001 : Int64)
  else
    bd1 (f6_kindOf S x1) fun r13 =>
    some r13.toInt64
def f6_as (x1 : Int32) (x2 : Int32) (S : Zs) : Option (Int64 × Zs) :=
  if f5_isGood 37 S x1 = 0 then
    some ((-9000000000000000001 : Int64), S)
  else
    if x2 < 0 then
      some ((-9000000000000000001 : Int64), S)
    else
      if x2 ≤ (5 : Int32) then
        bd1 (f6_isOfKind S x1 x2) fun r27 =>
        if r27 = 0 then
          bd2 (f6_found (3 : Int32) S) fun r44 S44 =>
          some (r44, S44)
        else
          bd2 (f6_fine x1.toInt64 S) fun r36 S36 =>
          some (r36, S36)
      else
        some ((-9000000000000000001 : Int64), S)
def f4_add (x1 : Int32) (S : Zs) : Option Zs :=
  if (16 : Int32) ≤ S.1 15 1 then
    some S
  else
    if inb (S.1 15 1) 16 = true then lt_ (zI S 16 (S.1 15 1).toNatClampNeg x1) fun S18 =>
      lt_ (zI S18 15 1 ((S18.1 15 1) + (1 : Int32))) fun S26 =>
      some S26
    else none
def f6_markOf (kb : Int32 → Int32 → Int32 → Zs → Option (Int64 × Zs)) (x1 : Int32) (x2 : Int32) (S : Zs) : Option (Int64 × Zs) :=
  bd1 (f6_kindOf S x1) fun r6 =>
  if inb r6 6 = true then
    bd2 (kb (zMarks.getD r6.toNatClampNeg 0) x1 (x2 + (1 : Int32)) S) fun r14 S14 =>
    some (r14, S14)
  else none
def f5_firstMaker_38 (o : Nat) (S : Zs) (k4 : Int32 → Int32 → Int32 → Option Int32) (x1 : Int32) (x2 : Int32) (x3 : Int32) : Option Int32 :=
  lt_ (x3 + (1 : Int32)) fun v38 =>
  k4 x1 x2 v38
def f5_firstMaker_4 (o : Nat) (S : Zs) : Nat → Int32 → Int32 → Int32 → Option Int32
  | 0 => fun _ _ _ => none
  | n + 1 => fun x1 x2 x3 =>
    if S.1 o 0 ≤ x3 then
      some x2
    else
      bd1 (f5_cost o (o + 7) S x3 x1) fun r19 =>
      bd1 (f5_cost o (o + 7) S x2 x1) fun r29 =>
      if r29 ≤ r19 then
        f5_firstMaker_38 o S (f5_firstMaker_4 o S n) x1 x2 x3
      else
        f5_firstMaker_38 o S (f5_firstMaker_4 o S n) x1 x3 x3
def f5_firstMaker (o : Nat) (S : Zs) (x1 : Int32) : Option Int32 :=
  f5_firstMaker_4 o S fuel0 x1 (0 : Int32) (1 : Int32)
def f6_sizeOf (kb : Int32 → Int32 → Int32 → Zs → Option (Int64 × Zs)) (x1 : Int32) (x2 : Int32) (S : Zs) : Option (Int64 × Zs) :=
  bd1 (f6_kindOf S x1) fun r6 =>
  if inb r6 6 = true then
    bd2 (kb (zSizes.getD r6.toNatClampNeg 0) x1 (x2 + (1 : Int32)) S) fun r14 S14 =>
    some (r14, S14)
  else none
def f6_body (kb : Int32 → Int32 → Int32 → Zs → Option (Int64 × Zs)) (x1 : Int32) (x2 : Int32) (x3 : Int32) (S : Zs) : Option (Int64 × Zs) :=
  if x3 ≤ (20 : Int32) then
    bd1 (f4_add x1 S) fun S13 =>
    if x1 = 10 then
      if inb x2 6 = true then
        some ((S13.1 (37 + 1) x2.toNatClampNeg).toInt64, S13)
      else none
    else
    if x1 = 11 then
      bd2 (kb (10 : Int32) x2 (x3 + (1 : Int32)) S13) fun r106 S106 =>
      bd2 (f6_markOf kb x2 (x3 + (1 : Int32)) S106) fun r114 S114 =>
      some (r106 + r114, S114)
    else
    if x1 = 12 then
      bd2 (kb (10 : Int32) x2 (x3 + (1 : Int32)) S13) fun r126 S126 =>
      bd1 (f5_makersBy 37 (37 + 7) S126 x2) fun r141 =>
      some (r126 * ((fJ_bitCount r141).toInt64), S126)
    else
    if x1 = 13 then
      bd2 (kb (12 : Int32) x2 (x3 + (1 : Int32)) S13) fun r157 S157 =>
      some (r157 - (1 : Int64), S157)
    else
    if x1 = 14 then
      bd2 (kb (11 : Int32) x2 (x3 + (1 : Int32)) S13) fun r170 S170 =>
      some (r170 * (2 : Int64), S170)
    else
    if x1 = 15 then
      bd2 (kb (14 : Int32) x2 (x3 + (1 : Int32)) S13) fun r185 S185 =>
      bd2 (f6_markOf kb x2 (x3 + (1 : Int32)) S185) fun r193 S193 =>
      some (r185 - r193, S193)
    else
    if x1 = 20 then
      some (x2.toInt64, S13)
    else
    if x1 = 21 then
      bd2 (kb (20 : Int32) x2 (x3 + (1 : Int32)) S13) fun r208 S208 =>
      bd1 (f5_firstMaker 37 S208 x2) fun r218 =>
      some (r208 + (((10 : Int32) * r218).toInt64), S208)
    else
    if x1 = 22 then
      bd2 (kb (20 : Int32) x2 (x3 + (1 : Int32)) S13) fun r232 S232 =>
      bd2 (f6_sizeOf kb x2 (x3 + (1 : Int32)) S232) fun r240 S240 =>
      some (r232 + r240, S240)
    else
    if x1 = 23 then
      bd2 (kb (21 : Int32) x2 (x3 + (1 : Int32)) S13) fun r252 S252 =>
      some (r252 + (100 : Int64), S252)
    else
      some ((0 : Int64), S13)
  else
    some ((0 : Int64), S)
def f6_bodyN : Nat → Int32 → Int32 → Int32 → Zs → Option (Int64 × Zs)
  | 0 => fun _ _ _ _ => none
  | n + 1 => f6_body (f6_bodyN n)
def f4_empty (S : Zs) : Option Zs :=
  lt_ (zI S 15 1 (0 : Int32)) fun S2 =>
  some S2
def f6_ask (x1 : Int32) (x2 : Int32) (S : Zs) : Option (Int64 × Zs) :=
  if f5_isGood 37 S x1 = 0 then
    some ((-9000000000000000001 : Int64), S)
  else
    if x2 < 0 then
      some ((-9000000000000000001 : Int64), S)
    else
      if x2 ≤ (1 : Int32) then
        bd1 (f4_empty S) fun S28 =>
        if x2 = 0 then
          bd2 (f6_sizeOf (f6_bodyN 10) x1 (0 : Int32) S28) fun r38 S38 =>
          some (r38, S38)
        else
          bd2 (f6_markOf (f6_bodyN 10) x1 (0 : Int32) S28) fun r47 S47 =>
          some (r47, S47)
      else
        some ((-9000000000000000001 : Int64), S)
def f4_at (S : Zs) (x1 : Int32) : Option Int32 :=
  if x1 < 0 then
    some (-1000000 : Int32)
  else
    if S.1 15 1 ≤ x1 then
      some (-1000000 : Int32)
    else
      if inb x1 16 = true then
        some (S.1 16 x1.toNatClampNeg)
      else none
def f6_trace (S : Zs) (x1 : Int32) : Option Int32 :=
  bd1 (f4_at S x1) fun r5 =>
  some r5
def f2_present_23 (S : Zs) (k4 : Int32 → Int32 → Option Int32) (x1 : Int32) (x2 : Int32) : Option Int32 :=
  lt_ (x2 + (1 : Int32)) fun v23 =>
  k4 x1 v23
def f2_present_4 (S : Zs) : Nat → Int32 → Int32 → Option Int32
  | 0 => fun _ _ => none
  | n + 1 => fun x1 x2 =>
    if (8 : Int32) ≤ x2 then
      some x1
    else
      if inb x2 8 = true then
        if S.1 12 x2.toNatClampNeg = (-1 : Int32) then
          f2_present_23 S (f2_present_4 S n) x1 x2
        else
          lt_ (x1 + (1 : Int32)) fun v20 =>
          f2_present_23 S (f2_present_4 S n) v20 x2
      else none
def f2_present (S : Zs) : Option Int32 :=
  f2_present_4 S fuel0 (0 : Int32) (0 : Int32)
def f5_allHands_4 (o : Nat) (S : Zs) : Nat → Int32 → Int32 → Option Int32
  | 0 => fun _ _ => none
  | n + 1 => fun x1 x2 =>
    if S.1 o 0 ≤ x2 then
      some x1
    else
      if inb x2 3 = true then
        lt_ (x1 + (S.1 (o + 2) x2.toNatClampNeg)) fun v20 =>
        lt_ (x2 + (1 : Int32)) fun v21 =>
        f5_allHands_4 o S n v20 v21
      else none
def f5_allHands (o : Nat) (S : Zs) : Option Int32 :=
  f5_allHands_4 o S fuel0 (0 : Int32) (0 : Int32)
def f6_commonGoods_27 (S : Zs) (k4 : Int32 → Int32 → Option Int64) (x1 : Int32) (x2 : Int32) : Option Int64 :=
  lt_ (x2 + (1 : Int32)) fun v27 =>
  k4 x1 v27
def f6_commonGoods_4 (S : Zs) : Nat → Int32 → Int32 → Option Int64
  | 0 => fun _ _ => none
  | n + 1 => fun x1 x2 =>
    if S.1 37 1 ≤ x2 then
      some x1.toInt64
    else
      bd1 (f6_isOfKind S x2 (2 : Int32)) fun r18 =>
      if r18 = 0 then
        f6_commonGoods_27 S (f6_commonGoods_4 S n) x1 x2
      else
        lt_ (x1 + (1 : Int32)) fun v24 =>
        f6_commonGoods_27 S (f6_commonGoods_4 S n) v24 x2
def f6_commonGoods (S : Zs) : Option Int64 :=
  f6_commonGoods_4 S fuel0 (0 : Int32) (0 : Int32)
def f6_count (S : Zs) (x1 : Int32) : Option Int64 :=
  if x1 = 0 then
    bd1 (f2_present S) fun r44 =>
    some r44.toInt64
  else
  if x1 = 1 then
    some ((S.1 37 0).toInt64)
  else
  if x1 = 2 then
    some ((S.1 37 1).toInt64)
  else
  if x1 = 3 then
    bd1 (f5_allHands 37 S) fun r71 =>
    some r71.toInt64
  else
  if x1 = 4 then
    bd1 (f6_commonGoods S) fun r77 =>
    some r77
  else
  if x1 = 5 then
    some ((S.1 13 1).toInt64)
  else
    some (-9000000000000000001 : Int64)
def f6_status (S : Zs) : Int32 :=
  S.1 0 11
