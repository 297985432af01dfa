/-! the reference: its methods as functions over the compressed world (decompiled by program out of the bytecode) -/
def f7_in (x0 : Int64) (x2 : Int64) (x4 : Int64) : Int32 :=
  if x0 < x2 then
    (0 : Int32)
  else
    if x4 < x0 then
      (0 : Int32)
    else
      (1 : Int32)
def f7_finding (x1 : Int32) (S : Zs) : Option (Int64 × Zs) :=
  lt_ (zI S 0 1 x1) fun S2 =>
  some ((-9000000000000000010 : Int64) - x1.toInt64, S2)
def f7_isRow (x0 : Int32) : Int32 :=
  f7_in x0.toInt64 (0 : Int64) (7 : Int64)
def f7_row_66 : Nat → Int32 → Int32 → Int32 → Zs → Option (Int64 × Zs)
  | 0 => fun _ _ _ _ => none
  | n + 1 => fun x1 x3 x4 S =>
    if (40 : Int32) ≤ x4 then
      some (x3.toInt64, S)
    else
      if inb (((40 : Int32) * x1) + x4) 320 = true then lt_ (zI S 3 (((40 : Int32) * x1) + x4).toNatClampNeg (0 : Int32)) fun S85 =>
        lt_ (x4 + (1 : Int32)) fun v86 =>
        f7_row_66 n x1 x3 v86 S85
      else none
def f7_row (x1 : Int32) (x2 : Int32) (x3 : Int32) (S : Zs) : Option (Int64 × Zs) :=
  lt_ (zI S 0 0 (0 : Int32)) fun S2 =>
  if f7_isRow x1 = 0 then
    some ((-9000000000000000001 : Int64), S2)
  else
    if f7_in x2.toInt64 (0 : Int64) (2 : Int64) = 0 then
      some ((-9000000000000000001 : Int64), S2)
    else
      if x3 ≤ (40 : Int32) then
        lt_ (zI S2 0 1 (0 : Int32)) fun S36 =>
        if 0 ≤ x3 then
          if inb x1 8 = true then lt_ (zI S36 1 x1.toNatClampNeg x2) fun S55 =>
            if inb x1 8 = true then lt_ (zI S55 2 x1.toNatClampNeg x3) fun S62 =>
              f7_row_66 fuel0 x1 x3 (0 : Int32) S62
            else none
          else none
        else
          bd2 (f7_finding (4 : Int32) S36) fun r45 S45 =>
          some (r45, S45)
      else
        some ((-9000000000000000001 : Int64), S2)
def f7_set_100 (x1 : Int32) (x2 : Int32) (t0 : Int32) (t1 : Int32) (S : Zs) : Option (Int64 × Zs) :=
  if inb t1 320 = true then lt_ (zI S 3 t1.toNatClampNeg t0) fun S100 =>
    if inb (((40 : Int32) * x1) + x2) 320 = true then
      some ((S100.1 3 (((40 : Int32) * x1) + x2).toNatClampNeg).toInt64, S100)
    else none
  else none
def f7_set (x1 : Int32) (x2 : Int32) (x3 : Int32) (S : Zs) : Option (Int64 × Zs) :=
  lt_ (zI S 0 0 (0 : Int32)) fun S2 =>
  if f7_isRow x1 = 0 then
    some ((-9000000000000000001 : Int64), S2)
  else
    lt_ (zI S2 0 1 (0 : Int32)) fun S18 =>
    if inb x1 8 = true then
      if 0 ≤ S18.1 1 x1.toNatClampNeg then
        if inb x1 8 = true then
          if f7_in x2.toInt64 (0 : Int64) (((S18.1 2 x1.toNatClampNeg) - (1 : Int32)).toInt64) = 0 then
            bd2 (f7_finding (2 : Int32) S18) fun r56 S56 =>
            some (r56, S56)
          else
            if inb x1 8 = true then
              if S18.1 1 x1.toNatClampNeg = 0 then
                f7_set_100 x1 x2 x3.toInt8.toInt32 (((40 : Int32) * x1) + x2) S18
              else
                if inb x1 8 = true then
                  if S18.1 1 x1.toNatClampNeg = (1 : Int32) then
                    f7_set_100 x1 x2 x3.toInt16.toInt32 (((40 : Int32) * x1) + x2) S18
                  else
                    f7_set_100 x1 x2 x3 (((40 : Int32) * x1) + x2) S18
                else none
            else none
        else none
      else
        bd2 (f7_finding (1 : Int32) S18) fun r32 S32 =>
        some (r32, S32)
    else none
def f7_copy_46 (S : Zs) : Option (Int64 × Zs) :=
  bd2 (f7_finding (1 : Int32) S) fun r48 S48 =>
  some (r48, S48)
def f7_copy_122 (S : Zs) : Option (Int64 × Zs) :=
  bd2 (f7_finding (2 : Int32) S) fun r124 S124 =>
  some (r124, S124)
def f7_copy_168 (k144 : Int32 → Int32 → Int32 → Int32 → Int32 → Int32 → Int32 → Zs → Option (Int64 × Zs)) (x1 : Int32) (x2 : Int32) (x3 : Int32) (x4 : Int32) (x5 : Int32) (x6 : Int32) (x7 : Int32) (t0 : Int32) (S : Zs) : Option (Int64 × Zs) :=
  if inb ((((40 : Int32) * x1) + x2) + t0) 320 = true then
    if inb ((((40 : Int32) * x3) + x4) + t0) 320 = true then lt_ (zI S 3 ((((40 : Int32) * x3) + x4) + t0).toNatClampNeg (S.1 3 ((((40 : Int32) * x1) + x2) + t0).toNatClampNeg)) fun S198 =>
      lt_ (x7 + (1 : Int32)) fun v199 =>
      k144 x1 x2 x3 x4 x5 x6 v199 S198
    else none
  else none
def f7_copy_144 : Nat → Int32 → Int32 → Int32 → Int32 → Int32 → Int32 → Int32 → Zs → Option (Int64 × Zs)
  | 0 => fun _ _ _ _ _ _ _ _ => none
  | n + 1 => fun x1 x2 x3 x4 x5 x6 x7 S =>
    if x5 ≤ x7 then
      some (x5.toInt64, S)
    else
      if x6 = 0 then
        f7_copy_168 (f7_copy_144 n) x1 x2 x3 x4 x5 x6 x7 ((x5 - (1 : Int32)) - x7) S
      else
        f7_copy_168 (f7_copy_144 n) x1 x2 x3 x4 x5 x6 x7 x7 S
def f7_copy_139 (x1 : Int32) (x2 : Int32) (x3 : Int32) (x4 : Int32) (x5 : Int32) (t0 : Int32) (S : Zs) : Option (Int64 × Zs) :=
  f7_copy_144 fuel0 x1 x2 x3 x4 x5 t0 (0 : Int32) S
def f7_copy (x1 : Int32) (x2 : Int32) (x3 : Int32) (x4 : Int32) (x5 : Int32) (S : Zs) : Option (Int64 × Zs) :=
  lt_ (zI S 0 0 (0 : Int32)) fun S2 =>
  if f7_isRow x1 = 0 then
    some ((-9000000000000000001 : Int64), S2)
  else
    if f7_isRow x3 = 0 then
      some ((-9000000000000000001 : Int64), S2)
    else
      lt_ (zI S2 0 1 (0 : Int32)) fun S25 =>
      if inb x1 8 = true then
        if S25.1 1 x1.toNatClampNeg < 0 then
          f7_copy_46 S25
        else
          if inb x3 8 = true then
            if 0 ≤ S25.1 1 x3.toNatClampNeg then
              if inb x1 8 = true then
                if inb x3 8 = true then
                  if S25.1 1 x1.toNatClampNeg = S25.1 1 x3.toNatClampNeg then
                    if x2 < 0 then
                      f7_copy_122 S25
                    else
                      if x4 < 0 then
                        f7_copy_122 S25
                      else
                        if x5 < 0 then
                          f7_copy_122 S25
                        else
                          if inb x1 8 = true then
                            if (S25.1 2 x1.toNatClampNeg).toInt64 < x2.toInt64 + x5.toInt64 then
                              f7_copy_122 S25
                            else
                              if inb x3 8 = true then
                                if x4.toInt64 + x5.toInt64 ≤ (S25.1 2 x3.toNatClampNeg).toInt64 then
                                  if x2 < x4 then
                                    f7_copy_139 x1 x2 x3 x4 x5 (0 : Int32) S25
                                  else
                                    f7_copy_139 x1 x2 x3 x4 x5 (1 : Int32) S25
                                else
                                  f7_copy_122 S25
                              else none
                          else none
                  else
                    bd2 (f7_finding (5 : Int32) S25) fun r69 S69 =>
                    some (r69, S69)
                else none
              else none
            else
              f7_copy_46 S25
          else none
      else none
def f7_drop (x1 : Int32) (S : Zs) : Option (Int64 × Zs) :=
  lt_ (zI S 0 0 (0 : Int32)) fun S2 =>
  if f7_isRow x1 = 0 then
    some ((-9000000000000000001 : Int64), S2)
  else
    lt_ (zI S2 0 1 (0 : Int32)) fun S18 =>
    if inb x1 8 = true then
      if 0 ≤ S18.1 1 x1.toNatClampNeg then
        if inb x1 8 = true then lt_ (zI S18 1 x1.toNatClampNeg (-1 : Int32)) fun S42 =>
          if inb x1 8 = true then
            some ((S42.1 2 x1.toNatClampNeg).toInt64, S42)
          else none
        else none
      else
        bd2 (f7_finding (1 : Int32) S18) fun r32 S32 =>
        some (r32, S32)
    else none
def f7_lookItems_35 (S : Zs) : Option (Int64 × Zs) :=
  bd2 (f7_finding (2 : Int32) S) fun r37 S37 =>
  some (r37, S37)
def f7_lookItems (x1 : Int32) (x2 : Int32) (x3 : Int32) (S : Zs) : Option (Int64 × Zs) :=
  if inb x1 8 = true then
    if 0 ≤ S.1 1 x1.toNatClampNeg then
      if x2 < 0 then
        f7_lookItems_35 S
      else
        if inb x1 8 = true then
          if x2.toInt64 + x3.toInt64 ≤ (S.1 2 x1.toNatClampNeg).toInt64 then
            some ((0 : Int64), S)
          else
            f7_lookItems_35 S
        else none
    else
      bd2 (f7_finding (1 : Int32) S) fun r11 S11 =>
      some (r11, S11)
  else none
def f7_feed_42 : Nat → Int64 → Int32 → Zs → Option (Int64 × Zs)
  | 0 => fun _ _ _ => none
  | n + 1 => fun x1 x4 S =>
    if x4 < 0 then
      some ((S.1 0 16).toInt64, S)
    else
      if inb (S.1 0 16) 400 = true then lt_ (zI S 10 (S.1 0 16).toNatClampNeg (((x1 >>> (((8 : Int32) * x4).toInt64 &&& 63)) &&& (255 : Int64)).toInt32)) fun S67 =>
        lt_ (zI S67 0 16 ((S67.1 0 16) + (1 : Int32))) fun S75 =>
        lt_ (x4 + (-1 : Int32)) fun v78 =>
        f7_feed_42 n x1 v78 S75
      else none
def f7_feed (x1 : Int64) (x3 : Int32) (S : Zs) : Option (Int64 × Zs) :=
  lt_ (zI S 0 0 (0 : Int32)) fun S2 =>
  if f7_in x3.toInt64 (1 : Int64) (8 : Int64) = 0 then
    some ((-9000000000000000001 : Int64), S2)
  else
    if (S2.1 0 16) + x3 ≤ (400 : Int32) then
      lt_ (x3 - (1 : Int32)) fun v40 =>
      f7_feed_42 fuel0 x1 v40 S2
    else
      some ((-9000000000000000003 : Int64), S2)
def f7_byteAt (S : Zs) (x1 : Int32) : Option Int32 :=
  if S.1 0 18 ≤ x1 then
    some (-1000000 : Int32)
  else
    if inb x1 400 = true then
      some (S.1 10 x1.toNatClampNeg)
    else none
def f7_isLetter (x0 : Int32) : Int32 :=
  if x0 < (97 : Int32) then
    (0 : Int32)
  else
    if (122 : Int32) < x0 then
      (0 : Int32)
    else
      (1 : Int32)
def f7_isFigure (x0 : Int32) : Int32 :=
  if x0 < (48 : Int32) then
    (0 : Int32)
  else
    if (57 : Int32) < x0 then
      (0 : Int32)
    else
      (1 : Int32)
def f7_next_26 (k0 : Zs → Option Zs) (S : Zs) : Option Zs :=
  lt_ (zI S 0 19 ((S.1 0 19) + (1 : Int32))) fun S33 =>
  k0 S33
def f7_next_196 (S : Zs) : Option Zs :=
  lt_ (zI S 0 22 (S.1 0 19)) fun S201 =>
  some S201
def f7_next_193 (t0 : Int32) (S : Zs) : Option Zs :=
  lt_ (zI S 0 20 t0) fun S193 =>
  f7_next_196 S193
def f7_next_165 (t0 : Int32) (S : Zs) : Option Zs :=
  lt_ (zI S 0 20 t0) fun S165 =>
  f7_next_196 S165
def f7_next_119 : Nat → Zs → Option Zs
  | 0 => fun _ => none
  | n + 1 => fun S =>
    bd1 (f7_byteAt S (S.1 0 19)) fun r124 =>
    if f7_isFigure r124 = 0 then
      if (S.1 0 19) - (S.1 0 21) ≤ (2 : Int32) then
        f7_next_165 (3 : Int32) S
      else
        f7_next_165 (0 : Int32) S
    else
      lt_ (zI S 0 19 ((S.1 0 19) + (1 : Int32))) fun S140 =>
      f7_next_119 n S140
def f7_next_77 : Nat → Zs → Option Zs
  | 0 => fun _ => none
  | n + 1 => fun S =>
    bd1 (f7_byteAt S (S.1 0 19)) fun r82 =>
    if f7_isLetter r82 = 0 then
      lt_ (zI S 0 20 (2 : Int32)) fun S106 =>
      f7_next_196 S106
    else
      lt_ (zI S 0 19 ((S.1 0 19) + (1 : Int32))) fun S98 =>
      f7_next_77 n S98
def f7_next_0 : Nat → Zs → Option Zs
  | 0 => fun _ => none
  | n + 1 => fun S =>
    bd1 (f7_byteAt S (S.1 0 19)) fun r5 =>
    if r5 = (32 : Int32) then
      f7_next_26 (f7_next_0 n) S
    else
      bd1 (f7_byteAt S (S.1 0 19)) fun r18 =>
      if r18 = (10 : Int32) then
        f7_next_26 (f7_next_0 n) S
      else
        lt_ (zI S 0 21 (S.1 0 19)) fun S44 =>
        bd1 (f7_byteAt S44 (S44.1 0 19)) fun r52 =>
        if r52 = (-1000000 : Int32) then
          lt_ (zI S44 0 20 (1 : Int32)) fun S64 =>
          f7_next_196 S64
        else
          if f7_isLetter r52 = 0 then
            if f7_isFigure r52 = 0 then
              lt_ (zI S44 0 19 ((S44.1 0 19) + (1 : Int32))) fun S178 =>
              if r52 = (59 : Int32) then
                f7_next_193 (4 : Int32) S178
              else
                f7_next_193 (0 : Int32) S178
            else
              f7_next_119 fuel0 S44
          else
            f7_next_77 fuel0 S44
def f7_next (S : Zs) : Option Zs :=
  f7_next_0 fuel0 S
def f7_bad (x1 : Int32) (S : Zs) : Option Zs :=
  if S.1 0 23 = 0 then
    lt_ (zI S 0 23 x1) fun S9 =>
    lt_ (zI S9 0 24 (S9.1 0 21)) fun S17 =>
    some S17
  else
    some S
def f7_must_9 (S : Zs) : Option Zs :=
  if S.1 0 23 = 0 then
    bd1 (f7_next S) fun S17 =>
    some S17
  else
    some S
def f7_must (x1 : Int32) (S : Zs) : Option Zs :=
  if x1 = 0 then
    bd1 (f7_bad (1 : Int32) S) fun S6 =>
    f7_must_9 S6
  else
    f7_must_9 S
def f7_word_7 (S : Zs) : Nat → Int64 → Int32 → Option Int64
  | 0 => fun _ _ => none
  | n + 1 => fun x1 x3 =>
    if S.1 0 22 ≤ x3 then
      some x1
    else
      if S.1 0 20 = (2 : Int32) then
        if (8 : Int32) ≤ (S.1 0 22) - (S.1 0 21) then
          some x1
        else
          if inb x3 400 = true then
            lt_ ((x1 <<< ((8 : Int32).toInt64 &&& 63)) ||| ((S.1 10 x3.toNatClampNeg).toInt64)) fun v49 =>
            lt_ (x3 + (1 : Int32)) fun v50 =>
            f7_word_7 S n v49 v50
          else none
      else
        some x1
def f7_word (S : Zs) : Option Int64 :=
  lt_ (S.1 0 21) fun v6 =>
  f7_word_7 S fuel0 (0 : Int64) v6
def f7_numberTo_91 (x2 : Int32) (t0 : Int32) (S : Zs) : Option (Int32 × Zs) :=
  bd1 (f7_must t0 S) fun S91 =>
  some (x2, S91)
def f7_numberTo_77 (x2 : Int32) (S : Zs) : Option (Int32 × Zs) :=
  if S.1 0 20 = (3 : Int32) then
    f7_numberTo_91 x2 (1 : Int32) S
  else
    f7_numberTo_91 x2 (0 : Int32) S
def f7_numberTo_53 (x1 : Int32) (x2 : Int32) (S : Zs) : Option (Int32 × Zs) :=
  if S.1 0 20 = (3 : Int32) then
    if f7_in x2.toInt64 (1 : Int64) x1.toInt64 = 0 then
      bd1 (f7_bad (2 : Int32) S) fun S74 =>
      f7_numberTo_77 x2 S74
    else
      f7_numberTo_77 x2 S
  else
    f7_numberTo_77 x2 S
def f7_numberTo_16 : Nat → Int32 → Int32 → Int32 → Zs → Option (Int32 × Zs)
  | 0 => fun _ _ _ _ => none
  | n + 1 => fun x1 x2 x3 S =>
    if S.1 0 22 ≤ x3 then
      f7_numberTo_53 x1 x2 S
    else
      if S.1 0 20 = (3 : Int32) then
        if inb x3 400 = true then
          lt_ ((((10 : Int32) * x2) + (S.1 10 x3.toNatClampNeg)) - (48 : Int32)) fun v46 =>
          lt_ (x3 + (1 : Int32)) fun v47 =>
          f7_numberTo_16 n x1 v46 v47 S
        else none
      else
        f7_numberTo_53 x1 x2 S
def f7_numberTo (x1 : Int32) (S : Zs) : Option (Int32 × Zs) :=
  if S.1 0 23 ≤ 0 then
    lt_ (S.1 0 21) fun v15 =>
    f7_numberTo_16 fuel0 x1 (0 : Int32) v15 S
  else
    some ((0 : Int32), S)
def f7_isWord (S : Zs) (x1 : Int64) : Option Int32 :=
  if S.1 0 23 = 0 then
    bd1 (f7_word S) fun r8 =>
    if r8 = x1 then
      some (1 : Int32)
    else
      some (0 : Int32)
  else
    some (0 : Int32)
def f7_mustEnd_21 (t0 : Int32) (S : Zs) : Option Zs :=
  bd1 (f7_must t0 S) fun S21 =>
  some S21
def f7_mustEnd (S : Zs) : Option Zs :=
  if S.1 0 23 = 0 then
    if S.1 0 20 = (4 : Int32) then
      f7_mustEnd_21 (1 : Int32) S
    else
      f7_mustEnd_21 (0 : Int32) S
  else
    some S
def f7_readGood_69 (S : Zs) : Option Zs :=
  bd1 (f7_mustEnd S) fun S70 =>
  some S70
def f7_readGood_24 (S : Zs) : Option Zs :=
  bd1 (f7_isWord S (1735356260 : Int64)) fun r29 =>
  bd1 (f7_must r29 S) fun S32 =>
  bd2 (f7_numberTo (20 : Int32) S32) fun r38 S38 =>
  if S38.1 0 23 = 0 then
    if inb (S38.1 0 11) 6 = true then lt_ (zI S38 7 (S38.1 0 11).toNatClampNeg r38) fun S58 =>
      lt_ (zI S58 0 11 ((S58.1 0 11) + (1 : Int32))) fun S66 =>
      f7_readGood_69 S66
    else none
  else
    f7_readGood_69 S38
def f7_readGood (S : Zs) : Option Zs :=
  bd1 (f7_isWord S (1735356260 : Int64)) fun r4 =>
  if r4 = 0 then
    f7_readGood_24 S
  else
    if S.1 0 11 = (6 : Int32) then
      bd1 (f7_bad (3 : Int32) S) fun S21 =>
      f7_readGood_24 S21
    else
      f7_readGood_24 S
def f7_readLand_113 (S : Zs) : Option Zs :=
  bd1 (f7_mustEnd S) fun S114 =>
  some S114
def f7_readLand_80 (k43 : Int32 → Int32 → Zs → Option Zs) (x1 : Int32) (x2 : Int32) (S : Zs) : Option Zs :=
  lt_ (x2 + (1 : Int32)) fun v80 =>
  k43 x1 v80 S
def f7_readLand_43 : Nat → Int32 → Int32 → Zs → Option Zs
  | 0 => fun _ _ _ => none
  | n + 1 => fun x1 x2 S =>
    if S.1 0 11 ≤ x2 then
      if S.1 0 23 = 0 then
        if inb (S.1 0 10) 3 = true then lt_ (zI S 8 (S.1 0 10).toNatClampNeg x1) fun S102 =>
          lt_ (zI S102 0 10 ((S102.1 0 10) + (1 : Int32))) fun S110 =>
          f7_readLand_113 S110
        else none
      else
        f7_readLand_113 S
    else
      bd2 (f7_numberTo (20 : Int32) S) fun r54 S54 =>
      if S54.1 0 23 = 0 then
        if inb (((6 : Int32) * (S54.1 0 10)) + x2) 18 = true then lt_ (zI S54 9 (((6 : Int32) * (S54.1 0 10)) + x2).toNatClampNeg r54) fun S79 =>
          f7_readLand_80 (f7_readLand_43 n) x1 x2 S79
        else none
      else
        f7_readLand_80 (f7_readLand_43 n) x1 x2 S54
def f7_readLand_23 (S : Zs) : Option Zs :=
  bd1 (f7_isWord S (1818324580 : Int64)) fun r28 =>
  bd1 (f7_must r28 S) fun S31 =>
  bd2 (f7_numberTo (99 : Int32) S31) fun r37 S37 =>
  f7_readLand_43 fuel0 r37 (0 : Int32) S37
def f7_readLand (S : Zs) : Option Zs :=
  bd1 (f7_isWord S (1818324580 : Int64)) fun r4 =>
  if r4 = 0 then
    f7_readLand_23 S
  else
    if S.1 0 10 = (3 : Int32) then
      bd1 (f7_bad (3 : Int32) S) fun S20 =>
      f7_readLand_23 S20
    else
      f7_readLand_23 S
def f7_world_139 : Nat → Int32 → Zs → Option (Int64 × Zs)
  | 0 => fun _ _ => none
  | n + 1 => fun x1 S =>
    if (18 : Int32) ≤ x1 then
      lt_ (zI S 0 25 (0 : Int32)) fun S199 =>
      lt_ (zI S199 0 29 (0 : Int32)) fun S204 =>
      some ((S204.1 0 5).toInt64, S204)
    else
      if inb x1 18 = true then
        if inb x1 18 = true then lt_ (zI S 6 x1.toNatClampNeg (S.1 9 x1.toNatClampNeg)) fun S156 =>
          if (6 : Int32) = 0 then none else
          if (6 : Int32) = 0 then none else
          if inb (x1 - x1 / (6 : Int32) * (6 : Int32)) 6 = true then
            if inb (x1 - x1 / (6 : Int32) * (6 : Int32)) 6 = true then lt_ (zI S156 4 (x1 - x1 / (6 : Int32) * (6 : Int32)).toNatClampNeg (S156.1 7 (x1 - x1 / (6 : Int32) * (6 : Int32)).toNatClampNeg)) fun S174 =>
              if (3 : Int32) = 0 then none else
              if (3 : Int32) = 0 then none else
              if inb (x1 - x1 / (3 : Int32) * (3 : Int32)) 3 = true then
                if inb (x1 - x1 / (3 : Int32) * (3 : Int32)) 3 = true then lt_ (zI S174 5 (x1 - x1 / (3 : Int32) * (3 : Int32)).toNatClampNeg (S174.1 8 (x1 - x1 / (3 : Int32) * (3 : Int32)).toNatClampNeg)) fun S190 =>
                  lt_ (x1 + (1 : Int32)) fun v191 =>
                  f7_world_139 n v191 S190
                else none
              else none
            else none
          else none
        else none
      else none
def f7_world_96 (S : Zs) : Option (Int64 × Zs) :=
  if S.1 0 23 ≤ 0 then
    lt_ (zI S 0 5 (S.1 0 10)) fun S126 =>
    lt_ (zI S126 0 6 (S126.1 0 11)) fun S134 =>
    f7_world_139 fuel0 (0 : Int32) S134
  else
    lt_ (zI S 0 17 (S.1 0 23)) fun S108 =>
    some ((-9000000000000000100 : Int64) - ((S108.1 0 24).toInt64), S108)
def f7_world_74 : Nat → Zs → Option (Int64 × Zs)
  | 0 => fun _ => none
  | n + 1 => fun S =>
    if S.1 0 23 = 0 then
      if S.1 0 20 = (1 : Int32) then
        f7_world_96 S
      else
        bd1 (f7_readLand S) fun S90 =>
        f7_world_74 n S90
    else
      f7_world_96 S
def f7_world_46 : Nat → Zs → Option (Int64 × Zs)
  | 0 => fun _ => none
  | n + 1 => fun S =>
    bd1 (f7_isWord S (1735356260 : Int64)) fun r50 =>
    if r50 = 0 then
      if S.1 0 23 = 0 then
        bd1 (f7_readLand S) fun S71 =>
        f7_world_74 fuel0 S71
      else
        f7_world_74 fuel0 S
    else
      bd1 (f7_readGood S) fun S57 =>
      f7_world_46 n S57
def f7_world (S : Zs) : Option (Int64 × Zs) :=
  lt_ (zI S 0 0 (0 : Int32)) fun S2 =>
  lt_ (zI S2 0 18 (S2.1 0 16)) fun S10 =>
  lt_ (zI S10 0 16 (0 : Int32)) fun S15 =>
  lt_ (zI S15 0 19 (0 : Int32)) fun S20 =>
  lt_ (zI S20 0 23 (0 : Int32)) fun S25 =>
  lt_ (zI S25 0 10 (0 : Int32)) fun S30 =>
  lt_ (zI S30 0 11 (0 : Int32)) fun S35 =>
  bd1 (f7_next S35) fun S39 =>
  bd1 (f7_readGood S39) fun S43 =>
  f7_world_46 fuel0 S43
def f7_fault (S : Zs) : Option (Int32 × Zs) :=
  lt_ (zI S 0 0 (0 : Int32)) fun S2 =>
  some (S2.1 0 17, S2)
def f7_isLand (S : Zs) (x1 : Int32) : Int32 :=
  f7_in x1.toInt64 (0 : Int64) (((S.1 0 5) - (1 : Int32)).toInt64)
def f7_isGood (S : Zs) (x1 : Int32) : Int32 :=
  f7_in x1.toInt64 (0 : Int64) (((S.1 0 6) - (1 : Int32)).toInt64)
def f7_told (x1 : Int32) (x2 : Int32) (x3 : Int32) (S : Zs) : Option (Int64 × Zs) :=
  lt_ (zI S 0 0 (0 : Int32)) fun S2 =>
  if f7_isLand S2 x1 = 0 then
    some ((-9000000000000000001 : Int64), S2)
  else
    if f7_isGood S2 x2 = 0 then
      some ((-9000000000000000001 : Int64), S2)
    else
      if f7_in x3.toInt64 (0 : Int64) (2 : Int64) = 0 then
        some ((-9000000000000000001 : Int64), S2)
      else
        if x3 = 0 then
          if inb (((6 : Int32) * x1) + x2) 18 = true then
            some ((S2.1 6 (((6 : Int32) * x1) + x2).toNatClampNeg).toInt64, S2)
          else none
        else
          if x3 = (1 : Int32) then
            if inb x1 3 = true then
              some ((S2.1 5 x1.toNatClampNeg).toInt64, S2)
            else none
          else
            if inb x2 6 = true then
              some ((S2.1 4 x2.toNatClampNeg).toInt64, S2)
            else none
def f7_counts (x1 : Int32) (x2 : Int32) : Int32 :=
  if (x1 >>> (x2 &&& 31)) &&& (1 : Int32) = (1 : Int32) then
    (1 : Int32)
  else
    (0 : Int32)
def f7_costOf (S : Zs) (x1 : Int32) (x2 : Int32) : Option Int64 :=
  if inb (((6 : Int32) * x1) + x2) 18 = true then
    if inb x1 3 = true then
      some (((S.1 6 (((6 : Int32) * x1) + x2).toNatClampNeg).toInt64) * (S.2 11 x1.toNatClampNeg))
    else none
  else none
def f7_priceOf_55 (S : Zs) (k7 : Int32 → Int32 → Int64 → Int32 → Option Int64) (x1 : Int32) (x2 : Int32) (x5 : Int32) (t0 : Int64) : Option Int64 :=
  lt_ (x5 + (1 : Int32)) fun v56 =>
  k7 x1 x2 t0 v56
def f7_priceOf_54 (S : Zs) (k7 : Int32 → Int32 → Int64 → Int32 → Option Int64) (x1 : Int32) (x2 : Int32) (x3 : Int64) (x5 : Int32) : Option Int64 :=
  f7_priceOf_55 S k7 x1 x2 x5 x3
def f7_priceOf_44 (S : Zs) (k7 : Int32 → Int32 → Int64 → Int32 → Option Int64) (x1 : Int32) (x2 : Int32) (x5 : Int32) : Option Int64 :=
  bd1 (f7_costOf S x5 x2) fun r48 =>
  f7_priceOf_55 S k7 x1 x2 x5 r48
def f7_priceOf_7 (S : Zs) : Nat → Int32 → Int32 → Int64 → Int32 → Option Int64
  | 0 => fun _ _ _ _ => none
  | n + 1 => fun x1 x2 x3 x5 =>
    if S.1 0 5 ≤ x5 then
      some x3
    else
      if f7_counts x1 x5 = 0 then
        f7_priceOf_54 S (f7_priceOf_7 S n) x1 x2 x3 x5
      else
        if x3 < (0 : Int64) then
          f7_priceOf_44 S (f7_priceOf_7 S n) x1 x2 x5
        else
          bd1 (f7_costOf S x5 x2) fun r36 =>
          if x3 ≤ r36 then
            f7_priceOf_54 S (f7_priceOf_7 S n) x1 x2 x3 x5
          else
            f7_priceOf_44 S (f7_priceOf_7 S n) x1 x2 x5
def f7_priceOf (S : Zs) (x1 : Int32) (x2 : Int32) : Option Int64 :=
  f7_priceOf_7 S fuel0 x1 x2 (-1 : Int64) (0 : Int32)
def f7_makersOf_54 (S : Zs) (k13 : Int32 → Int32 → Int64 → Int32 → Int32 → Option Int32) (x1 : Int32) (x2 : Int32) (x3 : Int64) (x6 : Int32) (t0 : Int32) (t1 : Int32) : Option Int32 :=
  lt_ (t1 ||| t0) fun v55 =>
  lt_ (x6 + (1 : Int32)) fun v57 =>
  k13 x1 x2 x3 v55 v57
def f7_makersOf_53 (S : Zs) (k13 : Int32 → Int32 → Int64 → Int32 → Int32 → Option Int32) (x1 : Int32) (x2 : Int32) (x3 : Int64) (x6 : Int32) (t0 : Int32) : Option Int32 :=
  f7_makersOf_54 S k13 x1 x2 x3 x6 (0 : Int32) t0
def f7_makersOf_13 (S : Zs) : Nat → Int32 → Int32 → Int64 → Int32 → Int32 → Option Int32
  | 0 => fun _ _ _ _ _ => none
  | n + 1 => fun x1 x2 x3 x5 x6 =>
    if S.1 0 5 ≤ x6 then
      some x5
    else
      if f7_counts x1 x6 = 0 then
        f7_makersOf_53 S (f7_makersOf_13 S n) x1 x2 x3 x6 x5
      else
        bd1 (f7_costOf S x6 x2) fun r38 =>
        if r38 = x3 then
          f7_makersOf_54 S (f7_makersOf_13 S n) x1 x2 x3 x6 ((1 : Int32) <<< (x6 &&& 31)) x5
        else
          f7_makersOf_53 S (f7_makersOf_13 S n) x1 x2 x3 x6 x5
def f7_makersOf (S : Zs) (x1 : Int32) (x2 : Int32) : Option Int32 :=
  bd1 (f7_priceOf S x1 x2) fun r3 =>
  f7_makersOf_13 S fuel0 x1 x2 r3 (0 : Int32) (0 : Int32)
def f7_allShares_4 (S : Zs) : Nat → Int32 → Int32 → Option Int32
  | 0 => fun _ _ => none
  | n + 1 => fun x1 x2 =>
    if S.1 0 6 ≤ x2 then
      some x1
    else
      if inb x2 6 = true then
        lt_ (x1 + (S.1 4 x2.toNatClampNeg)) fun v20 =>
        lt_ (x2 + (1 : Int32)) fun v21 =>
        f7_allShares_4 S n v20 v21
      else none
def f7_allShares (S : Zs) : Option Int32 :=
  f7_allShares_4 S fuel0 (0 : Int32) (0 : Int32)
def f7_incomeOf_45 (S : Zs) (k5 : Int32 → Int64 → Int32 → Option Int64) (x1 : Int32) (x4 : Int32) (t0 : Int64) (t1 : Int64) : Option Int64 :=
  lt_ (t1 + t0) fun v46 =>
  lt_ (x4 + (1 : Int32)) fun v47 =>
  k5 x1 v46 v47
def f7_incomeOf_5 (S : Zs) : Nat → Int32 → Int64 → Int32 → Option Int64
  | 0 => fun _ _ _ => none
  | n + 1 => fun x1 x2 x4 =>
    if S.1 0 5 ≤ x4 then
      some x2
    else
      if f7_counts x1 x4 = 0 then
        f7_incomeOf_45 S (f7_incomeOf_5 S n) x1 x4 (0 : Int64) x2
      else
        if inb x4 3 = true then
          if inb x4 3 = true then
            f7_incomeOf_45 S (f7_incomeOf_5 S n) x1 x4 (((S.1 5 x4.toNatClampNeg).toInt64) * (S.2 11 x4.toNatClampNeg)) x2
          else none
        else none
def f7_incomeOf (S : Zs) (x1 : Int32) : Option Int64 :=
  f7_incomeOf_5 S fuel0 x1 (0 : Int64) (0 : Int32)
def f7_idleOf_130 (k41 : Int32 → Int64 → Int32 → Zs → Option (Int32 × Zs)) (x1 : Int32) (x2 : Int64) (x4 : Int32) (S : Zs) : Option (Int32 × Zs) :=
  lt_ (x4 + (1 : Int32)) fun v130 =>
  k41 x1 x2 v130 S
def f7_idleOf_97 (k41 : Int32 → Int64 → Int32 → Zs → Option (Int32 × Zs)) (k62 : Int32 → Int64 → Int32 → Int32 → Int32 → Zs → Option (Int32 × Zs)) (x1 : Int32) (x2 : Int64) (x4 : Int32) (x6 : Int32) (t0 : Int32) (t1 : Int32) (S : Zs) : Option (Int32 × Zs) :=
  lt_ (t1 + t0) fun v98 =>
  lt_ (x6 + (1 : Int32)) fun v100 =>
  k62 x1 x2 x4 v98 v100 S
def f7_idleOf_62 (k41 : Int32 → Int64 → Int32 → Zs → Option (Int32 × Zs)) : Nat → Int32 → Int64 → Int32 → Int32 → Int32 → Zs → Option (Int32 × Zs)
  | 0 => fun _ _ _ _ _ _ => none
  | n + 1 => fun x1 x2 x4 x5 x6 S =>
    if S.1 0 6 ≤ x6 then
      bd1 (f7_incomeOf S x4) fun r109 =>
      bd1 (f7_allShares S) fun r113 =>
      if r109 * r113.toInt64 ≤ x2 * x5.toInt64 then
        f7_idleOf_130 k41 x1 x2 x4 S
      else
        some (x4, S)
    else
      if inb x6 6 = true then
        if (S.1 12 x6.toNatClampNeg) &&& x4 = 0 then
          f7_idleOf_97 k41 (f7_idleOf_62 k41 n) x1 x2 x4 x6 (0 : Int32) x5 S
        else
          if inb x6 6 = true then
            f7_idleOf_97 k41 (f7_idleOf_62 k41 n) x1 x2 x4 x6 (S.1 4 x6.toNatClampNeg) x5 S
          else none
      else none
def f7_idleOf_41 : Nat → Int32 → Int64 → Int32 → Zs → Option (Int32 × Zs)
  | 0 => fun _ _ _ _ => none
  | n + 1 => fun x1 x2 x4 S =>
    if x1 < x4 then
      some ((0 : Int32), S)
    else
      if x4 &&& (x1 ^^^ (-1 : Int32)) = 0 then
        f7_idleOf_62 (f7_idleOf_41 n) fuel0 x1 x2 x4 (0 : Int32) (0 : Int32) S
      else
        f7_idleOf_130 (f7_idleOf_41 n) x1 x2 x4 S
def f7_idleOf_9 : Nat → Int32 → Int64 → Int32 → Zs → Option (Int32 × Zs)
  | 0 => fun _ _ _ _ => none
  | n + 1 => fun x1 x2 x4 S =>
    if S.1 0 6 ≤ x4 then
      f7_idleOf_41 fuel0 x1 x2 (1 : Int32) S
    else
      bd1 (f7_makersOf S x1 x4) fun r28 =>
      if inb x4 6 = true then lt_ (zI S 12 x4.toNatClampNeg r28) fun S31 =>
        lt_ (x4 + (1 : Int32)) fun v32 =>
        f7_idleOf_9 n x1 x2 v32 S31
      else none
def f7_idleOf (x1 : Int32) (S : Zs) : Option (Int32 × Zs) :=
  bd1 (f7_incomeOf S x1) fun r2 =>
  f7_idleOf_9 fuel0 x1 r2 (0 : Int32) S
def f7_isRest (x1 : Int32) (x2 : Int64) (x4 : Int64) (x6 : Int64) (S : Zs) : Option (Int32 × Zs) :=
  if inb (0 : Int32) 3 = true then lt_ (zL S 11 (0 : Int32).toNatClampNeg x2) fun S6 =>
    if inb (1 : Int32) 3 = true then lt_ (zL S6 11 (1 : Int32).toNatClampNeg x4) fun S14 =>
      if inb (2 : Int32) 3 = true then lt_ (zL S14 11 (2 : Int32).toNatClampNeg x6) fun S22 =>
        if x2 ≤ (0 : Int64) then
          some ((0 : Int32), S22)
        else
          if x4 ≤ (0 : Int64) then
            some ((0 : Int32), S22)
          else
            if x6 ≤ (0 : Int64) then
              some ((0 : Int32), S22)
            else
              bd2 (f7_idleOf x1 S22) fun r45 S45 =>
              if r45 = 0 then
                some ((1 : Int32), S45)
              else
                some ((0 : Int32), S45)
      else none
    else none
  else none
def f7_isRowAtRest (x1 : Int32) (S : Zs) : Option (Int32 × Zs) :=
  if inb (0 : Int32) 3 = true then
    if inb (1 : Int32) 3 = true then
      if inb (2 : Int32) 3 = true then
        bd2 (f7_isRest x1 (S.2 13 (0 : Int32).toNatClampNeg) (S.2 13 (1 : Int32).toNatClampNeg) (S.2 13 (2 : Int32).toNatClampNeg) S) fun r20 S20 =>
        some (r20, S20)
      else none
    else none
  else none
def f7_bind (x1 : Int32) (x2 : Int32) (x3 : Int32) (x4 : Int64) (S : Zs) : Option Zs :=
  if inb (((6 : Int32) * x2) + x3) 18 = true then
    if inb x1 3 = true then lt_ (zL S 13 x1.toNatClampNeg (((S.1 6 (((6 : Int32) * x2) + x3).toNatClampNeg).toInt64) * x4)) fun S20 =>
      if inb (((6 : Int32) * x1) + x3) 18 = true then
        if inb x2 3 = true then lt_ (zL S20 13 x2.toNatClampNeg (((S20.1 6 (((6 : Int32) * x1) + x3).toNatClampNeg).toInt64) * x4)) fun S41 =>
          some S41
        else none
      else none
    else none
  else none
def f7_isPairBound_14 : Nat → Int32 → Int32 → Int32 → Int32 → Zs → Option (Int32 × Zs)
  | 0 => fun _ _ _ _ _ => none
  | n + 1 => fun x1 x2 x3 x4 S =>
    if S.1 0 6 ≤ x4 then
      some ((0 : Int32), S)
    else
      bd1 (f7_bind x2 x3 x4 (1 : Int64) S) fun S29 =>
      bd2 (f7_isRowAtRest x1 S29) fun r34 S34 =>
      if r34 = 0 then
        lt_ (x4 + (1 : Int32)) fun v42 =>
        f7_isPairBound_14 n x1 x2 x3 v42 S34
      else
        some ((1 : Int32), S34)
def f7_isPairBound (x1 : Int32) (x2 : Int32) (x3 : Int32) (S : Zs) : Option (Int32 × Zs) :=
  if inb (((3 : Int32) - x2) - x3) 3 = true then lt_ (zL S 13 (((3 : Int32) - x2) - x3).toNatClampNeg (1 : Int64)) fun S10 =>
    f7_isPairBound_14 fuel0 x1 x2 x3 (0 : Int32) S10
  else none
def f7_isParted_269 (k43 : Int32 → Int32 → Int32 → Int32 → Int32 → Int32 → Int32 → Zs → Option (Int32 × Zs)) (x1 : Int32) (x2 : Int32) (x3 : Int32) (x4 : Int32) (x5 : Int32) (x6 : Int32) (x7 : Int32) (S : Zs) : Option (Int32 × Zs) :=
  bd2 (f7_isRowAtRest x1 S) fun r271 S271 =>
  if r271 = 0 then
    lt_ (x7 + (1 : Int32)) fun v279 =>
    k43 x1 x2 x3 x4 x5 x6 v279 S271
  else
    some ((1 : Int32), S271)
def f7_isParted_174 (k43 : Int32 → Int32 → Int32 → Int32 → Int32 → Int32 → Int32 → Zs → Option (Int32 × Zs)) (x1 : Int32) (x2 : Int32) (x3 : Int32) (x4 : Int32) (x5 : Int32) (x6 : Int32) (x7 : Int32) (t0 : Int32) (t1 : Int64) (S : Zs) : Option (Int32 × Zs) :=
  lt_ (t1 * t0.toInt64) fun v176 =>
  if inb x2 3 = true then
    if inb x2 3 = true then
      if (S.1 5 x2.toNatClampNeg).toInt64 = 0 then none else
      if inb x2 3 = true then lt_ (zL S 13 x2.toNatClampNeg ((S.2 13 x2.toNatClampNeg) * (v176 / ((S.1 5 x2.toNatClampNeg).toInt64)))) fun S200 =>
        if inb x3 3 = true then
          if inb x3 3 = true then
            if (S200.1 5 x3.toNatClampNeg).toInt64 = 0 then none else
            if inb x3 3 = true then lt_ (zL S200 13 x3.toNatClampNeg ((S200.2 13 x3.toNatClampNeg) * (v176 / ((S200.1 5 x3.toNatClampNeg).toInt64)))) fun S223 =>
              if 0 ≤ x4 then
                if inb x4 3 = true then
                  if inb x4 3 = true then
                    if (S223.1 5 x4.toNatClampNeg).toInt64 = 0 then none else
                    if inb x4 3 = true then lt_ (zL S223 13 x4.toNatClampNeg ((S223.2 13 x4.toNatClampNeg) * (v176 / ((S223.1 5 x4.toNatClampNeg).toInt64)))) fun S268 =>
                      f7_isParted_269 k43 x1 x2 x3 x4 x5 x6 x7 S268
                    else none
                  else none
                else none
              else
                if inb (((3 : Int32) - x2) - x3) 3 = true then lt_ (zL S223 13 (((3 : Int32) - x2) - x3).toNatClampNeg (1 : Int64)) fun S239 =>
                  f7_isParted_269 k43 x1 x2 x3 x4 x5 x6 x7 S239
                else none
            else none
          else none
        else none
      else none
    else none
  else none
def f7_isParted_118 (k43 : Int32 → Int32 → Int32 → Int32 → Int32 → Int32 → Int32 → Zs → Option (Int32 × Zs)) (k78 : Int32 → Int32 → Int32 → Int32 → Int32 → Int32 → Int32 → Int32 → Int32 → Zs → Option (Int32 × Zs)) (x1 : Int32) (x2 : Int32) (x3 : Int32) (x4 : Int32) (x5 : Int32) (x6 : Int32) (x7 : Int32) (x8 : Int32) (x9 : Int32) (t0 : Int32) (S : Zs) : Option (Int32 × Zs) :=
  if inb t0 3 = true then
    if inb x9 6 = true then
      if inb t0 3 = true then lt_ (zL S 13 t0.toNatClampNeg ((S.2 13 t0.toNatClampNeg) + ((S.1 4 x9.toNatClampNeg).toInt64))) fun S129 =>
        if x6 = 0 then none else
        lt_ (x8 / x6) fun v135 =>
        lt_ (x9 + (1 : Int32)) fun v137 =>
        k78 x1 x2 x3 x4 x5 x6 x7 v135 v137 S129
      else none
    else none
  else none
def f7_isParted_78 (k43 : Int32 → Int32 → Int32 → Int32 → Int32 → Int32 → Int32 → Zs → Option (Int32 × Zs)) : Nat → Int32 → Int32 → Int32 → Int32 → Int32 → Int32 → Int32 → Int32 → Int32 → Zs → Option (Int32 × Zs)
  | 0 => fun _ _ _ _ _ _ _ _ _ _ => none
  | n + 1 => fun x1 x2 x3 x4 x5 x6 x7 x8 x9 S =>
    if S.1 0 6 ≤ x9 then
      if inb x2 3 = true then
        if inb x3 3 = true then
          if 0 ≤ x4 then
            if inb x4 3 = true then
              f7_isParted_174 k43 x1 x2 x3 x4 x5 x6 x7 (S.1 5 x4.toNatClampNeg) (((S.1 5 x2.toNatClampNeg).toInt64) * ((S.1 5 x3.toNatClampNeg).toInt64)) S
            else none
          else
            f7_isParted_174 k43 x1 x2 x3 x4 x5 x6 x7 (1 : Int32) (((S.1 5 x2.toNatClampNeg).toInt64) * ((S.1 5 x3.toNatClampNeg).toInt64)) S
        else none
      else none
    else
      if x6 = 0 then none else
      if x8 - x8 / x6 * x6 = 0 then
        f7_isParted_118 k43 (f7_isParted_78 k43 n) x1 x2 x3 x4 x5 x6 x7 x8 x9 x2 S
      else
        if x6 = 0 then none else
        if x8 - x8 / x6 * x6 = (1 : Int32) then
          f7_isParted_118 k43 (f7_isParted_78 k43 n) x1 x2 x3 x4 x5 x6 x7 x8 x9 x3 S
        else
          f7_isParted_118 k43 (f7_isParted_78 k43 n) x1 x2 x3 x4 x5 x6 x7 x8 x9 x4 S
def f7_isParted_43 : Nat → Int32 → Int32 → Int32 → Int32 → Int32 → Int32 → Int32 → Zs → Option (Int32 × Zs)
  | 0 => fun _ _ _ _ _ _ _ _ => none
  | n + 1 => fun x1 x2 x3 x4 x5 x6 x7 S =>
    if x5 ≤ x7 then
      some ((0 : Int32), S)
    else
      if inb (0 : Int32) 3 = true then lt_ (zL S 13 (0 : Int32).toNatClampNeg (0 : Int64)) fun S56 =>
        if inb (1 : Int32) 3 = true then lt_ (zL S56 13 (1 : Int32).toNatClampNeg (0 : Int64)) fun S63 =>
          if inb (2 : Int32) 3 = true then lt_ (zL S63 13 (2 : Int32).toNatClampNeg (0 : Int64)) fun S70 =>
            f7_isParted_78 (f7_isParted_43 n) fuel0 x1 x2 x3 x4 x5 x6 x7 x7 (0 : Int32) S70
          else none
        else none
      else none
def f7_isParted_18 : Nat → Int32 → Int32 → Int32 → Int32 → Int32 → Int32 → Int32 → Zs → Option (Int32 × Zs)
  | 0 => fun _ _ _ _ _ _ _ _ => none
  | n + 1 => fun x1 x2 x3 x4 x5 x6 x7 S =>
    if S.1 0 6 ≤ x7 then
      f7_isParted_43 fuel0 x1 x2 x3 x4 x5 x6 (0 : Int32) S
    else
      lt_ (x5 * x6) fun v32 =>
      lt_ (x7 + (1 : Int32)) fun v34 =>
      f7_isParted_18 n x1 x2 x3 x4 v32 x6 v34 S
def f7_isParted_13 (x1 : Int32) (x2 : Int32) (x3 : Int32) (x4 : Int32) (x5 : Int32) (t0 : Int32) (S : Zs) : Option (Int32 × Zs) :=
  f7_isParted_18 fuel0 x1 x2 x3 x4 x5 t0 (0 : Int32) S
def f7_isParted (x1 : Int32) (x2 : Int32) (x3 : Int32) (x4 : Int32) (S : Zs) : Option (Int32 × Zs) :=
  if 0 ≤ x4 then
    f7_isParted_13 x1 x2 x3 x4 (1 : Int32) (3 : Int32) S
  else
    f7_isParted_13 x1 x2 x3 x4 (1 : Int32) (2 : Int32) S
def f7_isPartBound_164 (k3 : Int32 → Int32 → Int32 → Int32 → Zs → Option (Int32 × Zs)) : Nat → Int32 → Int32 → Int32 → Int32 → Int32 → Zs → Option (Int32 × Zs)
  | 0 => fun _ _ _ _ _ _ => none
  | n + 1 => fun x1 x2 x3 x4 x5 S =>
    if S.1 0 6 ≤ x5 then
      lt_ (x4 + (1 : Int32)) fun v289 =>
      k3 x1 x2 x3 v289 S
    else
      if inb (((6 : Int32) * x2) + x4) 18 = true then
        if inb (((6 : Int32) * x3) + x5) 18 = true then
          if inb x1 3 = true then lt_ (zL S 13 x1.toNatClampNeg (((S.1 6 (((6 : Int32) * x2) + x4).toNatClampNeg).toInt64) * ((S.1 6 (((6 : Int32) * x3) + x5).toNatClampNeg).toInt64))) fun S205 =>
            if inb (((6 : Int32) * x1) + x4) 18 = true then
              if inb (((6 : Int32) * x3) + x5) 18 = true then
                if inb x2 3 = true then lt_ (zL S205 13 x2.toNatClampNeg (((S205.1 6 (((6 : Int32) * x1) + x4).toNatClampNeg).toInt64) * ((S205.1 6 (((6 : Int32) * x3) + x5).toNatClampNeg).toInt64))) fun S238 =>
                  if inb (((6 : Int32) * x1) + x4) 18 = true then
                    if inb (((6 : Int32) * x2) + x5) 18 = true then
                      if inb x3 3 = true then lt_ (zL S238 13 x3.toNatClampNeg (((S238.1 6 (((6 : Int32) * x1) + x4).toNatClampNeg).toInt64) * ((S238.1 6 (((6 : Int32) * x2) + x5).toNatClampNeg).toInt64))) fun S271 =>
                        bd2 (f7_isRowAtRest (7 : Int32) S271) fun r275 S275 =>
                        if r275 = 0 then
                          lt_ (x5 + (1 : Int32)) fun v283 =>
                          f7_isPartBound_164 k3 n x1 x2 x3 x4 v283 S275
                        else
                          some ((1 : Int32), S275)
                      else none
                    else none
                  else none
                else none
              else none
            else none
          else none
        else none
      else none
def f7_isPartBound_32 (k3 : Int32 → Int32 → Int32 → Int32 → Zs → Option (Int32 × Zs)) (k15 : Int32 → Int32 → Int32 → Int32 → Int32 → Zs → Option (Int32 × Zs)) : Nat → Int32 → Int32 → Int32 → Int32 → Int32 → Int32 → Int32 → Zs → Option (Int32 × Zs)
  | 0 => fun _ _ _ _ _ _ _ _ => none
  | n + 1 => fun x1 x2 x3 x4 x5 x6 x7 S =>
    if S.1 0 6 ≤ x7 then
      bd1 (f7_allShares S) fun r73 =>
      if inb x3 3 = true then
        bd1 (f7_bind x1 x2 x4 (((r73 - x6).toInt64) * ((S.1 5 x3.toNatClampNeg).toInt64)) S) fun S88 =>
        if inb x1 3 = true then
          if inb (((6 : Int32) * x2) + x4) 18 = true then
            if inb x2 3 = true then
              if inb (((6 : Int32) * x1) + x4) 18 = true then
                if inb x3 3 = true then lt_ (zL S88 13 x3.toNatClampNeg (((((S88.1 5 x1.toNatClampNeg).toInt64) * ((S88.1 6 (((6 : Int32) * x2) + x4).toNatClampNeg).toInt64)) + (((S88.1 5 x2.toNatClampNeg).toInt64) * ((S88.1 6 (((6 : Int32) * x1) + x4).toNatClampNeg).toInt64))) * x6.toInt64)) fun S143 =>
                  bd2 (f7_isRowAtRest (7 : Int32) S143) fun r147 S147 =>
                  if r147 = 0 then
                    lt_ (x5 + (1 : Int32)) fun v155 =>
                    k15 x1 x2 x3 x4 v155 S147
                  else
                    some ((1 : Int32), S147)
                else none
              else none
            else none
          else none
        else none
      else none
    else
      if inb x7 6 = true then
        lt_ (x6 + (((x5 >>> (x7 &&& 31)) &&& (1 : Int32)) * (S.1 4 x7.toNatClampNeg))) fun v59 =>
        lt_ (x7 + (1 : Int32)) fun v61 =>
        f7_isPartBound_32 k3 k15 n x1 x2 x3 x4 x5 v59 v61 S
      else none
def f7_isPartBound_15 (k3 : Int32 → Int32 → Int32 → Int32 → Zs → Option (Int32 × Zs)) : Nat → Int32 → Int32 → Int32 → Int32 → Int32 → Zs → Option (Int32 × Zs)
  | 0 => fun _ _ _ _ _ _ => none
  | n + 1 => fun x1 x2 x3 x4 x5 S =>
    if (1 : Int32) <<< ((S.1 0 6) &&& 31) ≤ x5 then
      f7_isPartBound_164 k3 fuel0 x1 x2 x3 x4 (0 : Int32) S
    else
      f7_isPartBound_32 k3 (f7_isPartBound_15 k3 n) fuel0 x1 x2 x3 x4 x5 (0 : Int32) (0 : Int32) S
def f7_isPartBound_3 : Nat → Int32 → Int32 → Int32 → Int32 → Zs → Option (Int32 × Zs)
  | 0 => fun _ _ _ _ _ => none
  | n + 1 => fun x1 x2 x3 x4 S =>
    if S.1 0 6 ≤ x4 then
      some ((0 : Int32), S)
    else
      f7_isPartBound_15 (f7_isPartBound_3 n) fuel0 x1 x2 x3 x4 (1 : Int32) S
def f7_isPartBound (x1 : Int32) (x2 : Int32) (x3 : Int32) (S : Zs) : Option (Int32 × Zs) :=
  f7_isPartBound_3 fuel0 x1 x2 x3 (0 : Int32) S
def f7_rest_95 (x1 : Int32) (x2 : Int32) (t0 : Int32) (S : Zs) : Option Zs :=
  bd2 (f7_isPairBound x1 x2 t0 S) fun r100 S100 =>
  if r100 = 0 then
    bd2 (f7_isParted x1 x2 t0 (-1 : Int32) S100) fun r111 S111 =>
    if r111 = 0 then
      some S111
    else
      some S111
  else
    some S100
def f7_rest_84 (x1 : Int32) (t0 : Int32) (S : Zs) : Option Zs :=
  if x1 = (3 : Int32) then
    f7_rest_95 x1 t0 (1 : Int32) S
  else
    f7_rest_95 x1 t0 (2 : Int32) S
def f7_rest_73 (x1 : Int32) (S : Zs) : Option Zs :=
  if x1 = (6 : Int32) then
    f7_rest_84 x1 (1 : Int32) S
  else
    f7_rest_84 x1 (0 : Int32) S
def f7_rest (x1 : Int32) (S : Zs) : Option Zs :=
  if x1 = (7 : Int32) then
    bd2 (f7_isPartBound (0 : Int32) (1 : Int32) (2 : Int32) S) fun r10 S10 =>
    if r10 = 0 then
      bd2 (f7_isPartBound (1 : Int32) (2 : Int32) (0 : Int32) S10) fun r20 S20 =>
      if r20 = 0 then
        bd2 (f7_isPartBound (2 : Int32) (0 : Int32) (1 : Int32) S20) fun r30 S30 =>
        if r30 = 0 then
          bd2 (f7_isParted (7 : Int32) (0 : Int32) (1 : Int32) (2 : Int32) S30) fun r42 S42 =>
          if r42 = 0 then
            some S42
          else
            some S42
        else
          some S30
      else
        some S20
    else
      some S10
  else
    if x1 = (3 : Int32) then
      f7_rest_73 x1 S
    else
      if x1 = (5 : Int32) then
        f7_rest_73 x1 S
      else
        if x1 = (6 : Int32) then
          f7_rest_73 x1 S
        else
          bd2 (f7_isRest x1 (1 : Int64) (1 : Int64) (1 : Int64) S) fun r132 S132 =>
          some S132
def f7_every (S : Zs) : Int32 :=
  ((1 : Int32) <<< ((S.1 0 5) &&& 31)) - (1 : Int32)
def f7_restAll_49 (k17 : Int32 → Zs → Option Zs) (x1 : Int32) (t0 : Int64) (t1 : Int32) (S : Zs) : Option Zs :=
  if inb t1 3 = true then lt_ (zL S 11 t1.toNatClampNeg t0) fun S49 =>
    if inb x1 3 = true then
      if inb x1 3 = true then lt_ (zL S49 14 x1.toNatClampNeg (S49.2 11 x1.toNatClampNeg)) fun S61 =>
        lt_ (x1 + (1 : Int32)) fun v62 =>
        k17 v62 S61
      else none
    else none
  else none
def f7_restAll_17 : Nat → Int32 → Zs → Option Zs
  | 0 => fun _ _ => none
  | n + 1 => fun x1 S =>
    if (3 : Int32) ≤ x1 then
      lt_ (zI S 0 29 (1 : Int32)) fun S70 =>
      some S70
    else
      if S.1 0 29 = 0 then
        if inb x1 3 = true then
          f7_restAll_49 (f7_restAll_17 n) x1 (S.2 11 x1.toNatClampNeg) x1 S
        else none
      else
        if inb x1 3 = true then
          f7_restAll_49 (f7_restAll_17 n) x1 (S.2 14 x1.toNatClampNeg) x1 S
        else none
def f7_restAll_15 (S : Zs) : Option Zs :=
  f7_restAll_17 fuel0 (0 : Int32) S
def f7_restAll (S : Zs) : Option Zs :=
  if S.1 0 29 = 0 then
    bd1 (f7_rest (f7_every S) S) fun S12 =>
    f7_restAll_15 S12
  else
    f7_restAll_15 S
def f7_common_6 : Nat → Int64 → Int64 → Option Int64
  | 0 => fun _ _ => none
  | n + 1 => fun x4 x6 =>
    if x6 = (0 : Int64) then
      some x4
    else
      if x6 = 0 then none else
      lt_ (x4 - x4 / x6 * x6) fun v18 =>
      f7_common_6 n x6 v18
def f7_common (x0 : Int64) (x2 : Int64) : Option Int64 :=
  f7_common_6 fuel0 x0 x2
def f7_partOf_10 (x0 : Int64) (x2 : Int64) (t0 : Int64) : Option Int64 :=
  bd1 (f7_common x0 x2) fun r12 =>
  if r12 = 0 then none else
  some (t0 / r12)
def f7_partOf (x0 : Int64) (x2 : Int64) (x4 : Int32) : Option Int64 :=
  if x4 = 0 then
    f7_partOf_10 x0 x2 x0
  else
    f7_partOf_10 x0 x2 x2
def f7_wage (x1 : Int32) (x2 : Int32) (S : Zs) : Option (Int64 × Zs) :=
  lt_ (zI S 0 0 (0 : Int32)) fun S2 =>
  if f7_isLand S2 x1 = 0 then
    some ((-9000000000000000001 : Int64), S2)
  else
    if f7_in x2.toInt64 (0 : Int64) (1 : Int64) = 0 then
      some ((-9000000000000000001 : Int64), S2)
    else
      bd1 (f7_restAll S2) fun S28 =>
      if inb x1 3 = true then
        if inb (0 : Int32) 3 = true then
          bd1 (f7_partOf (S28.2 11 x1.toNatClampNeg) (S28.2 11 (0 : Int32).toNatClampNeg) x2) fun r44 =>
          some (r44, S28)
        else none
      else none
def f7_price (x1 : Int32) (x2 : Int32) (S : Zs) : Option (Int64 × Zs) :=
  lt_ (zI S 0 0 (0 : Int32)) fun S2 =>
  if f7_isGood S2 x1 = 0 then
    some ((-9000000000000000001 : Int64), S2)
  else
    if f7_in x2.toInt64 (0 : Int64) (2 : Int64) = 0 then
      some ((-9000000000000000001 : Int64), S2)
    else
      bd1 (f7_restAll S2) fun S30 =>
      if x2 = (2 : Int32) then
        bd1 (f7_makersOf S30 (f7_every S30) x1) fun r44 =>
        some (r44.toInt64, S30)
      else
        bd1 (f7_priceOf S30 (f7_every S30) x1) fun r57 =>
        if inb (0 : Int32) 3 = true then
          bd1 (f7_partOf r57 (S30.2 11 (0 : Int32).toNatClampNeg) x2) fun r67 =>
          some (r67, S30)
        else none
def f7_gain (x1 : Int32) (x2 : Int32) (x3 : Int32) (S : Zs) : Option (Int64 × Zs) :=
  lt_ (zI S 0 0 (0 : Int32)) fun S2 =>
  if f7_isLand S2 x1 = 0 then
    some ((-9000000000000000001 : Int64), S2)
  else
    if f7_isGood S2 x2 = 0 then
      some ((-9000000000000000001 : Int64), S2)
    else
      if f7_in x3.toInt64 (0 : Int64) (1 : Int64) = 0 then
        some ((-9000000000000000001 : Int64), S2)
      else
        bd1 (f7_restAll S2) fun S36 =>
        bd1 (f7_costOf S36 x1 x2) fun r42 =>
        bd1 (f7_priceOf S36 (f7_every S36) x2) fun r51 =>
        bd1 (f7_partOf r42 r51 x3) fun r55 =>
        some (r55, S36)
def f7_judge_101 : Nat → Int32 → Int32 → Int32 → Zs → Option (Int64 × Zs)
  | 0 => fun _ _ _ _ => none
  | n + 1 => fun x1 x2 x5 S =>
    if S.1 0 5 ≤ x5 then
      bd2 (f7_idleOf (f7_every S) S) fun r143 S143 =>
      some (r143.toInt64, S143)
    else
      if inb ((((40 : Int32) * x1) + x2) + x5) 320 = true then
        if inb x5 3 = true then lt_ (zL S 11 x5.toNatClampNeg ((S.1 3 ((((40 : Int32) * x1) + x2) + x5).toNatClampNeg).toInt64)) fun S131 =>
          lt_ (x5 + (1 : Int32)) fun v132 =>
          f7_judge_101 n x1 x2 v132 S131
        else none
      else none
def f7_judge_49 : Nat → Int32 → Int32 → Int32 → Zs → Option (Int64 × Zs)
  | 0 => fun _ _ _ _ => none
  | n + 1 => fun x1 x2 x5 S =>
    if S.1 0 5 ≤ x5 then
      lt_ (zI S 0 1 (0 : Int32)) fun S95 =>
      f7_judge_101 fuel0 x1 x2 (0 : Int32) S95
    else
      if inb ((((40 : Int32) * x1) + x2) + x5) 320 = true then
        if f7_in ((S.1 3 ((((40 : Int32) * x1) + x2) + x5).toNatClampNeg).toInt64) (1 : Int64) (999 : Int64) = 0 then
          some ((-9000000000000000001 : Int64), S)
        else
          lt_ (x5 + (1 : Int32)) fun v87 =>
          f7_judge_49 n x1 x2 v87 S
      else none
def f7_judge (x1 : Int32) (x2 : Int32) (S : Zs) : Option (Int64 × Zs) :=
  lt_ (zI S 0 0 (0 : Int32)) fun S2 =>
  if f7_isRow x1 = 0 then
    some ((-9000000000000000001 : Int64), S2)
  else
    if S2.1 0 5 = 0 then
      some ((-9000000000000000002 : Int64), S2)
    else
      bd2 (f7_lookItems x1 x2 (S2.1 0 5) S2) fun r34 S34 =>
      if (0 : Int64) ≤ r34 then
        f7_judge_49 fuel0 x1 x2 (0 : Int32) S34
      else
        some (r34, S34)
def f7_isAhead (S : Zs) (x1 : Int32) (x2 : Int32) (x3 : Int32) (x4 : Int32) : Option Int32 :=
  if inb (((6 : Int32) * x1) + x3) 18 = true then
    if inb (((6 : Int32) * x2) + x4) 18 = true then
      lt_ ((S.1 6 (((6 : Int32) * x1) + x3).toNatClampNeg) * (S.1 6 (((6 : Int32) * x2) + x4).toNatClampNeg)) fun v24 =>
      if inb (((6 : Int32) * x1) + x4) 18 = true then
        if inb (((6 : Int32) * x2) + x3) 18 = true then
          lt_ ((S.1 6 (((6 : Int32) * x1) + x4).toNatClampNeg) * (S.1 6 (((6 : Int32) * x2) + x3).toNatClampNeg)) fun v50 =>
          if v24 < v50 then
            some (1 : Int32)
          else
            if v24 = v50 then
              if x4 ≤ x3 then
                some (0 : Int32)
              else
                some (1 : Int32)
            else
              some (0 : Int32)
        else none
      else none
    else none
  else none
def f7_chain_195 (k144 : Int32 → Int32 → Int32 → Int32 → Zs → Option (Int64 × Zs)) (k159 : Int32 → Int32 → Int32 → Int32 → Int32 → Int32 → Zs → Option (Int64 × Zs)) (x1 : Int32) (x2 : Int32) (x3 : Int32) (x4 : Int32) (x6 : Int32) (t0 : Int32) (t1 : Int32) (S : Zs) : Option (Int64 × Zs) :=
  lt_ (t1 + t0) fun v196 =>
  lt_ (x6 + (1 : Int32)) fun v198 =>
  k159 x1 x2 x3 x4 v196 v198 S
def f7_chain_194 (k144 : Int32 → Int32 → Int32 → Int32 → Zs → Option (Int64 × Zs)) (k159 : Int32 → Int32 → Int32 → Int32 → Int32 → Int32 → Zs → Option (Int64 × Zs)) (x1 : Int32) (x2 : Int32) (x3 : Int32) (x4 : Int32) (x6 : Int32) (t0 : Int32) (S : Zs) : Option (Int64 × Zs) :=
  f7_chain_195 k144 k159 x1 x2 x3 x4 x6 (0 : Int32) t0 S
def f7_chain_159 (k144 : Int32 → Int32 → Int32 → Int32 → Zs → Option (Int64 × Zs)) : Nat → Int32 → Int32 → Int32 → Int32 → Int32 → Int32 → Zs → Option (Int64 × Zs)
  | 0 => fun _ _ _ _ _ _ _ => none
  | n + 1 => fun x1 x2 x3 x4 x5 x6 S =>
    if S.1 0 6 ≤ x6 then
      if x5 = x3 then
        some (x4.toInt64, S)
      else
        lt_ (x4 + (1 : Int32)) fun v214 =>
        k144 x1 x2 x3 v214 S
    else
      if x6 = x4 then
        f7_chain_194 k144 (f7_chain_159 k144 n) x1 x2 x3 x4 x6 x5 S
      else
        bd1 (f7_isAhead S x1 x2 x6 x4) fun r184 =>
        if r184 = 0 then
          f7_chain_194 k144 (f7_chain_159 k144 n) x1 x2 x3 x4 x6 x5 S
        else
          f7_chain_195 k144 (f7_chain_159 k144 n) x1 x2 x3 x4 x6 (1 : Int32) x5 S
def f7_chain_144 : Nat → Int32 → Int32 → Int32 → Int32 → Zs → Option (Int64 × Zs)
  | 0 => fun _ _ _ _ _ => none
  | n + 1 => fun x1 x2 x3 x4 S =>
    if S.1 0 6 ≤ x4 then
      some ((-1000000 : Int64), S)
    else
      f7_chain_159 (f7_chain_144 n) fuel0 x1 x2 x3 x4 (0 : Int32) (0 : Int32) S
def f7_chain_115 (k64 : Int32 → Int32 → Int32 → Int32 → Int32 → Zs → Option (Int64 × Zs)) (x1 : Int32) (x4 : Int32) (x5 : Int32) (x7 : Int32) (t0 : Int32) (t1 : Int32) (S : Zs) : Option (Int64 × Zs) :=
  lt_ (t1 + t0) fun v116 =>
  lt_ (x7 + (1 : Int32)) fun v118 =>
  k64 x1 x4 x5 v116 v118 S
def f7_chain_98 (k64 : Int32 → Int32 → Int32 → Int32 → Int32 → Zs → Option (Int64 × Zs)) (x1 : Int32) (x4 : Int32) (x6 : Int32) (x7 : Int32) (x8 : Int32) (t0 : Int32) (t1 : Int32) (S : Zs) : Option (Int64 × Zs) :=
  lt_ (t1 + t0) fun v99 =>
  if x8 = x4 then
    f7_chain_115 k64 x1 x4 v99 x7 (1 : Int32) x6 S
  else
    f7_chain_115 k64 x1 x4 v99 x7 (0 : Int32) x6 S
def f7_chain_64 : Nat → Int32 → Int32 → Int32 → Int32 → Int32 → Zs → Option (Int64 × Zs)
  | 0 => fun _ _ _ _ _ _ => none
  | n + 1 => fun x1 x4 x5 x6 x7 S =>
    if S.1 0 6 ≤ x7 then
      if x6 ≤ 0 then
        some ((((2 : Int32) * x5) + (0 : Int32)).toInt64, S)
      else
        some ((((2 : Int32) * x5) + (1 : Int32)).toInt64, S)
    else
      bd1 (f7_makersOf S x4 x7) fun r78 =>
      if r78 = (1 : Int32) <<< (x1 &&& 31) then
        f7_chain_98 (f7_chain_64 n) x1 x4 x6 x7 r78 (1 : Int32) x5 S
      else
        f7_chain_98 (f7_chain_64 n) x1 x4 x6 x7 r78 (0 : Int32) x5 S
def f7_chain (x1 : Int32) (x2 : Int32) (x3 : Int32) (S : Zs) : Option (Int64 × Zs) :=
  lt_ (zI S 0 0 (0 : Int32)) fun S2 =>
  if f7_isLand S2 x1 = 0 then
    some ((-9000000000000000001 : Int64), S2)
  else
    if f7_isLand S2 x2 = 0 then
      some ((-9000000000000000001 : Int64), S2)
    else
      if x1 = x2 then
        some ((-9000000000000000001 : Int64), S2)
      else
        if (-1 : Int32) ≤ x3 then
          if x3 = (-1 : Int32) then
            lt_ (((1 : Int32) <<< (x1 &&& 31)) ||| ((1 : Int32) <<< (x2 &&& 31))) fun v47 =>
            bd1 (f7_rest v47 S2) fun S52 =>
            f7_chain_64 fuel0 x1 v47 (0 : Int32) (0 : Int32) (0 : Int32) S52
          else
            f7_chain_144 fuel0 x1 x2 x3 (0 : Int32) S2
        else
          some ((-9000000000000000001 : Int64), S2)
def f7_gives_102 (k7 : Int32 → Int32 → Int32 → Int32 → Int32 → Zs → Option (Int32 × Zs)) (x1 : Int32) (x2 : Int32) (x3 : Int32) (x4 : Int32) (x5 : Int32) (S : Zs) : Option (Int32 × Zs) :=
  lt_ (x5 + (1 : Int32)) fun v102 =>
  k7 x1 x2 x3 x4 v102 S
def f7_gives_100 (k7 : Int32 → Int32 → Int32 → Int32 → Int32 → Zs → Option (Int32 × Zs)) (x1 : Int32) (x2 : Int32) (x3 : Int32) (x5 : Int32) (t0 : Int32) (S : Zs) : Option (Int32 × Zs) :=
  f7_gives_102 k7 x1 x2 x3 t0 x5 S
def f7_gives_93 (k7 : Int32 → Int32 → Int32 → Int32 → Int32 → Zs → Option (Int32 × Zs)) (x1 : Int32) (x2 : Int32) (x3 : Int32) (x5 : Int32) (S : Zs) : Option (Int32 × Zs) :=
  f7_gives_100 k7 x1 x2 x3 x5 x5 S
def f7_gives_7 : Nat → Int32 → Int32 → Int32 → Int32 → Int32 → Zs → Option (Int32 × Zs)
  | 0 => fun _ _ _ _ _ _ => none
  | n + 1 => fun x1 x2 x3 x4 x5 S =>
    if S.1 0 6 ≤ x5 then
      if x4 = (-1000000 : Int32) then
        some ((0 : Int32), S)
      else
        if inb (((6 : Int32) * x3) + x4) 18 = true then
          lt_ (zL S 0 31 ((S.2 0 31) * ((S.1 6 (((6 : Int32) * x3) + x4).toNatClampNeg).toInt64))) fun S136 =>
          if inb (((6 : Int32) * x2) + x4) 18 = true then
            lt_ (zL S136 0 32 ((S136.2 0 32) * ((S136.1 6 (((6 : Int32) * x2) + x4).toNatClampNeg).toInt64))) fun S158 =>
            some ((1 : Int32), S158)
          else none
        else none
    else
      if inb (x1 + x5) 320 = true then
        if f7_counts (S.1 3 (x1 + x5).toNatClampNeg) x2 = 0 then
          f7_gives_102 (f7_gives_7 n) x1 x2 x3 x4 x5 S
        else
          if x4 = (-1000000 : Int32) then
            f7_gives_93 (f7_gives_7 n) x1 x2 x3 x5 S
          else
            if inb (((6 : Int32) * x3) + x5) 18 = true then
              if inb (((6 : Int32) * x2) + x4) 18 = true then
                if inb (((6 : Int32) * x3) + x4) 18 = true then
                  if inb (((6 : Int32) * x2) + x5) 18 = true then
                    if (S.1 6 (((6 : Int32) * x3) + x4).toNatClampNeg) * (S.1 6 (((6 : Int32) * x2) + x5).toNatClampNeg) ≤ (S.1 6 (((6 : Int32) * x3) + x5).toNatClampNeg) * (S.1 6 (((6 : Int32) * x2) + x4).toNatClampNeg) then
                      f7_gives_100 (f7_gives_7 n) x1 x2 x3 x5 x4 S
                    else
                      f7_gives_93 (f7_gives_7 n) x1 x2 x3 x5 S
                  else none
                else none
              else none
            else none
      else none
def f7_gives (x1 : Int32) (x2 : Int32) (x3 : Int32) (S : Zs) : Option (Int32 × Zs) :=
  f7_gives_7 fuel0 x1 x2 x3 (-1000000 : Int32) (0 : Int32) S
def f7_isRing_67 (t0 : Int32) (S : Zs) : Option (Int32 × Zs) :=
  if t0 = 0 then
    some ((0 : Int32), S)
  else
    if S.2 0 32 ≤ S.2 0 31 then
      some ((0 : Int32), S)
    else
      some ((1 : Int32), S)
def f7_isRing_66 (S : Zs) : Option (Int32 × Zs) :=
  f7_isRing_67 (0 : Int32) S
def f7_isRing_62 (S : Zs) : Option (Int32 × Zs) :=
  f7_isRing_67 (1 : Int32) S
def f7_isRing (x1 : Int32) (x2 : Int32) (x3 : Int32) (x4 : Int32) (S : Zs) : Option (Int32 × Zs) :=
  lt_ (zL S 0 31 (1 : Int64)) fun S2 =>
  lt_ (zL S2 0 32 (1 : Int64)) fun S7 =>
  bd2 (f7_gives x1 x2 x3 S7) fun r14 S14 =>
  if r14 = 0 then
    f7_isRing_66 S14
  else
    if x4 = (-1000000 : Int32) then
      bd2 (f7_gives x1 x3 x2 S14) fun r31 S31 =>
      if r31 = 0 then
        f7_isRing_66 S31
      else
        f7_isRing_62 S31
    else
      bd2 (f7_gives x1 x3 x4 S14) fun r45 S45 =>
      if r45 = 0 then
        f7_isRing_66 S45
      else
        bd2 (f7_gives x1 x4 x2 S45) fun r56 S56 =>
        if r56 = 0 then
          f7_isRing_66 S56
        else
          f7_isRing_62 S56
def f7_more_191 (x5 : Int32) (S : Zs) : Option (Int64 × Zs) :=
  if S.1 0 5 = (3 : Int32) then
    bd2 (f7_isRing x5 (0 : Int32) (1 : Int32) (2 : Int32) S) fun r205 S205 =>
    if r205 = 0 then
      some ((0 : Int64), S205)
    else
      some ((209 : Int64), S205)
  else
    some ((0 : Int64), S)
def f7_more_119 (k107 : Int32 → Int32 → Zs → Option (Int64 × Zs)) : Nat → Int32 → Int32 → Int32 → Zs → Option (Int64 × Zs)
  | 0 => fun _ _ _ _ => none
  | n + 1 => fun x5 x6 x7 S =>
    if x6 ≤ x7 then
      lt_ (x6 + (1 : Int32)) fun v161 =>
      k107 x5 v161 S
    else
      bd2 (f7_isRing x5 x7 x6 (-1000000 : Int32) S) fun r135 S135 =>
      if r135 = 0 then
        lt_ (x7 + (1 : Int32)) fun v155 =>
        f7_more_119 k107 n x5 x6 v155 S135
      else
        some (((x7 + (1 : Int32)) + ((8 : Int32) * (x6 + (1 : Int32)))).toInt64, S135)
def f7_more_107 : Nat → Int32 → Int32 → Zs → Option (Int64 × Zs)
  | 0 => fun _ _ _ => none
  | n + 1 => fun x5 x6 S =>
    if S.1 0 5 ≤ x6 then
      if S.1 0 5 = (3 : Int32) then
        bd2 (f7_isRing x5 (0 : Int32) (2 : Int32) (1 : Int32) S) fun r181 S181 =>
        if r181 = 0 then
          f7_more_191 x5 S181
        else
          some ((153 : Int64), S181)
      else
        f7_more_191 x5 S
    else
      f7_more_119 (f7_more_107 n) fuel0 x5 x6 (0 : Int32) S
def f7_more_57 : Nat → Int32 → Int32 → Zs → Option (Int64 × Zs)
  | 0 => fun _ _ _ => none
  | n + 1 => fun x5 x6 S =>
    if S.1 0 6 ≤ x6 then
      lt_ (zI S 0 1 (0 : Int32)) fun S101 =>
      f7_more_107 fuel0 x5 (1 : Int32) S101
    else
      if inb (x5 + x6) 320 = true then
        if f7_in ((S.1 3 (x5 + x6).toNatClampNeg).toInt64) (1 : Int64) ((f7_every S).toInt64) = 0 then
          some ((-9000000000000000001 : Int64), S)
        else
          lt_ (x6 + (1 : Int32)) fun v93 =>
          f7_more_57 n x5 v93 S
      else none
def f7_more (x1 : Int32) (x2 : Int32) (S : Zs) : Option (Int64 × Zs) :=
  lt_ (zI S 0 0 (0 : Int32)) fun S2 =>
  if f7_isRow x1 = 0 then
    some ((-9000000000000000001 : Int64), S2)
  else
    if S2.1 0 5 = 0 then
      some ((-9000000000000000002 : Int64), S2)
    else
      bd2 (f7_lookItems x1 x2 (S2.1 0 6) S2) fun r34 S34 =>
      if (0 : Int64) ≤ r34 then
        lt_ (((40 : Int32) * x1) + x2) fun v52 =>
        f7_more_57 fuel0 v52 (0 : Int32) S34
      else
        some (r34, S34)
def f7_stays (x1 : Int32) (x2 : Int32) (x3 : Int32) (S : Zs) : Option (Int64 × Zs) :=
  lt_ (zI S 0 0 (0 : Int32)) fun S2 =>
  if f7_isLand S2 x1 = 0 then
    some ((-9000000000000000001 : Int64), S2)
  else
    if f7_isGood S2 x2 = 0 then
      some ((-9000000000000000001 : Int64), S2)
    else
      if f7_in x3.toInt64 (0 : Int64) (900 : Int64) = 0 then
        some ((-9000000000000000001 : Int64), S2)
      else
        bd1 (f7_restAll S2) fun S38 =>
        bd1 (f7_costOf S38 x1 x2) fun r47 =>
        bd1 (f7_priceOf S38 (f7_every S38) x2) fun r63 =>
        if ((100 : Int64) + x3.toInt64) * r63 < (100 : Int64) * r47 then
          some ((0 : Int64), S38)
        else
          some ((1 : Int64), S38)
def f7_note_16 (k6 : Int32 → Zs → Option Zs) : Nat → Int32 → Int32 → Zs → Option Zs
  | 0 => fun _ _ _ => none
  | n + 1 => fun x1 x2 S =>
    if S.1 0 6 ≤ x2 then
      lt_ (x1 + (1 : Int32)) fun v84 =>
      k6 v84 S
    else
      bd1 (f7_priceOf S (f7_every S) x2) fun r30 =>
      if inb x1 3 = true then
        bd1 (f7_partOf (S.2 11 x1.toNatClampNeg) r30 (0 : Int32)) fun r52 =>
        if inb (((6 : Int32) * x1) + x2) 18 = true then lt_ (zL S 15 (((6 : Int32) * x1) + x2).toNatClampNeg r52) fun S55 =>
          if inb x1 3 = true then
            bd1 (f7_partOf (S55.2 11 x1.toNatClampNeg) r30 (1 : Int32)) fun r74 =>
            if inb (((6 : Int32) * x1) + x2) 18 = true then lt_ (zL S55 16 (((6 : Int32) * x1) + x2).toNatClampNeg r74) fun S77 =>
              lt_ (x2 + (1 : Int32)) fun v78 =>
              f7_note_16 k6 n x1 v78 S77
            else none
          else none
        else none
      else none
def f7_note_6 : Nat → Int32 → Zs → Option Zs
  | 0 => fun _ _ => none
  | n + 1 => fun x1 S =>
    if S.1 0 5 ≤ x1 then
      lt_ (zI S 0 25 (1 : Int32)) fun S92 =>
      some S92
    else
      f7_note_16 (f7_note_6 n) fuel0 x1 (0 : Int32) S
def f7_note (S : Zs) : Option Zs :=
  bd1 (f7_restAll S) fun S1 =>
  f7_note_6 fuel0 (0 : Int32) S1
def f7_learn_78 (x1 : Int32) (x3 : Int32) (t0 : Int32) (S : Zs) : Option (Int64 × Zs) :=
  if inb (((6 : Int32) * x1) + x3) 18 = true then
    if inb (((6 : Int32) * x1) + x3) 18 = true then lt_ (zI S 6 (((6 : Int32) * x1) + x3).toNatClampNeg ((S.1 6 (((6 : Int32) * x1) + x3).toNatClampNeg) - t0)) fun S95 =>
      lt_ (zI S95 0 29 (0 : Int32)) fun S98 =>
      some (t0.toInt64, S98)
    else none
  else none
def f7_learn (x1 : Int32) (x2 : Int32) (x3 : Int32) (S : Zs) : Option (Int64 × Zs) :=
  lt_ (zI S 0 0 (0 : Int32)) fun S2 =>
  if f7_isLand S2 x1 = 0 then
    some ((-9000000000000000001 : Int64), S2)
  else
    if f7_isLand S2 x2 = 0 then
      some ((-9000000000000000001 : Int64), S2)
    else
      if x1 = x2 then
        some ((-9000000000000000001 : Int64), S2)
      else
        if f7_isGood S2 x3 = 0 then
          some ((-9000000000000000001 : Int64), S2)
        else
          bd1 (f7_note S2) fun S39 =>
          if inb (((6 : Int32) * x1) + x3) 18 = true then
            if inb (((6 : Int32) * x2) + x3) 18 = true then
              lt_ ((S39.1 6 (((6 : Int32) * x1) + x3).toNatClampNeg) - (S39.1 6 (((6 : Int32) * x2) + x3).toNatClampNeg)) fun v65 =>
              if 0 ≤ v65 then
                f7_learn_78 x1 x3 v65 S39
              else
                f7_learn_78 x1 x3 (0 : Int32) S39
            else none
          else none
def f7_on_149 (k39 : Int32 → Int32 → Int32 → Int32 → Zs → Option (Int64 × Zs)) (x1 : Int32) (x2 : Int32) (x4 : Int32) (t0 : Int32) (S : Zs) : Option (Int64 × Zs) :=
  lt_ (x4 + (1 : Int32)) fun v150 =>
  k39 x1 x2 t0 v150 S
def f7_on_144 (k39 : Int32 → Int32 → Int32 → Int32 → Zs → Option (Int64 × Zs)) (x1 : Int32) (x2 : Int32) (x4 : Int32) (S : Zs) : Option (Int64 × Zs) :=
  f7_on_149 k39 x1 x2 x4 (1 : Int32) S
def f7_on_131 (k39 : Int32 → Int32 → Int32 → Int32 → Zs → Option (Int64 × Zs)) (x1 : Int32) (x3 : Int32) (x4 : Int32) (x7 : Int64) (x9 : Int64) (t0 : Int32) (S : Zs) : Option (Int64 × Zs) :=
  if x3 = 0 then
    if x9 ≤ x7 then
      f7_on_149 k39 x1 t0 x4 (0 : Int32) S
    else
      f7_on_144 k39 x1 t0 x4 S
  else
    f7_on_144 k39 x1 t0 x4 S
def f7_on_126 (k39 : Int32 → Int32 → Int32 → Int32 → Zs → Option (Int64 × Zs)) (x1 : Int32) (x3 : Int32) (x4 : Int32) (x7 : Int64) (x9 : Int64) (S : Zs) : Option (Int64 × Zs) :=
  f7_on_131 k39 x1 x3 x4 x7 x9 (1 : Int32) S
def f7_on_39 : Nat → Int32 → Int32 → Int32 → Int32 → Zs → Option (Int64 × Zs)
  | 0 => fun _ _ _ _ _ => none
  | n + 1 => fun x1 x2 x3 x4 S =>
    if S.1 0 6 ≤ x4 then
      if x2 = 0 then
        if x3 = 0 then
          some ((0 : Int64), S)
        else
          some ((-1 : Int64), S)
      else
        if x3 = 0 then
          some ((1 : Int64), S)
        else
          some ((2 : Int64), S)
    else
      bd1 (f7_priceOf S (f7_every S) x4) fun r55 =>
      if inb x1 3 = true then
        bd1 (f7_partOf (S.2 11 x1.toNatClampNeg) r55 (0 : Int32)) fun r69 =>
        if inb (((6 : Int32) * x1) + x4) 18 = true then
          lt_ (r69 * (S.2 16 (((6 : Int32) * x1) + x4).toNatClampNeg)) fun v85 =>
          if inb (((6 : Int32) * x1) + x4) 18 = true then
            if inb x1 3 = true then
              bd1 (f7_partOf (S.2 11 x1.toNatClampNeg) r55 (1 : Int32)) fun r108 =>
              lt_ ((S.2 15 (((6 : Int32) * x1) + x4).toNatClampNeg) * r108) fun v112 =>
              if x2 = 0 then
                if v85 ≤ v112 then
                  f7_on_131 (f7_on_39 n) x1 x3 x4 v85 v112 (0 : Int32) S
                else
                  f7_on_126 (f7_on_39 n) x1 x3 x4 v85 v112 S
              else
                f7_on_126 (f7_on_39 n) x1 x3 x4 v85 v112 S
            else none
          else none
        else none
      else none
def f7_on (x1 : Int32) (S : Zs) : Option (Int64 × Zs) :=
  lt_ (zI S 0 0 (0 : Int32)) fun S2 =>
  if f7_isLand S2 x1 = 0 then
    some ((-9000000000000000001 : Int64), S2)
  else
    if S2.1 0 25 = 0 then
      some ((-9000000000000000002 : Int64), S2)
    else
      bd1 (f7_restAll S2) fun S29 =>
      f7_on_39 fuel0 x1 (0 : Int32) (0 : Int32) (0 : Int32) S29
def f7_isOther_66 (x1 : Int32) (x2 : Int32) (x5 : Int32) (t0 : Int32) (S : Zs) : Option (Int32 × Zs) :=
  if inb (((6 : Int32) * x1) + x2) 18 = true then lt_ (zI S 6 (((6 : Int32) * x1) + x2).toNatClampNeg x5) fun S80 =>
    if bok t0 = true then some (t0, S80) else none
  else none
def f7_isOther (x1 : Int32) (x2 : Int32) (x3 : Int32) (x4 : Int32) (S : Zs) : Option (Int32 × Zs) :=
  if f7_in x3.toInt64 (1 : Int64) (20 : Int64) = 0 then
    some ((0 : Int32), S)
  else
    if inb (((6 : Int32) * x1) + x2) 18 = true then
      lt_ (S.1 6 (((6 : Int32) * x1) + x2).toNatClampNeg) fun v25 =>
      if inb (((6 : Int32) * x1) + x2) 18 = true then lt_ (zI S 6 (((6 : Int32) * x1) + x2).toNatClampNeg x3) fun S38 =>
        bd1 (f7_rest (f7_every S38) S38) fun S44 =>
        bd1 (f7_makersOf S44 (f7_every S44) x2) fun r53 =>
        if r53 = x4 then
          f7_isOther_66 x1 x2 v25 (0 : Int32) S44
        else
          f7_isOther_66 x1 x2 v25 (1 : Int32) S44
      else none
    else none
def f7_edge_55 : Nat → Int32 → Int32 → Int32 → Int32 → Int32 → Zs → Option (Int64 × Zs)
  | 0 => fun _ _ _ _ _ _ => none
  | n + 1 => fun x1 x2 x3 x4 x5 S =>
    if (20 : Int32) ≤ x5 then
      some ((-1000000 : Int64), S)
    else
      bd2 (f7_isOther x1 x2 (x4 + x5) x3 S) fun r71 S71 =>
      if r71 = 0 then
        bd2 (f7_isOther x1 x2 (x4 - x5) x3 S71) fun r90 S90 =>
        if r90 = 0 then
          lt_ (x5 + (1 : Int32)) fun v101 =>
          f7_edge_55 n x1 x2 x3 x4 v101 S90
        else
          some ((-x5).toInt64, S90)
      else
        some (x5.toInt64, S71)
def f7_edge (x1 : Int32) (x2 : Int32) (S : Zs) : Option (Int64 × Zs) :=
  lt_ (zI S 0 0 (0 : Int32)) fun S2 =>
  if f7_isLand S2 x1 = 0 then
    some ((-9000000000000000001 : Int64), S2)
  else
    if f7_isGood S2 x2 = 0 then
      some ((-9000000000000000001 : Int64), S2)
    else
      bd1 (f7_restAll S2) fun S26 =>
      bd1 (f7_makersOf S26 (f7_every S26) x2) fun r35 =>
      if inb (((6 : Int32) * x1) + x2) 18 = true then
        lt_ (S26.1 6 (((6 : Int32) * x1) + x2).toNatClampNeg) fun v50 =>
        f7_edge_55 fuel0 x1 x2 r35 v50 (1 : Int32) S26
      else none
def f7_movesOne_61 (k10 : Int32 → Int32 → Int32 → Zs → Option (Int32 × Zs)) (x1 : Int32) (x3 : Int32) (t0 : Int32) (S : Zs) : Option (Int32 × Zs) :=
  lt_ (x3 + (1 : Int32)) fun v62 =>
  k10 x1 t0 v62 S
def f7_movesOne_39 (k10 : Int32 → Int32 → Int32 → Zs → Option (Int32 × Zs)) (x2 : Int32) (x3 : Int32) (t0 : Int32) (S : Zs) : Option (Int32 × Zs) :=
  if inb x3 3 = true then
    if inb x2 3 = true then
      if S.2 11 x3.toNatClampNeg ≤ S.2 11 x2.toNatClampNeg then
        f7_movesOne_61 k10 t0 x3 x2 S
      else
        f7_movesOne_61 k10 t0 x3 x3 S
    else none
  else none
def f7_movesOne_10 : Nat → Int32 → Int32 → Int32 → Zs → Option (Int32 × Zs)
  | 0 => fun _ _ _ _ => none
  | n + 1 => fun x1 x2 x3 S =>
    if S.1 0 5 ≤ x3 then
      if x1 = x2 then
        some ((0 : Int32), S)
      else
        if inb x1 3 = true then
          if S.1 5 x1.toNatClampNeg < (2 : Int32) then
            some ((0 : Int32), S)
          else
            if inb x2 3 = true then
              if S.1 5 x2.toNatClampNeg ≤ (98 : Int32) then
                if inb x1 3 = true then
                  if inb x1 3 = true then lt_ (zI S 5 x1.toNatClampNeg ((S.1 5 x1.toNatClampNeg) - (1 : Int32))) fun S105 =>
                    if inb x2 3 = true then
                      if inb x2 3 = true then lt_ (zI S105 5 x2.toNatClampNeg ((S105.1 5 x2.toNatClampNeg) + (1 : Int32))) fun S115 =>
                        lt_ (zI S115 0 29 (0 : Int32)) fun S118 =>
                        bd1 (f7_restAll S118) fun S122 =>
                        if inb x2 3 = true then
                          if inb x1 3 = true then
                            if S122.2 11 x2.toNatClampNeg < S122.2 11 x1.toNatClampNeg then
                              if inb x1 3 = true then
                                if inb x1 3 = true then lt_ (zI S122 5 x1.toNatClampNeg ((S122.1 5 x1.toNatClampNeg) + (1 : Int32))) fun S152 =>
                                  if inb x2 3 = true then
                                    if inb x2 3 = true then lt_ (zI S152 5 x2.toNatClampNeg ((S152.1 5 x2.toNatClampNeg) - (1 : Int32))) fun S162 =>
                                      lt_ (zI S162 0 29 (0 : Int32)) fun S165 =>
                                      some ((0 : Int32), S165)
                                    else none
                                  else none
                                else none
                              else none
                            else
                              some ((1 : Int32), S122)
                          else none
                        else none
                      else none
                    else none
                  else none
                else none
              else
                some ((0 : Int32), S)
            else none
        else none
    else
      if inb x3 3 = true then
        if inb x1 3 = true then
          if S.2 11 x1.toNatClampNeg ≤ S.2 11 x3.toNatClampNeg then
            f7_movesOne_39 (f7_movesOne_10 n) x2 x3 x1 S
          else
            f7_movesOne_39 (f7_movesOne_10 n) x2 x3 x3 S
        else none
      else none
def f7_movesOne (S : Zs) : Option (Int32 × Zs) :=
  bd1 (f7_restAll S) fun S1 =>
  f7_movesOne_10 fuel0 (0 : Int32) (0 : Int32) (1 : Int32) S1
def f7_move_38 : Nat → Int32 → Int32 → Zs → Option (Int64 × Zs)
  | 0 => fun _ _ _ => none
  | n + 1 => fun x1 x2 S =>
    if x1 ≤ x2 then
      some (x2.toInt64, S)
    else
      bd2 (f7_movesOne S) fun r44 S44 =>
      if r44 = 0 then
        some (x2.toInt64, S44)
      else
        lt_ (x2 + (1 : Int32)) fun v50 =>
        f7_move_38 n x1 v50 S44
def f7_move (x1 : Int32) (S : Zs) : Option (Int64 × Zs) :=
  lt_ (zI S 0 0 (0 : Int32)) fun S2 =>
  if f7_in x1.toInt64 (1 : Int64) (5 : Int64) = 0 then
    some ((-9000000000000000001 : Int64), S2)
  else
    if S2.1 0 5 = 0 then
      some ((-9000000000000000002 : Int64), S2)
    else
      bd1 (f7_note S2) fun S33 =>
      f7_move_38 fuel0 x1 (0 : Int32) S33
def f7_bits (x0 : Int32) : Int32 :=
  ((x0 &&& (1 : Int32)) + ((x0 >>> ((1 : Int32) &&& 31)) &&& (1 : Int32))) + ((x0 >>> ((2 : Int32) &&& 31)) &&& (1 : Int32))
def f7_kindOf (x1 : Int32) (S : Zs) : Option (Int32 × Zs) :=
  bd1 (f7_restAll S) fun S1 =>
  bd1 (f7_makersOf S1 (f7_every S1) x1) fun r10 =>
  if f7_bits r10 ≤ (1 : Int32) then
    if r10 = (1 : Int32) then
      bd1 (f7_priceOf S1 (f7_every S1) x1) fun r51 =>
      if inb (0 : Int32) 3 = true then
        if r51 < (10 : Int64) * (S1.2 11 (0 : Int32).toNatClampNeg) then
          some ((4 : Int32), S1)
        else
          some ((5 : Int32), S1)
      else none
    else
      some ((1 : Int32), S1)
  else
    if r10 = f7_every S1 then
      some ((3 : Int32), S1)
    else
      some ((2 : Int32), S1)
def f7_isOf_34 (x0 : Int32) (x1 : Int32) : Int32 :=
  if x1 = (4 : Int32) then
    if x0 = (5 : Int32) then
      (1 : Int32)
    else
      (0 : Int32)
  else
    (0 : Int32)
def f7_isOf_19 (x0 : Int32) (x1 : Int32) : Int32 :=
  if x1 = (1 : Int32) then
    if x0 ≤ (2 : Int32) then
      f7_isOf_34 x0 x1
    else
      if x0 = (3 : Int32) then
        f7_isOf_34 x0 x1
      else
        (1 : Int32)
  else
    f7_isOf_34 x0 x1
def f7_isOf (x0 : Int32) (x1 : Int32) : Int32 :=
  if x1 = 0 then
    (1 : Int32)
  else
    if x0 = x1 then
      (1 : Int32)
    else
      if x1 = (2 : Int32) then
        if x0 = (3 : Int32) then
          (1 : Int32)
        else
          f7_isOf_19 x0 x1
      else
        f7_isOf_19 x0 x1
def f7_kind (x1 : Int32) (S : Zs) : Option (Int64 × Zs) :=
  lt_ (zI S 0 0 (0 : Int32)) fun S2 =>
  if f7_isGood S2 x1 = 0 then
    some ((-9000000000000000001 : Int64), S2)
  else
    bd2 (f7_kindOf x1 S2) fun r15 S15 =>
    some (r15.toInt64, S15)
def f7_as (x1 : Int32) (x2 : Int32) (S : Zs) : Option (Int64 × Zs) :=
  lt_ (zI S 0 0 (0 : Int32)) fun S2 =>
  if f7_isGood S2 x1 = 0 then
    some ((-9000000000000000001 : Int64), S2)
  else
    if f7_in x2.toInt64 (0 : Int64) (5 : Int64) = 0 then
      some ((-9000000000000000001 : Int64), S2)
    else
      lt_ (zI S2 0 1 (0 : Int32)) fun S31 =>
      bd2 (f7_kindOf x1 S31) fun r36 S36 =>
      if f7_isOf r36 x2 = 0 then
        bd2 (f7_finding (3 : Int32) S36) fun r53 S53 =>
        some (r53, S53)
      else
        some (x1.toInt64, S36)
def f7_began (x1 : Int32) (S : Zs) : Option Zs :=
  if (16 : Int32) ≤ S.1 0 36 then
    some S
  else
    if inb (S.1 0 36) 16 = true then lt_ (zI S 17 (S.1 0 36).toNatClampNeg x1) fun S18 =>
      lt_ (zI S18 0 36 ((S18.1 0 36) + (1 : Int32))) fun S26 =>
      some S26
    else none
def f7_shareOf (x1 : Int32) (S : Zs) : Option (Int32 × Zs) :=
  bd1 (f7_began (10 : Int32) S) fun S3 =>
  if inb x1 6 = true then
    some (S3.1 4 x1.toNatClampNeg, S3)
  else none
def f7_aloneMark_55 (x1 : Int32) (x2 : Int32) (t0 : Int32) (S : Zs) : Option (Int32 × Zs) :=
  if f7_isOf x2 (4 : Int32) = 0 then
    some ((x1 + ((10 : Int32) * t0)) + (0 : Int32), S)
  else
    some ((x1 + ((10 : Int32) * t0)) + (100 : Int32), S)
def f7_aloneMark_14 (x1 : Int32) (x2 : Int32) (S : Zs) : Option (Int32 × Zs) :=
  bd1 (f7_began (21 : Int32) S) fun S17 =>
  bd1 (f7_began (20 : Int32) S17) fun S23 =>
  bd1 (f7_makersOf S23 (f7_every S23) x1) fun r32 =>
  if r32 = (1 : Int32) then
    f7_aloneMark_55 x1 x2 (0 : Int32) S23
  else
    if r32 = (2 : Int32) then
      f7_aloneMark_55 x1 x2 (1 : Int32) S23
    else
      f7_aloneMark_55 x1 x2 (2 : Int32) S23
def f7_aloneMark (x1 : Int32) (x2 : Int32) (S : Zs) : Option (Int32 × Zs) :=
  if f7_isOf x2 (4 : Int32) = 0 then
    f7_aloneMark_14 x1 x2 S
  else
    bd1 (f7_began (23 : Int32) S) fun S11 =>
    f7_aloneMark_14 x1 x2 S11
def f7_commonSize_11 (x1 : Int32) (x2 : Int32) (S : Zs) : Option (Int32 × Zs) :=
  bd1 (f7_began (12 : Int32) S) fun S14 =>
  bd2 (f7_shareOf x1 S14) fun r19 S19 =>
  bd1 (f7_makersOf S19 (f7_every S19) x1) fun r28 =>
  lt_ (r19 * (f7_bits r28)) fun v35 =>
  if x2 = (3 : Int32) then
    some (v35 - (1 : Int32), S19)
  else
    some (v35, S19)
def f7_commonSize (x1 : Int32) (x2 : Int32) (S : Zs) : Option (Int32 × Zs) :=
  if x2 = (3 : Int32) then
    bd1 (f7_began (13 : Int32) S) fun S8 =>
    f7_commonSize_11 x1 x2 S8
  else
    f7_commonSize_11 x1 x2 S
def f7_sizeOf_76 (x1 : Int32) (x2 : Int32) (t0 : Int32) (S : Zs) : Option (Int32 × Zs) :=
  if x2 = (5 : Int32) then
    bd2 (f7_aloneMark x1 x2 S) fun r86 S86 =>
    some (t0 - r86, S86)
  else
    some (t0, S)
def f7_sizeOf_40 (x1 : Int32) (x2 : Int32) (S : Zs) : Option (Int32 × Zs) :=
  bd1 (f7_began (11 : Int32) S) fun S43 =>
  bd2 (f7_shareOf x1 S43) fun r48 S48 =>
  bd2 (f7_aloneMark x1 x2 S48) fun r56 S56 =>
  lt_ (r48 + r56) fun v60 =>
  if f7_isOf x2 (4 : Int32) = 0 then
    f7_sizeOf_76 x1 x2 v60 S56
  else
    f7_sizeOf_76 x1 x2 ((2 : Int32) * v60) S56
def f7_sizeOf_26 (x1 : Int32) (x2 : Int32) (S : Zs) : Option (Int32 × Zs) :=
  if f7_isOf x2 (4 : Int32) = 0 then
    f7_sizeOf_40 x1 x2 S
  else
    bd1 (f7_began (14 : Int32) S) fun S37 =>
    f7_sizeOf_40 x1 x2 S37
def f7_sizeOf (x1 : Int32) (x2 : Int32) (S : Zs) : Option (Int32 × Zs) :=
  if f7_isOf x2 (2 : Int32) = 0 then
    if x2 = (5 : Int32) then
      bd1 (f7_began (15 : Int32) S) fun S23 =>
      f7_sizeOf_26 x1 x2 S23
    else
      f7_sizeOf_26 x1 x2 S
  else
    bd2 (f7_commonSize x1 x2 S) fun r11 S11 =>
    some (r11, S11)
def f7_markOf_26 (x1 : Int32) (x2 : Int32) (S : Zs) : Option (Int32 × Zs) :=
  bd1 (f7_began (20 : Int32) S) fun S29 =>
  if x2 = (3 : Int32) then
    bd2 (f7_commonSize x1 x2 S29) fun r41 S41 =>
    some (x1 + r41, S41)
  else
    some (x1, S29)
def f7_markOf (x1 : Int32) (x2 : Int32) (S : Zs) : Option (Int32 × Zs) :=
  if f7_isOf x2 (2 : Int32) = 0 then
    bd2 (f7_aloneMark x1 x2 S) fun r11 S11 =>
    some (r11, S11)
  else
    if x2 = (3 : Int32) then
      bd1 (f7_began (22 : Int32) S) fun S23 =>
      f7_markOf_26 x1 x2 S23
    else
      f7_markOf_26 x1 x2 S
def f7_ask (x1 : Int32) (x2 : Int32) (S : Zs) : Option (Int64 × Zs) :=
  lt_ (zI S 0 0 (0 : Int32)) fun S2 =>
  if f7_isGood S2 x1 = 0 then
    some ((-9000000000000000001 : Int64), S2)
  else
    if f7_in x2.toInt64 (0 : Int64) (1 : Int64) = 0 then
      some ((-9000000000000000001 : Int64), S2)
    else
      lt_ (zI S2 0 36 (0 : Int32)) fun S29 =>
      bd2 (f7_kindOf x1 S29) fun r34 S34 =>
      if x2 = 0 then
        bd2 (f7_sizeOf x1 r34 S34) fun r45 S45 =>
        some (r45.toInt64, S45)
      else
        bd2 (f7_markOf x1 r34 S34) fun r55 S55 =>
        some (r55.toInt64, S55)
def f7_trace (x1 : Int32) (S : Zs) : Option (Int32 × Zs) :=
  lt_ (zI S 0 0 (0 : Int32)) fun S2 =>
  if f7_in x1.toInt64 (0 : Int64) (((S2.1 0 36) - (1 : Int32)).toInt64) = 0 then
    some ((-1000000 : Int32), S2)
  else
    if inb x1 16 = true then
      some (S2.1 17 x1.toNatClampNeg, S2)
    else none
def f7_count_71 (k50 : Int32 → Int32 → Zs → Option (Int64 × Zs)) (x3 : Int32) (t0 : Int32) (t1 : Int32) (S : Zs) : Option (Int64 × Zs) :=
  lt_ (t1 + t0) fun v72 =>
  lt_ (x3 + (1 : Int32)) fun v73 =>
  k50 v72 v73 S
def f7_count_50 : Nat → Int32 → Int32 → Zs → Option (Int64 × Zs)
  | 0 => fun _ _ _ => none
  | n + 1 => fun x2 x3 S =>
    if (8 : Int32) ≤ x3 then
      some (x2.toInt64, S)
    else
      if inb x3 8 = true then
        if S.1 1 x3.toNatClampNeg < 0 then
          f7_count_71 (f7_count_50 n) x3 (0 : Int32) x2 S
        else
          f7_count_71 (f7_count_50 n) x3 (1 : Int32) x2 S
      else none
def f7_count_96 : Nat → Int32 → Int32 → Zs → Option (Int64 × Zs)
  | 0 => fun _ _ _ => none
  | n + 1 => fun x2 x3 S =>
    if S.1 0 5 ≤ x3 then
      some (x2.toInt64, S)
    else
      if inb x3 3 = true then
        lt_ (x2 + (S.1 5 x3.toNatClampNeg)) fun v112 =>
        lt_ (x3 + (1 : Int32)) fun v113 =>
        f7_count_96 n v112 v113 S
      else none
def f7_count_165 (k135 : Int32 → Int32 → Zs → Option (Int64 × Zs)) (x3 : Int32) (t0 : Int32) (t1 : Int32) (S : Zs) : Option (Int64 × Zs) :=
  lt_ (t1 + t0) fun v166 =>
  lt_ (x3 + (1 : Int32)) fun v167 =>
  k135 v166 v167 S
def f7_count_135 : Nat → Int32 → Int32 → Zs → Option (Int64 × Zs)
  | 0 => fun _ _ _ => none
  | n + 1 => fun x2 x3 S =>
    if S.1 0 6 ≤ x3 then
      some (x2.toInt64, S)
    else
      bd1 (f7_makersOf S (f7_every S) x3) fun r150 =>
      if f7_bits r150 ≤ (1 : Int32) then
        f7_count_165 (f7_count_135 n) x3 (0 : Int32) x2 S
      else
        f7_count_165 (f7_count_135 n) x3 (1 : Int32) x2 S
def f7_count_133 (x2 : Int32) (S : Zs) : Option (Int64 × Zs) :=
  f7_count_135 fuel0 x2 (0 : Int32) S
def f7_count (x1 : Int32) (S : Zs) : Option (Int64 × Zs) :=
  lt_ (zI S 0 0 (0 : Int32)) fun S2 =>
  if x1 = 0 then
    f7_count_50 fuel0 (0 : Int32) (0 : Int32) S2
  else
  if x1 = 1 then
    some ((S2.1 0 5).toInt64, S2)
  else
  if x1 = 2 then
    some ((S2.1 0 6).toInt64, S2)
  else
  if x1 = 3 then
    f7_count_96 fuel0 (0 : Int32) (0 : Int32) S2
  else
  if x1 = 4 then
    if S2.1 0 5 ≤ 0 then
      f7_count_133 (0 : Int32) S2
    else
      bd1 (f7_restAll S2) fun S130 =>
      f7_count_133 (0 : Int32) S130
  else
  if x1 = 5 then
    some ((S2.1 0 16).toInt64, S2)
  else
    some ((-9000000000000000001 : Int64), S2)
def f7_status (S : Zs) : Option (Int32 × Zs) :=
  lt_ (zI S 0 0 (0 : Int32)) fun S2 =>
  some (S2.1 0 1, S2)
