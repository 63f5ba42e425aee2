def di_X_isNode (x0 : Int) : Option Int :=
  (rg x0).bind fun _ =>
  if x0 < (0 : Int) then
    (biz (0 : Int)).bind fun _ =>
    some (0 : Int)
  else
    if (8 : Int) ≤ x0 then
      (biz (0 : Int)).bind fun _ =>
      some (0 : Int)
    else
      (biz (1 : Int)).bind fun _ =>
      some (1 : Int)
def di_X_isWithin (x0 : Int) (x1 : Int) (x2 : Int) : Option Int :=
  (rg x0).bind fun _ =>
  (rg x1).bind fun _ =>
  if x0 < x1 then
    (biz (0 : Int)).bind fun _ =>
    some (0 : Int)
  else
    (rg x2).bind fun _ =>
    if x2 < x0 then
      (biz (0 : Int)).bind fun _ =>
      some (0 : Int)
    else
      (biz (1 : Int)).bind fun _ =>
      some (1 : Int)
def di_J_fillX7_5 (k20 : MemI → Option MemI) : Nat → Nat → Int → Int → Int → MemI → Option MemI
  | 0, _, _, _, _, _ => none
  | n + 1, x0, x1, x2, x3, z =>
    (rg x3).bind fun _ =>
    (rg x2).bind fun _ =>
    if x3 ≤ x2 then
      k20 z
    else
      (aiz 6 x2).bind fun j1 =>
      stN (pN z 7 x0 j1 x1) fun z2 =>
      di_J_fillX7_5 k20 n x0 x1 (x2 + (1 : Int)) x3 z2
def di_J_fillX7 (x0 : Nat) (x1 : Int) (z : MemI) : Option MemI :=
  di_J_fillX7_5
    (fun z3 =>
      some z3)
    FU x0 x1 (0 : Int) (6 : Int) z
def di_P_lay (x0 : Nat) (x1 : Int) (x2 : Int) (x3 : Int) (x4 : Int) (x5 : Int) (z : MemI) : Option MemI :=
  stN (pN z 4 x0 0 x1) fun z1 =>
  stN (pN z1 4 x0 1 x2) fun z2 =>
  stN (pN z2 4 x0 2 x3) fun z3 =>
  stN (pN z3 4 x0 3 x4) fun z4 =>
  stN (pN z4 4 x0 4 x5) fun z5 =>
  stN (pN z5 4 x0 5 (8 : Int)) fun z6 =>
  stN (pN z6 4 x0 6 (4 : Int)) fun z7 =>
  stN (pN z7 4 x0 7 (-1 : Int)) fun z8 =>
  stN (pN z8 4 x0 8 (0 : Int)) fun z9 =>
  stN (pN z9 4 x0 9 (0 : Int)) fun z10 =>
  (biz (0 : Int)).bind fun _ =>
  stN (pN z10 4 x0 10 (0 : Int)) fun z12 =>
  (di_J_fillX7 x0 (0 : Int) z12).bind fun z13 =>
  some z13
def di_X_shortenOver_13 (k119 : Int → Int → Int → Int → MemI → Option MemI) : Nat → Int → Int → Int → Int → Int → MemI → Option MemI
  | 0, _, _, _, _, _, _ => none
  | n + 1, x1, x2, x3, x4, x5, z =>
    (rg x5).bind fun _ =>
    if (8 : Int) ≤ x5 then
      k119 x1 x2 x3 x4 z
    else
      (aiz 8 x4).bind fun j1 =>
      (aiz 8 x1).bind fun j2 =>
      (rg (z.1 2 j1 j2)).bind fun _ =>
      if (z.1 2 j1 j2) = (-1 : Int) then
        di_X_shortenOver_13 k119 n x1 x2 x3 x4 (x5 + (1 : Int)) z
      else
        (aiz 8 x2).bind fun j3 =>
        (aiz 8 x5).bind fun j4 =>
        (rg (z.1 2 j3 j4)).bind fun _ =>
        if (z.1 2 j3 j4) = (-1 : Int) then
          di_X_shortenOver_13 k119 n x1 x2 x3 x4 (x5 + (1 : Int)) z
        else
          (aiz 8 x4).bind fun j5 =>
          (aiz 8 x1).bind fun j6 =>
          (aiz 8 x2).bind fun j7 =>
          (aiz 8 x5).bind fun j8 =>
          stW (((z.1 2 j5 j6) + x3) + (z.1 2 j7 j8)) fun v9 =>
          (aiz 8 x4).bind fun j10 =>
          (aiz 8 x5).bind fun j11 =>
          (rg (z.1 2 j10 j11)).bind fun _ =>
          if (z.1 2 j10 j11) = (-1 : Int) then
            (aiz 8 x4).bind fun j12 =>
            (aiz 8 x5).bind fun j13 =>
            stN (pN z 2 j12 j13 v9) fun z14 =>
            di_X_shortenOver_13 k119 n x1 x2 x3 x4 (x5 + (1 : Int)) z14
          else
            (aiz 8 x4).bind fun j15 =>
            (aiz 8 x5).bind fun j16 =>
            (rg (z.1 2 j15 j16)).bind fun _ =>
            (rg v9).bind fun _ =>
            if (z.1 2 j15 j16) ≤ v9 then
              di_X_shortenOver_13 k119 n x1 x2 x3 x4 (x5 + (1 : Int)) z
            else
              (aiz 8 x4).bind fun j17 =>
              (aiz 8 x5).bind fun j18 =>
              stN (pN z 2 j17 j18 v9) fun z19 =>
              di_X_shortenOver_13 k119 n x1 x2 x3 x4 (x5 + (1 : Int)) z19
def di_X_shortenOver_3 (k125 : MemI → Option MemI) : Nat → Int → Int → Int → Int → MemI → Option MemI
  | 0, _, _, _, _, _ => none
  | n + 1, x1, x2, x3, x4, z =>
    (rg x4).bind fun _ =>
    if (8 : Int) ≤ x4 then
      k125 z
    else
      di_X_shortenOver_13
        (fun x1 x2 x3 x4 z20 =>
          di_X_shortenOver_3 k125 n x1 x2 x3 (x4 + (1 : Int)) z20)
        FU x1 x2 x3 x4 (0 : Int) z
def di_X_shortenOver (x1 : Int) (x2 : Int) (x3 : Int) (z : MemI) : Option MemI :=
  di_X_shortenOver_3
    (fun z21 =>
      some z21)
    FU x1 x2 x3 (0 : Int) z
def di_X_link (x1 : Int) (x2 : Int) (x3 : Int) (x4 : Int) (x5 : Int) (z : MemI) : Option (Int × MemI) :=
  (rg (z.1 0 0 9)).bind fun _ =>
  if (z.1 0 0 9) = (0 : Int) then
    (rg (z.1 0 0 6)).bind fun _ =>
    if (12 : Int) ≤ (z.1 0 0 6) then
      some ((-1 : Int), z)
    else
      (di_X_isNode x1).bind fun v1 =>
      (rg v1).bind fun _ =>
      if v1 = (0 : Int) then
        some ((-1 : Int), z)
      else
        (di_X_isNode x2).bind fun v2 =>
        (rg v2).bind fun _ =>
        if v2 = (0 : Int) then
          some ((-1 : Int), z)
        else
          (rg x1).bind fun _ =>
          (rg x2).bind fun _ =>
          if x1 = x2 then
            some ((-1 : Int), z)
          else
            (di_X_isWithin x3 (1 : Int) (100 : Int)).bind fun v3 =>
            (rg v3).bind fun _ =>
            if v3 = (0 : Int) then
              some ((-1 : Int), z)
            else
              (di_X_isWithin x4 (1 : Int) (16 : Int)).bind fun v4 =>
              (rg v4).bind fun _ =>
              if v4 = (0 : Int) then
                some ((-1 : Int), z)
              else
                (di_X_isWithin x5 (0 : Int) (40 : Int)).bind fun v5 =>
                (rg v5).bind fun _ =>
                if v5 = (0 : Int) then
                  some ((-1 : Int), z)
                else
                  (aiz 24 ((2 : Int) * (z.1 0 0 6))).bind fun j6 =>
                  (di_P_lay j6 x1 x2 x3 x4 x5 z).bind fun z7 =>
                  (aiz 24 (((2 : Int) * (z.1 0 0 6)) + (1 : Int))).bind fun j8 =>
                  (di_P_lay j8 x2 x1 x3 x4 x5 z7).bind fun z9 =>
                  stN (pN z9 0 0 6 ((z9.1 0 0 6) + (1 : Int))) fun z10 =>
                  (di_X_shortenOver x1 x2 x3 z10).bind fun z11 =>
                  (di_X_shortenOver x2 x1 x3 z11).bind fun z12 =>
                  some ((z.1 0 0 6), z12)
  else
    some ((-1 : Int), z)
def di_X_isPort (x1 : Int) (z : MemI) : Option (Int × MemI) :=
  (di_X_isWithin x1 (0 : Int) (((2 : Int) * (z.1 0 0 6)) - (1 : Int))).bind fun v1 =>
  (biz v1).bind fun _ =>
  some (v1, z)
def di_X_shape (x1 : Int) (x2 : Int) (x3 : Int) (z : MemI) : Option (Int × MemI) :=
  (rg (z.1 0 0 9)).bind fun _ =>
  if (z.1 0 0 9) = (0 : Int) then
    (di_X_isPort x1 z).bind fun r2 =>
    (rg r2.1).bind fun _ =>
    if r2.1 = (0 : Int) then
      (biz (0 : Int)).bind fun _ =>
      some ((0 : Int), r2.2)
    else
      (di_X_isWithin x2 (1 : Int) (16 : Int)).bind fun v4 =>
      (rg v4).bind fun _ =>
      if v4 = (0 : Int) then
        (biz (0 : Int)).bind fun _ =>
        some ((0 : Int), r2.2)
      else
        (di_X_isWithin x3 (1 : Int) (8 : Int)).bind fun v6 =>
        (rg v6).bind fun _ =>
        if v6 = (0 : Int) then
          (biz (0 : Int)).bind fun _ =>
          some ((0 : Int), r2.2)
        else
          (aiz 24 x1).bind fun j7 =>
          stN (pN r2.2 4 j7 5 x2) fun z8 =>
          (aiz 24 x1).bind fun j9 =>
          stN (pN z8 4 j9 6 x3) fun z10 =>
          (biz (1 : Int)).bind fun _ =>
          some ((1 : Int), z10)
  else
    (biz (0 : Int)).bind fun _ =>
    some ((0 : Int), z)
def di_F_found (x0 : Nat) (x1 : Int) (x2 : Int) (x3 : Int) (x4 : Int) (z : MemI) : Option MemI :=
  stN (pN z 9 x0 0 x1) fun z1 =>
  stN (pN z1 9 x0 1 x2) fun z2 =>
  stN (pN z2 9 x0 2 x3) fun z3 =>
  stN (pN z3 9 x0 3 x4) fun z4 =>
  stN (pN z4 9 x0 4 (4 : Int)) fun z5 =>
  stN (pN z5 9 x0 5 (100 : Int)) fun z6 =>
  stN (pN z6 9 x0 6 (0 : Int)) fun z7 =>
  stN (pN z7 9 x0 7 (0 : Int)) fun z8 =>
  stN (pN z8 9 x0 8 (0 : Int)) fun z9 =>
  stN (pN z9 9 x0 9 (0 : Int)) fun z10 =>
  stN (pN z10 9 x0 10 (0 : Int)) fun z11 =>
  stN (pN z11 9 x0 11 (0 : Int)) fun z12 =>
  stN (pN z12 9 x0 12 (0 : Int)) fun z13 =>
  stN (pN z13 9 x0 13 (0 : Int)) fun z14 =>
  some z14
def di_X_flow (x1 : Int) (x2 : Int) (x3 : Int) (x4 : Int) (z : MemI) : Option (Int × MemI) :=
  (rg (z.1 0 0 9)).bind fun _ =>
  if (z.1 0 0 9) = (0 : Int) then
    (rg (z.1 0 0 7)).bind fun _ =>
    if (6 : Int) ≤ (z.1 0 0 7) then
      some ((-1 : Int), z)
    else
      (di_X_isNode x1).bind fun v1 =>
      (rg v1).bind fun _ =>
      if v1 = (0 : Int) then
        some ((-1 : Int), z)
      else
        (di_X_isNode x2).bind fun v2 =>
        (rg v2).bind fun _ =>
        if v2 = (0 : Int) then
          some ((-1 : Int), z)
        else
          (rg x1).bind fun _ =>
          (rg x2).bind fun _ =>
          if x1 = x2 then
            some ((-1 : Int), z)
          else
            (di_X_isWithin x3 (1 : Int) (100 : Int)).bind fun v3 =>
            (rg v3).bind fun _ =>
            if v3 = (0 : Int) then
              some ((-1 : Int), z)
            else
              (di_X_isWithin x4 (1 : Int) (8 : Int)).bind fun v4 =>
              (rg v4).bind fun _ =>
              if v4 = (0 : Int) then
                some ((-1 : Int), z)
              else
                (aiz 6 (z.1 0 0 7)).bind fun j5 =>
                (di_F_found j5 x1 x2 x3 x4 z).bind fun z6 =>
                stN (pN z6 0 0 7 ((z6.1 0 0 7) + (1 : Int))) fun z7 =>
                some ((z.1 0 0 7), z7)
  else
    some ((-1 : Int), z)
def di_X_isFlow (x1 : Int) (z : MemI) : Option (Int × MemI) :=
  (di_X_isWithin x1 (0 : Int) ((z.1 0 0 7) - (1 : Int))).bind fun v1 =>
  (biz v1).bind fun _ =>
  some (v1, z)
def di_X_tune (x1 : Int) (x2 : Int) (x3 : Int) (x4 : Int) (z : MemI) : Option (Int × MemI) :=
  (rg (z.1 0 0 9)).bind fun _ =>
  if (z.1 0 0 9) = (0 : Int) then
    (di_X_isFlow x1 z).bind fun r2 =>
    (rg r2.1).bind fun _ =>
    if r2.1 = (0 : Int) then
      (biz (0 : Int)).bind fun _ =>
      some ((0 : Int), r2.2)
    else
      (di_X_isWithin x2 (1 : Int) (8 : Int)).bind fun v4 =>
      (rg v4).bind fun _ =>
      if v4 = (0 : Int) then
        (biz (0 : Int)).bind fun _ =>
        some ((0 : Int), r2.2)
      else
        (di_X_isWithin x3 (1 : Int) (200 : Int)).bind fun v5 =>
        (rg v5).bind fun _ =>
        if v5 = (0 : Int) then
          (biz (0 : Int)).bind fun _ =>
          some ((0 : Int), r2.2)
        else
          (di_X_isWithin x4 (0 : Int) (1000 : Int)).bind fun v7 =>
          (rg v7).bind fun _ =>
          if v7 = (0 : Int) then
            (biz (0 : Int)).bind fun _ =>
            some ((0 : Int), r2.2)
          else
            (aiz 6 x1).bind fun j8 =>
            stN (pN r2.2 9 j8 4 x2) fun z9 =>
            (aiz 6 x1).bind fun j10 =>
            stN (pN z9 9 j10 5 x3) fun z11 =>
            (aiz 6 x1).bind fun j12 =>
            stN (pN z11 9 j12 6 x4) fun z13 =>
            (biz (1 : Int)).bind fun _ =>
            some ((1 : Int), z13)
  else
    (biz (0 : Int)).bind fun _ =>
    some ((0 : Int), z)
def di_J_fillX2_5 (k20 : MemI → Option MemI) : Nat → Nat → Int → Int → Int → MemI → Option MemI
  | 0, _, _, _, _, _ => none
  | n + 1, x0, x1, x2, x3, z =>
    (rg x3).bind fun _ =>
    (rg x2).bind fun _ =>
    if x3 ≤ x2 then
      k20 z
    else
      (aiz 8 x2).bind fun j1 =>
      stN (pN z 2 x0 j1 x1) fun z2 =>
      di_J_fillX2_5 k20 n x0 x1 (x2 + (1 : Int)) x3 z2
def di_J_fillX2 (x0 : Nat) (x1 : Int) (z : MemI) : Option MemI :=
  di_J_fillX2_5
    (fun z3 =>
      some z3)
    FU x0 x1 (0 : Int) (8 : Int) z
def di_J_fillX13_5 (k20 : MemI → Option MemI) : Nat → Int → Int → Int → MemI → Option MemI
  | 0, _, _, _, _ => none
  | n + 1, x1, x2, x3, z =>
    (rg x3).bind fun _ =>
    (rg x2).bind fun _ =>
    if x3 ≤ x2 then
      k20 z
    else
      (aiz 70 x2).bind fun j1 =>
      stN (pN z 13 0 j1 x1) fun z2 =>
      di_J_fillX13_5 k20 n x1 (x2 + (1 : Int)) x3 z2
def di_J_fillX13 (x1 : Int) (z : MemI) : Option MemI :=
  di_J_fillX13_5
    (fun z3 =>
      some z3)
    FU x1 (0 : Int) (70 : Int) z
def di_A_unsetAll (z : MemI) : Option MemI :=
  (di_J_fillX13 (0 : Int) z).bind fun z1 =>
  stN (pN z1 12 0 3 (0 : Int)) fun z2 =>
  some z2
def di_J_fillX16_6 (k22 : MemI → Option MemI) : Nat → Int → Int → Int → MemI → Option MemI
  | 0, _, _, _, _ => none
  | n + 1, x1, x3, x4, z =>
    (rg x4).bind fun _ =>
    (rg x3).bind fun _ =>
    if x4 ≤ x3 then
      k22 z
    else
      (aiz 16 x3).bind fun j1 =>
      stN (pM z j1 x1) fun z2 =>
      di_J_fillX16_6 k22 n x1 (x3 + (1 : Int)) x4 z2
def di_J_fillX16 (x1 : Int) (z : MemI) : Option MemI :=
  di_J_fillX16_6
    (fun z3 =>
      some z3)
    FU x1 (0 : Int) (16 : Int) z
def di_X_clear_22 (k53 : MemI → Option MemI) : Nat → Int → MemI → Option MemI
  | 0, _, _ => none
  | n + 1, x1, z =>
    (rg x1).bind fun _ =>
    if (8 : Int) ≤ x1 then
      k53 z
    else
      (aiz 8 x1).bind fun j6 =>
      (di_J_fillX2 j6 (-1 : Int) z).bind fun z7 =>
      (aiz 8 x1).bind fun j8 =>
      (aiz 8 x1).bind fun j9 =>
      stN (pN z7 2 j8 j9 (0 : Int)) fun z10 =>
      di_X_clear_22 k53 n (x1 + (1 : Int)) z10
def di_X_clear_55 (k77 : MemI → Option MemI) : Nat → Int → MemI → Option MemI
  | 0, _, _ => none
  | n + 1, x1, z =>
    (rg x1).bind fun _ =>
    if (64 : Int) ≤ x1 then
      k77 z
    else
      (aiz 64 x1).bind fun j12 =>
      (biz (0 : Int)).bind fun _ =>
      stN (pN z 11 j12 0 (0 : Int)) fun z14 =>
      di_X_clear_55 k77 n (x1 + (1 : Int)) z14
def di_X_clear (z : MemI) : Option MemI :=
  (biz (0 : Int)).bind fun _ =>
  stN (pN z 0 0 9 (0 : Int)) fun z2 =>
  stN (pN z2 0 0 8 (0 : Int)) fun z3 =>
  stN (pN z3 0 0 6 (0 : Int)) fun z4 =>
  stN (pN z4 0 0 7 (0 : Int)) fun z5 =>
  di_X_clear_22
    (fun z11 =>
      di_X_clear_55
        (fun z15 =>
          (di_A_unsetAll z15).bind fun z16 =>
          (di_J_fillX16 (-1 : Int) z16).bind fun z17 =>
          some z17)
        FU (0 : Int) z11)
    FU (0 : Int) z5
def di_A_set (x1 : Int) (x2 : Int) (x3 : Int) (z : MemI) : Option MemI :=
  (aiz 70 x1).bind fun j1 =>
  stN (pN z 13 0 j1 x2) fun z2 =>
  (aiz 70 x1).bind fun j3 =>
  stN (pN z2 14 0 j3 x3) fun z4 =>
  (aiz 70 x1).bind fun j5 =>
  stN (pN z4 15 0 j5 (z4.1 12 0 3)) fun z6 =>
  stN (pN z6 12 0 3 ((z6.1 12 0 3) + (1 : Int))) fun z7 =>
  some z7
def di_X_begin_15 (k47 : MemI → Option MemI) : Nat → Int → MemI → Option MemI
  | 0, _, _ => none
  | n + 1, x1, z =>
    (rg (z.1 0 0 7)).bind fun _ =>
    (rg x1).bind fun _ =>
    if (z.1 0 0 7) ≤ x1 then
      k47 z
    else
      (aiz 6 x1).bind fun j3 =>
      (di_A_set x1 (1 : Int) (z.1 9 j3 6) z).bind fun z4 =>
      di_X_begin_15 k47 n (x1 + (1 : Int)) z4
def di_X_begin (z : MemI) : Option MemI :=
  (rg (z.1 0 0 9)).bind fun _ =>
  if (z.1 0 0 9) = (0 : Int) then
    (biz (1 : Int)).bind fun _ =>
    stN (pN z 0 0 9 (1 : Int)) fun z2 =>
    di_X_begin_15
      (fun z5 =>
        some z5)
      FU (0 : Int) z2
  else
    some z
def di_A_isBefore (x1 : Int) (x2 : Int) (z : MemI) : Option (Int × MemI) :=
  (aiz 70 x1).bind fun j1 =>
  (aiz 70 x2).bind fun j2 =>
  (rg (z.1 14 0 j1)).bind fun _ =>
  (rg (z.1 14 0 j2)).bind fun _ =>
  if (z.1 14 0 j1) < (z.1 14 0 j2) then
    (biz (1 : Int)).bind fun _ =>
    some ((1 : Int), z)
  else
    (aiz 70 x1).bind fun j4 =>
    (aiz 70 x2).bind fun j5 =>
    (rg (z.1 14 0 j4)).bind fun _ =>
    (rg (z.1 14 0 j5)).bind fun _ =>
    if (z.1 14 0 j4) = (z.1 14 0 j5) then
      (aiz 70 x1).bind fun j7 =>
      (aiz 70 x2).bind fun j8 =>
      (rg (z.1 15 0 j8)).bind fun _ =>
      (rg (z.1 15 0 j7)).bind fun _ =>
      if (z.1 15 0 j8) ≤ (z.1 15 0 j7) then
        (biz (0 : Int)).bind fun _ =>
        some ((0 : Int), z)
      else
        (biz (1 : Int)).bind fun _ =>
        some ((1 : Int), z)
    else
      (biz (0 : Int)).bind fun _ =>
      some ((0 : Int), z)
def di_A_firstSlot_4 (k41 : Int → MemI → Option (Int × MemI)) : Nat → Int → Int → MemI → Option (Int × MemI)
  | 0, _, _, _ => none
  | n + 1, x1, x2, z =>
    (rg x2).bind fun _ =>
    if (70 : Int) ≤ x2 then
      k41 x1 z
    else
      (aiz 70 x2).bind fun j1 =>
      (rg (z.1 13 0 j1)).bind fun _ =>
      if (z.1 13 0 j1) = (0 : Int) then
        di_A_firstSlot_4 k41 n x1 (x2 + (1 : Int)) z
      else
        (rg x1).bind fun _ =>
        if x1 = (-1 : Int) then
          di_A_firstSlot_4 k41 n x2 (x2 + (1 : Int)) z
        else
          (di_A_isBefore x2 x1 z).bind fun r2 =>
          (rg r2.1).bind fun _ =>
          if r2.1 = (0 : Int) then
            di_A_firstSlot_4 k41 n x1 (x2 + (1 : Int)) r2.2
          else
            di_A_firstSlot_4 k41 n x2 (x2 + (1 : Int)) r2.2
def di_A_firstSlot (z : MemI) : Option (Int × MemI) :=
  di_A_firstSlot_4
    (fun x1 z3 =>
      some (x1, z3))
    FU (-1 : Int) (0 : Int) z
def di_A_unset (x1 : Int) (z : MemI) : Option MemI :=
  (aiz 70 x1).bind fun j1 =>
  stN (pN z 13 0 j1 (0 : Int)) fun z2 =>
  some z2
def di_X_remember (x1 : Int) (x2 : Int) (x3 : Int) (z : MemI) : Option MemI :=
  (acz 16 (0 : Int) (1 : Int) (15 : Int)).bind fun _ =>
  stN (cM z (0 : Int) (1 : Int) (15 : Int)) fun z2 =>
  (aiz 16 (0 : Int)).bind fun j3 =>
  (rg (z2.1 0 0 8)).bind fun _ =>
  (rg (x1 * (65536 : Int))).bind fun _ =>
  (rg (x2 * (256 : Int))).bind fun _ =>
  (rg x3).bind fun _ =>
  stN (pM z2 j3 (((((z2.1 0 0 8) * (1048576 : Int)) + (x1 * (65536 : Int))) + (x2 * (256 : Int))) + x3)) fun z4 =>
  some z4
def di_M_min (x0 : Int) (x1 : Int) : Option Int :=
  (rg x1).bind fun _ =>
  (rg x0).bind fun _ =>
  if x1 < x0 then
    some x1
  else
    some x0
def di_X_hasTimer (x1 : Int) (z : MemI) : Option (Int × MemI) :=
  (aiz 70 x1).bind fun j1 =>
  (rg (z.1 13 0 j1)).bind fun _ =>
  if (z.1 13 0 j1) = (4 : Int) then
    (biz (1 : Int)).bind fun _ =>
    some ((1 : Int), z)
  else
    (biz (0 : Int)).bind fun _ =>
    some ((0 : Int), z)
def di_K_enter (x0 : Nat) (x1 : Int) (x2 : Int) (x3 : Int) (x4 : Nat) (z : MemI) : Option MemI :=
  (biz (1 : Int)).bind fun _ =>
  stN (pN z 11 x0 0 (1 : Int)) fun z2 =>
  (biz x3).bind fun _ =>
  stN (pN z2 11 x0 1 x3) fun z4 =>
  stN (pN z4 11 x0 2 x1) fun z5 =>
  stN (pN z5 11 x0 3 x2) fun z6 =>
  (rg x3).bind fun _ =>
  if x3 = (0 : Int) then
    stN (pN z6 11 x0 4 (z6.1 9 x4 3)) fun z7 =>
    if x3 = (0 : Int) then
      stN (pN z7 11 x0 5 (z7.1 9 x4 1)) fun z8 =>
      some z8
    else
      stN (pN z7 11 x0 5 (z7.1 9 x4 0)) fun z9 =>
      some z9
  else
    stN (pN z6 11 x0 4 (1 : Int)) fun z10 =>
    if x3 = (0 : Int) then
      stN (pN z10 11 x0 5 (z10.1 9 x4 1)) fun z11 =>
      some z11
    else
      stN (pN z10 11 x0 5 (z10.1 9 x4 0)) fun z12 =>
      some z12
def di_X_make_18 (k38 : Int → Int → Int → Int → MemI → Option (Int × MemI)) (k66 : Int → MemI → Option (Int × MemI)) : Nat → Int → Int → Int → Int → MemI → Option (Int × MemI)
  | 0, _, _, _, _, _ => none
  | n + 1, x1, x2, x3, x4, z =>
    (rg x4).bind fun _ =>
    if (64 : Int) ≤ x4 then
      k66 x1 z
    else
      (aiz 64 x4).bind fun j3 =>
      (rg (z.1 11 j3 0)).bind fun _ =>
      if (z.1 11 j3 0) = (0 : Int) then
        k38 x1 x2 x3 x4 z
      else
        di_X_make_18 k38 k66 n x1 x2 x3 (x4 + (1 : Int)) z
def di_X_make (x1 : Int) (x2 : Int) (x3 : Int) (z : MemI) : Option (Int × MemI) :=
  (aiz 6 x1).bind fun j1 =>
  stN (pN z 9 j1 10 ((z.1 9 j1 10) + (1 : Int))) fun z2 =>
  di_X_make_18
    (fun x1 x2 x3 x4 z4 =>
      (aiz 64 x4).bind fun j5 =>
      (aiz 6 x1).bind fun j6 =>
      (di_K_enter j5 x1 x2 x3 j6 z4).bind fun z7 =>
      some (x4, z7))
    (fun x1 z8 =>
      (aiz 6 x1).bind fun j9 =>
      stN (pN z8 9 j9 12 ((z8.1 9 j9 12) + (1 : Int))) fun z10 =>
      some ((-1 : Int), z10))
    FU x1 x2 x3 (0 : Int) z2
def di_X_way_35 (k91 : Int → MemI → Option (Int × MemI)) (k99 : MemI → Option (Int × MemI)) : Nat → Int → Int → Int → MemI → Option (Int × MemI)
  | 0, _, _, _, _ => none
  | n + 1, x1, x2, x3, z =>
    (rg ((2 : Int) * (z.1 0 0 6))).bind fun _ =>
    (rg x3).bind fun _ =>
    if ((2 : Int) * (z.1 0 0 6)) ≤ x3 then
      k99 z
    else
      (aiz 24 x3).bind fun j5 =>
      (rg (z.1 4 j5 0)).bind fun _ =>
      (rg x1).bind fun _ =>
      if (z.1 4 j5 0) = x1 then
        (aiz 8 (z.1 4 j5 1)).bind fun j6 =>
        (aiz 8 x2).bind fun j7 =>
        (aiz 8 x1).bind fun j8 =>
        (aiz 8 x2).bind fun j9 =>
        (rg ((z.1 4 j5 2) + (z.1 2 j6 j7))).bind fun _ =>
        (rg (z.1 2 j8 j9)).bind fun _ =>
        if ((z.1 4 j5 2) + (z.1 2 j6 j7)) = (z.1 2 j8 j9) then
          k91 x3 z
        else
          di_X_way_35 k91 k99 n x1 x2 (x3 + (1 : Int)) z
      else
        di_X_way_35 k91 k99 n x1 x2 (x3 + (1 : Int)) z
def di_X_way (x1 : Int) (x2 : Int) (z : MemI) : Option (Int × MemI) :=
  (di_X_isNode x1).bind fun v1 =>
  (rg v1).bind fun _ =>
  if v1 = (0 : Int) then
    some ((-1 : Int), z)
  else
    (di_X_isNode x2).bind fun v2 =>
    (rg v2).bind fun _ =>
    if v2 = (0 : Int) then
      some ((-1 : Int), z)
    else
      (rg x1).bind fun _ =>
      (rg x2).bind fun _ =>
      if x1 = x2 then
        some ((-1 : Int), z)
      else
        (aiz 8 x1).bind fun j3 =>
        (aiz 8 x2).bind fun j4 =>
        (rg (z.1 2 j3 j4)).bind fun _ =>
        if (z.1 2 j3 j4) = (-1 : Int) then
          some ((-1 : Int), z)
        else
          di_X_way_35
            (fun x3 z10 =>
              some (x3, z10))
            (fun z11 =>
              some ((-1 : Int), z11))
            FU x1 x2 (0 : Int) z
def di_X_queuedOf_5 (k42 : Int → MemI → Option (Int × MemI)) : Nat → Nat → Int → Int → Int → MemI → Option (Int × MemI)
  | 0, _, _, _, _, _ => none
  | n + 1, x1, x2, x3, x4, z =>
    (rg (z.1 4 x1 8)).bind fun _ =>
    (rg x4).bind fun _ =>
    if (z.1 4 x1 8) ≤ x4 then
      k42 x3 z
    else
      (aiz 8 x4).bind fun j1 =>
      (aiz 64 (z.1 5 x1 j1)).bind fun j2 =>
      (rg (z.1 11 j2 2)).bind fun _ =>
      (rg x2).bind fun _ =>
      if (z.1 11 j2 2) = x2 then
        di_X_queuedOf_5 k42 n x1 x2 (x3 + (1 : Int)) (x4 + (1 : Int)) z
      else
        di_X_queuedOf_5 k42 n x1 x2 x3 (x4 + (1 : Int)) z
def di_X_queuedOf (x1 : Nat) (x2 : Int) (z : MemI) : Option (Int × MemI) :=
  di_X_queuedOf_5
    (fun x3 z3 =>
      some (x3, z3))
    FU x1 x2 (0 : Int) (0 : Int) z
def di_P_serveFirst (x0 : Nat) (z : MemI) : Option MemI :=
  (rg (z.1 4 x0 10)).bind fun _ =>
  if (z.1 4 x0 10) = (0 : Int) then
    (aiz 6 (0 : Int)).bind fun j1 =>
    (aiz 6 (z.1 6 x0 j1)).bind fun j2 =>
    (aiz 6 (z.1 6 x0 j1)).bind fun j3 =>
    stN (pN z 7 x0 j3 ((z.1 7 x0 j2) + (z.1 4 x0 5))) fun z4 =>
    (biz (1 : Int)).bind fun _ =>
    stN (pN z4 4 x0 10 (1 : Int)) fun z6 =>
    some z6
  else
    some z
def di_X_firstPlaceOf_2 (k36 : Int → MemI → Option (Int × MemI)) : Nat → Nat → Int → Int → MemI → Option (Int × MemI)
  | 0, _, _, _, _ => none
  | n + 1, x1, x2, x3, z =>
    (rg ((z.1 4 x1 8) - (1 : Int))).bind fun _ =>
    (rg x3).bind fun _ =>
    if ((z.1 4 x1 8) - (1 : Int)) ≤ x3 then
      k36 x3 z
    else
      (aiz 8 x3).bind fun j1 =>
      (aiz 64 (z.1 5 x1 j1)).bind fun j2 =>
      (rg (z.1 11 j2 2)).bind fun _ =>
      (rg x2).bind fun _ =>
      if (z.1 11 j2 2) = x2 then
        k36 x3 z
      else
        di_X_firstPlaceOf_2 k36 n x1 x2 (x3 + (1 : Int)) z
def di_X_firstPlaceOf (x1 : Nat) (x2 : Int) (z : MemI) : Option (Int × MemI) :=
  di_X_firstPlaceOf_2
    (fun x3 z3 =>
      some (x3, z3))
    FU x1 x2 (0 : Int) z
def di_P_dropFirst (x0 : Nat) (z : MemI) : Option MemI :=
  (rg (z.1 4 x0 9)).bind fun _ =>
  if (z.1 4 x0 9) ≤ (0 : Int) then
    some z
  else
    stN (pN z 4 x0 9 ((z.1 4 x0 9) - (1 : Int))) fun z1 =>
    (acz 6 (1 : Int) (0 : Int) (z1.1 4 x0 9)).bind fun _ =>
    stN (cN z1 6 x0 (1 : Int) (0 : Int) (z1.1 4 x0 9)) fun z3 =>
    (biz (0 : Int)).bind fun _ =>
    stN (pN z3 4 x0 10 (0 : Int)) fun z5 =>
    some z5
def di_P_append (x0 : Nat) (x1 : Int) (z : MemI) : Option MemI :=
  (rg (z.1 4 x0 9)).bind fun _ =>
  if (6 : Int) ≤ (z.1 4 x0 9) then
    some z
  else
    (aiz 6 (z.1 4 x0 9)).bind fun j1 =>
    stN (pN z 6 x0 j1 x1) fun z2 =>
    stN (pN z2 4 x0 9 ((z2.1 4 x0 9) + (1 : Int))) fun z3 =>
    some z3
def di_P_takeFrom (x0 : Nat) (x1 : Int) (z : MemI) : Option (Int × MemI) :=
  (aiz 8 x1).bind fun j1 =>
  stN (pN z 4 x0 8 ((z.1 4 x0 8) - (1 : Int))) fun z2 =>
  (acz 8 (x1 + (1 : Int)) x1 ((z2.1 4 x0 8) - x1)).bind fun _ =>
  stN (cN z2 5 x0 (x1 + (1 : Int)) x1 ((z2.1 4 x0 8) - x1)) fun z4 =>
  some ((z.1 5 x0 j1), z4)
def di_X_choose_2 (k62 : Nat → Int → Int → Nat → MemI → Option MemI) (k152 : MemI → Option MemI) : Nat → Nat → Int → MemI → Option MemI
  | 0, _, _, _ => none
  | n + 1, x1, x2, z =>
    (rg x2).bind fun _ =>
    if (54 : Int) ≤ x2 then
      k152 z
    else
      (rg (z.1 4 x1 8)).bind fun _ =>
      if (z.1 4 x1 8) ≤ (0 : Int) then
        k152 z
      else
        (aiz 6 (0 : Int)).bind fun j1 =>
        (di_P_serveFirst x1 z).bind fun z2 =>
        (di_X_firstPlaceOf x1 (z.1 6 x1 j1) z2).bind fun r3 =>
        (aiz 8 r3.1).bind fun j4 =>
        (aiz 64 (r3.2.1 5 x1 j4)).bind fun j5 =>
        (aiz 6 (z.1 6 x1 j1)).bind fun j6 =>
        (rg (r3.2.1 7 x1 j6)).bind fun _ =>
        (rg (r3.2.1 11 j5 4)).bind fun _ =>
        if (r3.2.1 7 x1 j6) < (r3.2.1 11 j5 4) then
          (di_P_dropFirst x1 r3.2).bind fun z7 =>
          (di_P_append x1 (z.1 6 x1 j1) z7).bind fun z8 =>
          di_X_choose_2 k62 k152 n x1 (x2 + (1 : Int)) z8
        else
          k62 x1 (z.1 6 x1 j1) r3.1 j5 r3.2
def di_X_choose (x1 : Nat) (z : MemI) : Option MemI :=
  di_X_choose_2
    (fun x1 x3 x4 x5 z9 =>
      (aiz 6 x3).bind fun j10 =>
      (aiz 6 x3).bind fun j11 =>
      stN (pN z9 7 x1 j11 ((z9.1 7 x1 j10) - (z9.1 11 x5 4))) fun z12 =>
      (di_P_takeFrom x1 x4 z12).bind fun r13 =>
      stN (pN r13.2 4 x1 7 r13.1) fun z14 =>
      (di_A_set ((6 : Int) + (z14.1 4 x1 7)) (2 : Int) ((z14.1 0 0 8) + ((z14.1 11 x5 4) * (z14.1 4 x1 3))) z14).bind fun z15 =>
      (di_X_queuedOf x1 x3 z15).bind fun r16 =>
      (rg r16.1).bind fun _ =>
      if r16.1 = (0 : Int) then
        (di_P_dropFirst x1 r16.2).bind fun z17 =>
        (aiz 6 x3).bind fun j18 =>
        stN (pN z17 7 x1 j18 (0 : Int)) fun z19 =>
        some z19
      else
        some r16.2)
    (fun z20 =>
      some z20)
    FU x1 (0 : Int) z
def di_X_put (x1 : Int) (x2 : Int) (z : MemI) : Option MemI :=
  (rg x1).bind fun _ =>
  if x1 = (-1 : Int) then
    some z
  else
    (aiz 64 x1).bind fun j1 =>
    (di_X_way x2 (z.1 11 j1 5) z).bind fun r2 =>
    (rg r2.1).bind fun _ =>
    if r2.1 = (-1 : Int) then
      (biz (0 : Int)).bind fun _ =>
      stN (pN r2.2 11 j1 0 (0 : Int)) fun z4 =>
      (aiz 6 (z4.1 11 j1 2)).bind fun j5 =>
      stN (pN z4 9 j5 12 ((z4.1 9 j5 12) + (1 : Int))) fun z6 =>
      some z6
    else
      (aiz 24 r2.1).bind fun j7 =>
      (aiz 24 r2.1).bind fun j8 =>
      (rg (r2.2.1 4 j7 8)).bind fun _ =>
      (rg (r2.2.1 4 j8 6)).bind fun _ =>
      if (r2.2.1 4 j7 8) < (r2.2.1 4 j8 6) then
        (aiz 24 r2.1).bind fun j9 =>
        stN (pN r2.2 11 j1 6 r2.1) fun z10 =>
        (di_X_queuedOf j9 (z10.1 11 j1 2) z10).bind fun r11 =>
        (rg r11.1).bind fun _ =>
        if r11.1 = (0 : Int) then
          (di_P_append j9 (r11.2.1 11 j1 2) r11.2).bind fun z16 =>
          (aiz 8 (z16.1 4 j9 8)).bind fun j17 =>
          stN (pN z16 5 j9 j17 x1) fun z18 =>
          stN (pN z18 4 j9 8 ((z18.1 4 j9 8) + (1 : Int))) fun z19 =>
          (rg (z19.1 4 j9 7)).bind fun _ =>
          if (z19.1 4 j9 7) = (-1 : Int) then
            (di_X_choose j9 z19).bind fun z20 =>
            some z20
          else
            some z19
        else
          (aiz 8 (r11.2.1 4 j9 8)).bind fun j12 =>
          stN (pN r11.2 5 j9 j12 x1) fun z13 =>
          stN (pN z13 4 j9 8 ((z13.1 4 j9 8) + (1 : Int))) fun z14 =>
          (rg (z14.1 4 j9 7)).bind fun _ =>
          if (z14.1 4 j9 7) = (-1 : Int) then
            (di_X_choose j9 z14).bind fun z15 =>
            some z15
          else
            some z14
      else
        (biz (0 : Int)).bind fun _ =>
        stN (pN r2.2 11 j1 0 (0 : Int)) fun z22 =>
        (aiz 6 (z22.1 11 j1 2)).bind fun j23 =>
        stN (pN z22 9 j23 12 ((z22.1 9 j23 12) + (1 : Int))) fun z24 =>
        some z24
def di_X_setTimer (x1 : Int) (z : MemI) : Option MemI :=
  (aiz 6 x1).bind fun j1 =>
  (di_A_set x1 (4 : Int) ((z.1 0 0 8) + (z.1 9 j1 5)) z).bind fun z2 =>
  some z2
def di_X_fill_30 (k79 : MemI → Option MemI) : Nat → Int → Nat → Int → Int → MemI → Option MemI
  | 0, _, _, _, _, _ => none
  | n + 1, x1, x2, x3, x4, z =>
    (rg x3).bind fun _ =>
    (rg x4).bind fun _ =>
    if x3 ≤ x4 then
      k79 z
    else
      (di_X_hasTimer x1 z).bind fun r3 =>
      (rg r3.1).bind fun _ =>
      if r3.1 = (0 : Int) then
        (di_X_setTimer x1 r3.2).bind fun z7 =>
        (di_X_make x1 x4 (0 : Int) z7).bind fun r8 =>
        (di_X_put r8.1 (r8.2.1 9 x2 0) r8.2).bind fun z9 =>
        stN (pN z9 9 x2 8 (x4 + (1 : Int))) fun z10 =>
        di_X_fill_30 k79 n x1 x2 x3 (x4 + (1 : Int)) z10
      else
        (di_X_make x1 x4 (0 : Int) r3.2).bind fun r4 =>
        (di_X_put r4.1 (r4.2.1 9 x2 0) r4.2).bind fun z5 =>
        stN (pN z5 9 x2 8 (x4 + (1 : Int))) fun z6 =>
        di_X_fill_30 k79 n x1 x2 x3 (x4 + (1 : Int)) z6
def di_X_fill (x1 : Int) (z : MemI) : Option MemI :=
  (aiz 6 x1).bind fun j1 =>
  (di_M_min ((z.1 9 j1 7) + (z.1 9 j1 4)) (z.1 9 j1 2)).bind fun v2 =>
  di_X_fill_30
    (fun z11 =>
      some z11)
    FU x1 j1 v2 (z.1 9 j1 8) z
def di_X_start (x1 : Int) (z : MemI) : Option MemI :=
  (aiz 6 x1).bind fun j1 =>
  (di_X_remember (1 : Int) x1 (z.1 9 j1 8) z).bind fun z2 =>
  (di_X_fill x1 z2).bind fun z3 =>
  some z3
def di_K_label (x0 : Nat) (z : MemI) : Option (Int × MemI) :=
  (rg (z.1 11 x0 1)).bind fun _ =>
  if (z.1 11 x0 1) = (0 : Int) then
    some ((z.1 11 x0 3), z)
  else
    some (((z.1 11 x0 3) + (128 : Int)), z)
def di_X_leave (x1 : Int) (z : MemI) : Option MemI :=
  (aiz 64 x1).bind fun j1 =>
  (aiz 24 (z.1 11 j1 6)).bind fun j2 =>
  (di_K_label j1 z).bind fun r3 =>
  (di_X_remember (2 : Int) (z.1 11 j1 6) r3.1 r3.2).bind fun z4 =>
  stN (pN z4 4 j2 7 (-1 : Int)) fun z5 =>
  (di_A_set ((6 : Int) + x1) (3 : Int) ((z5.1 0 0 8) + (z5.1 4 j2 4)) z5).bind fun z6 =>
  (rg (z6.1 4 j2 8)).bind fun _ =>
  if (z6.1 4 j2 8) ≤ (0 : Int) then
    some z6
  else
    (di_X_choose j2 z6).bind fun z7 =>
    some z7
def di_M_max (x0 : Int) (x1 : Int) : Option Int :=
  (rg x0).bind fun _ =>
  (rg x1).bind fun _ =>
  if x0 < x1 then
    some x1
  else
    some x0
def di_X_moveBase (x1 : Int) (x2 : Int) (z : MemI) : Option MemI :=
  (aiz 6 x1).bind fun j1 =>
  stN (pN z 9 j1 7 x2) fun z2 =>
  (di_M_max (z2.1 9 j1 8) x2).bind fun v3 =>
  stN (pN z2 9 j1 8 v3) fun z4 =>
  (di_A_unset x1 z4).bind fun z5 =>
  (rg (z5.1 9 j1 8)).bind fun _ =>
  (rg (z5.1 9 j1 7)).bind fun _ =>
  if (z5.1 9 j1 8) ≤ (z5.1 9 j1 7) then
    some z5
  else
    (di_X_setTimer x1 z5).bind fun z6 =>
    some z6
def di_X_takeData (x1 : Int) (x2 : Int) (z : MemI) : Option MemI :=
  (aiz 6 x1).bind fun j1 =>
  (rg x2).bind fun _ =>
  (rg (z.1 9 j1 9)).bind fun _ =>
  if x2 = (z.1 9 j1 9) then
    stN (pN z 9 j1 9 ((z.1 9 j1 9) + (1 : Int))) fun z4 =>
    (di_X_make x1 (z4.1 9 j1 9) (1 : Int) z4).bind fun r5 =>
    (di_X_put r5.1 (r5.2.1 9 j1 1) r5.2).bind fun z6 =>
    some z6
  else
    (di_X_make x1 (z.1 9 j1 9) (1 : Int) z).bind fun r2 =>
    (di_X_put r2.1 (r2.2.1 9 j1 1) r2.2).bind fun z3 =>
    some z3
def di_X_arrive (x1 : Int) (z : MemI) : Option MemI :=
  (aiz 64 x1).bind fun j1 =>
  (aiz 24 (z.1 11 j1 6)).bind fun j2 =>
  (di_K_label j1 z).bind fun r3 =>
  (di_X_remember (3 : Int) (z.1 4 j2 1) r3.1 r3.2).bind fun z4 =>
  (rg (z.1 4 j2 1)).bind fun _ =>
  (rg (z4.1 11 j1 5)).bind fun _ =>
  if (z.1 4 j2 1) = (z4.1 11 j1 5) then
    (biz (0 : Int)).bind fun _ =>
    stN (pN z4 11 j1 0 (0 : Int)) fun z6 =>
    (aiz 6 (z6.1 11 j1 2)).bind fun j7 =>
    stN (pN z6 9 j7 11 ((z6.1 9 j7 11) + (1 : Int))) fun z8 =>
    (rg (z8.1 11 j1 1)).bind fun _ =>
    if (z8.1 11 j1 1) = (0 : Int) then
      (di_X_takeData (z8.1 11 j1 2) (z8.1 11 j1 3) z8).bind fun z12 =>
      some z12
    else
      (aiz 6 (z8.1 11 j1 2)).bind fun j9 =>
      (rg (z8.1 11 j1 3)).bind fun _ =>
      (rg (z8.1 9 j9 7)).bind fun _ =>
      if (z8.1 11 j1 3) ≤ (z8.1 9 j9 7) then
        some z8
      else
        (di_X_moveBase (z8.1 11 j1 2) (z8.1 11 j1 3) z8).bind fun z10 =>
        (di_X_fill (z10.1 11 j1 2) z10).bind fun z11 =>
        some z11
  else
    (di_X_put x1 (z.1 4 j2 1) z4).bind fun z13 =>
    some z13
def di_X_timeOut (x1 : Int) (z : MemI) : Option MemI :=
  (aiz 6 x1).bind fun j1 =>
  (di_X_remember (4 : Int) x1 (z.1 9 j1 7) z).bind fun z2 =>
  stN (pN z2 9 j1 13 ((z2.1 9 j1 13) + (1 : Int))) fun z3 =>
  stN (pN z3 9 j1 8 (z3.1 9 j1 7)) fun z4 =>
  (di_X_fill x1 z4).bind fun z5 =>
  some z5
def di_X_happen (z : MemI) : Option (Int × MemI) :=
  (di_A_firstSlot z).bind fun r1 =>
  (rg r1.1).bind fun _ =>
  if r1.1 = (-1 : Int) then
    (biz (0 : Int)).bind fun _ =>
    some ((0 : Int), r1.2)
  else
    (aiz 70 r1.1).bind fun j2 =>
    stN (pN r1.2 0 0 8 (r1.2.1 14 0 j2)) fun z3 =>
    (aiz 70 r1.1).bind fun j4 =>
    (di_A_unset r1.1 z3).bind fun z5 =>
    (rg (z3.1 13 0 j4)).bind fun _ =>
    if (z3.1 13 0 j4) = (1 : Int) then
      (di_X_start r1.1 z5).bind fun z6 =>
      (biz (1 : Int)).bind fun _ =>
      some ((1 : Int), z6)
    else
      if (z3.1 13 0 j4) = (2 : Int) then
        (di_X_leave (r1.1 - (6 : Int)) z5).bind fun z8 =>
        (biz (1 : Int)).bind fun _ =>
        some ((1 : Int), z8)
      else
        if (z3.1 13 0 j4) = (3 : Int) then
          (di_X_arrive (r1.1 - (6 : Int)) z5).bind fun z10 =>
          (biz (1 : Int)).bind fun _ =>
          some ((1 : Int), z10)
        else
          (di_X_timeOut r1.1 z5).bind fun z12 =>
          (biz (1 : Int)).bind fun _ =>
          some ((1 : Int), z12)
def di_X_step (z : MemI) : Option (Int × MemI) :=
  (di_X_begin z).bind fun z1 =>
  (di_X_happen z1).bind fun r2 =>
  (biz r2.1).bind fun _ =>
  some (r2.1, r2.2)
def di_X_run_22 (k40 : Int → MemI → Option (Int × MemI)) : Nat → Int → Int → MemI → Option (Int × MemI)
  | 0, _, _, _ => none
  | n + 1, x1, x2, z =>
    (rg x1).bind fun _ =>
    (rg x2).bind fun _ =>
    if x1 ≤ x2 then
      k40 x2 z
    else
      (di_X_happen z).bind fun r2 =>
      (rg r2.1).bind fun _ =>
      if r2.1 = (0 : Int) then
        k40 x2 r2.2
      else
        di_X_run_22 k40 n x1 (x2 + (1 : Int)) r2.2
def di_X_run (x1 : Int) (z : MemI) : Option (Int × MemI) :=
  (di_X_isWithin x1 (0 : Int) (50 : Int)).bind fun v1 =>
  (rg v1).bind fun _ =>
  if v1 = (0 : Int) then
    some ((-1 : Int), z)
  else
    (rg x1).bind fun _ =>
    if x1 ≤ (0 : Int) then
      di_X_run_22
        (fun x2 z3 =>
          some (x2, z3))
        FU x1 (0 : Int) z
    else
      (di_X_begin z).bind fun z4 =>
      di_X_run_22
        (fun x2 z5 =>
          some (x2, z5))
        FU x1 (0 : Int) z4
def di_X_now (z : MemI) : Option (Int × MemI) :=
  some ((z.1 0 0 8), z)
def di_X_trace (x1 : Int) (z : MemI) : Option (Int × MemI) :=
  (di_X_isWithin x1 (0 : Int) (15 : Int)).bind fun v1 =>
  (rg v1).bind fun _ =>
  if v1 = (0 : Int) then
    some ((-1 : Int), z)
  else
    (aiz 16 x1).bind fun j2 =>
    some ((z.2 j2), z)
def di_X_distance (x1 : Int) (x2 : Int) (z : MemI) : Option (Int × MemI) :=
  (di_X_isNode x1).bind fun v1 =>
  (rg v1).bind fun _ =>
  if v1 = (0 : Int) then
    some ((-1 : Int), z)
  else
    (di_X_isNode x2).bind fun v2 =>
    (rg v2).bind fun _ =>
    if v2 = (0 : Int) then
      some ((-1 : Int), z)
    else
      (aiz 8 x1).bind fun j3 =>
      (aiz 8 x2).bind fun j4 =>
      some ((z.1 2 j3 j4), z)
def di_X_waiting (x1 : Int) (x2 : Int) (z : MemI) : Option (Int × MemI) :=
  (di_X_isPort x1 z).bind fun r1 =>
  (rg r1.1).bind fun _ =>
  if r1.1 = (0 : Int) then
    some ((-1 : Int), r1.2)
  else
    (rg x2).bind fun _ =>
    if x2 = (-1 : Int) then
      (aiz 24 x1).bind fun j5 =>
      some ((r1.2.1 4 j5 8), r1.2)
    else
      (di_X_isFlow x2 r1.2).bind fun r2 =>
      (rg r2.1).bind fun _ =>
      if r2.1 = (0 : Int) then
        some ((-1 : Int), r2.2)
      else
        (aiz 24 x1).bind fun j3 =>
        (di_X_queuedOf j3 x2 r2.2).bind fun r4 =>
        some (r4.1, r4.2)
def di_X_deficit (x1 : Int) (x2 : Int) (z : MemI) : Option (Int × MemI) :=
  (di_X_isPort x1 z).bind fun r1 =>
  (rg r1.1).bind fun _ =>
  if r1.1 = (0 : Int) then
    some ((-1 : Int), r1.2)
  else
    (di_X_isFlow x2 r1.2).bind fun r2 =>
    (rg r2.1).bind fun _ =>
    if r2.1 = (0 : Int) then
      some ((-1 : Int), r2.2)
    else
      (aiz 24 x1).bind fun j3 =>
      (aiz 6 x2).bind fun j4 =>
      some ((r2.2.1 7 j3 j4), r2.2)
def di_X_onPort (x1 : Int) (z : MemI) : Option (Int × MemI) :=
  (di_X_isPort x1 z).bind fun r1 =>
  (rg r1.1).bind fun _ =>
  if r1.1 = (0 : Int) then
    some ((-1 : Int), r1.2)
  else
    (aiz 24 x1).bind fun j2 =>
    (rg (r1.2.1 4 j2 7)).bind fun _ =>
    if (r1.2.1 4 j2 7) = (-1 : Int) then
      some ((-1 : Int), r1.2)
    else
      (aiz 24 x1).bind fun j3 =>
      (aiz 64 (r1.2.1 4 j3 7)).bind fun j4 =>
      (di_K_label j4 r1.2).bind fun r5 =>
      some ((((256 : Int) * (r1.2.1 11 j4 2)) + r5.1), r5.2)
def di_X_timer (x1 : Int) (z : MemI) : Option (Int × MemI) :=
  (di_X_isFlow x1 z).bind fun r1 =>
  (rg r1.1).bind fun _ =>
  if r1.1 = (0 : Int) then
    some ((-1 : Int), r1.2)
  else
    (di_X_hasTimer x1 r1.2).bind fun r2 =>
    (rg r2.1).bind fun _ =>
    if r2.1 = (0 : Int) then
      some ((-1 : Int), r2.2)
    else
      (aiz 70 x1).bind fun j3 =>
      some ((r2.2.1 14 0 j3), r2.2)
def di_X_count (x1 : Int) (x2 : Int) (z : MemI) : Option (Int × MemI) :=
  (di_X_isFlow x1 z).bind fun r1 =>
  (rg r1.1).bind fun _ =>
  if r1.1 = (0 : Int) then
    some ((-1 : Int), r1.2)
  else
    (rg x2).bind fun _ =>
    if x2 = (0 : Int) then
      (aiz 6 x1).bind fun j2 =>
      some ((r1.2.1 9 j2 7), r1.2)
    else
      if x2 = (1 : Int) then
        (aiz 6 x1).bind fun j3 =>
        some ((r1.2.1 9 j3 8), r1.2)
      else
        if x2 = (2 : Int) then
          (aiz 6 x1).bind fun j4 =>
          some ((r1.2.1 9 j4 9), r1.2)
        else
          if x2 = (3 : Int) then
            (aiz 6 x1).bind fun j5 =>
            some ((r1.2.1 9 j5 10), r1.2)
          else
            if x2 = (4 : Int) then
              (aiz 6 x1).bind fun j6 =>
              some ((r1.2.1 9 j6 11), r1.2)
            else
              if x2 = (5 : Int) then
                (aiz 6 x1).bind fun j7 =>
                some ((r1.2.1 9 j7 12), r1.2)
              else
                if x2 = (6 : Int) then
                  (aiz 6 x1).bind fun j8 =>
                  some ((r1.2.1 9 j8 13), r1.2)
                else
                  some ((-1 : Int), r1.2)
def di_Y_lesser (x0 : Int) (x1 : Int) : Option Int :=
  (rg x1).bind fun _ =>
  (rg x0).bind fun _ =>
  if x1 ≤ x0 then
    some x1
  else
    some x0
def di_Y_measure_10 (k44 : Int → MemI → Option MemI) : Nat → Int → Int → MemI → Option MemI
  | 0, _, _, _ => none
  | n + 1, x1, x2, z =>
    (rg x2).bind fun _ =>
    if (8 : Int) ≤ x2 then
      k44 x1 z
    else
      (rg x1).bind fun _ =>
      if x1 = x2 then
        (aiz 64 (((8 : Int) * x1) + x2)).bind fun j3 =>
        stN (pN z 8 0 j3 (0 : Int)) fun z4 =>
        di_Y_measure_10 k44 n x1 (x2 + (1 : Int)) z4
      else
        (aiz 64 (((8 : Int) * x1) + x2)).bind fun j1 =>
        stN (pN z 8 0 j1 (1000000 : Int)) fun z2 =>
        di_Y_measure_10 k44 n x1 (x2 + (1 : Int)) z2
def di_Y_measure_2 (k50 : MemI → Option MemI) : Nat → Int → MemI → Option MemI
  | 0, _, _ => none
  | n + 1, x1, z =>
    (rg x1).bind fun _ =>
    if (8 : Int) ≤ x1 then
      k50 z
    else
      di_Y_measure_10
        (fun x1 z5 =>
          di_Y_measure_2 k50 n (x1 + (1 : Int)) z5)
        FU x1 (0 : Int) z
def di_Y_measure_52 (k142 : MemI → Option MemI) : Nat → Int → MemI → Option MemI
  | 0, _, _ => none
  | n + 1, x1, z =>
    (rg (z.1 0 0 0)).bind fun _ =>
    (rg x1).bind fun _ =>
    if (z.1 0 0 0) ≤ x1 then
      k142 z
    else
      (aiz 12 x1).bind fun j7 =>
      (aiz 12 x1).bind fun j8 =>
      stW (((8 : Int) * (z.1 1 0 j7)) + (z.1 2 0 j8)) fun v9 =>
      (aiz 12 x1).bind fun j10 =>
      (aiz 12 x1).bind fun j11 =>
      stW (((8 : Int) * (z.1 2 0 j10)) + (z.1 1 0 j11)) fun v12 =>
      (aiz 64 v9).bind fun j13 =>
      (aiz 12 x1).bind fun j14 =>
      (di_Y_lesser (z.1 8 0 j13) (z.1 3 0 j14)).bind fun v15 =>
      (aiz 64 v9).bind fun j16 =>
      stN (pN z 8 0 j16 v15) fun z17 =>
      (aiz 64 v12).bind fun j18 =>
      (aiz 12 x1).bind fun j19 =>
      (di_Y_lesser (z17.1 8 0 j18) (z17.1 3 0 j19)).bind fun v20 =>
      (aiz 64 v12).bind fun j21 =>
      stN (pN z17 8 0 j21 v20) fun z22 =>
      di_Y_measure_52 k142 n (x1 + (1 : Int)) z22
def di_Y_measure_160 (k220 : Int → Int → MemI → Option MemI) : Nat → Int → Int → Int → MemI → Option MemI
  | 0, _, _, _, _ => none
  | n + 1, x1, x2, x3, z =>
    (rg x3).bind fun _ =>
    if (8 : Int) ≤ x3 then
      k220 x1 x2 z
    else
      (aiz 64 (((8 : Int) * x2) + x3)).bind fun j24 =>
      (aiz 64 (((8 : Int) * x2) + x1)).bind fun j25 =>
      (aiz 64 (((8 : Int) * x1) + x3)).bind fun j26 =>
      (di_Y_lesser (z.1 8 0 j24) ((z.1 8 0 j25) + (z.1 8 0 j26))).bind fun v27 =>
      (aiz 64 (((8 : Int) * x2) + x3)).bind fun j28 =>
      stN (pN z 8 0 j28 v27) fun z29 =>
      di_Y_measure_160 k220 n x1 x2 (x3 + (1 : Int)) z29
def di_Y_measure_152 (k226 : Int → MemI → Option MemI) : Nat → Int → Int → MemI → Option MemI
  | 0, _, _, _ => none
  | n + 1, x1, x2, z =>
    (rg x2).bind fun _ =>
    if (8 : Int) ≤ x2 then
      k226 x1 z
    else
      di_Y_measure_160
        (fun x1 x2 z30 =>
          di_Y_measure_152 k226 n x1 (x2 + (1 : Int)) z30)
        FU x1 x2 (0 : Int) z
def di_Y_measure_144 (k232 : MemI → Option MemI) : Nat → Int → MemI → Option MemI
  | 0, _, _ => none
  | n + 1, x1, z =>
    (rg x1).bind fun _ =>
    if (8 : Int) ≤ x1 then
      k232 z
    else
      di_Y_measure_152
        (fun x1 z31 =>
          di_Y_measure_144 k232 n (x1 + (1 : Int)) z31)
        FU x1 (0 : Int) z
def di_Y_measure (z : MemI) : Option MemI :=
  di_Y_measure_2
    (fun z6 =>
      di_Y_measure_52
        (fun z23 =>
          di_Y_measure_144
            (fun z32 =>
              some z32)
            FU (0 : Int) z23)
        FU (0 : Int) z6)
    FU (0 : Int) z
def di_Y_clear_32 (k51 : MemI → Option MemI) : Nat → Int → MemI → Option MemI
  | 0, _, _ => none
  | n + 1, x1, z =>
    (rg x1).bind fun _ =>
    if (64 : Int) ≤ x1 then
      k51 z
    else
      (aiz 64 x1).bind fun j8 =>
      stN (pN z 24 0 j8 (0 : Int)) fun z9 =>
      di_Y_clear_32 k51 n (x1 + (1 : Int)) z9
def di_Y_clear (z : MemI) : Option MemI :=
  stN (pN z 0 0 0 (0 : Int)) fun z1 =>
  stN (pN z1 0 0 9 (0 : Int)) fun z2 =>
  (biz (0 : Int)).bind fun _ =>
  stN (pN z2 0 0 35 (0 : Int)) fun z4 =>
  stN (pN z4 0 0 36 (0 : Int)) fun z5 =>
  stN (pN z5 0 0 37 (0 : Int)) fun z6 =>
  stN (pN z6 0 0 38 (0 : Int)) fun z7 =>
  di_Y_clear_32
    (fun z10 =>
      (di_Y_measure z10).bind fun z11 =>
      some z11)
    FU (0 : Int) z7
def di_Y_node (x0 : Int) : Option Int :=
  (rg x0).bind fun _ =>
  if x0 < (0 : Int) then
    (biz (0 : Int)).bind fun _ =>
    some (0 : Int)
  else
    if (7 : Int) < x0 then
      (biz (0 : Int)).bind fun _ =>
      some (0 : Int)
    else
      (biz (1 : Int)).bind fun _ =>
      some (1 : Int)
def di_Y_within (x0 : Int) (x1 : Int) (x2 : Int) : Option Int :=
  (rg x0).bind fun _ =>
  (rg x1).bind fun _ =>
  if x0 < x1 then
    (biz (0 : Int)).bind fun _ =>
    some (0 : Int)
  else
    (rg x2).bind fun _ =>
    if x2 < x0 then
      (biz (0 : Int)).bind fun _ =>
      some (0 : Int)
    else
      (biz (1 : Int)).bind fun _ =>
      some (1 : Int)
def di_Y_link_131 (k167 : MemI → Option (Int × MemI)) : Nat → Int → MemI → Option (Int × MemI)
  | 0, _, _ => none
  | n + 1, x6, z =>
    (rg (((2 : Int) * (z.1 0 0 0)) + (1 : Int))).bind fun _ =>
    (rg x6).bind fun _ =>
    if (((2 : Int) * (z.1 0 0 0)) + (1 : Int)) < x6 then
      k167 z
    else
      (aiz 24 x6).bind fun j17 =>
      stN (pN z 6 0 j17 (8 : Int)) fun z18 =>
      (aiz 24 x6).bind fun j19 =>
      stN (pN z18 7 0 j19 (4 : Int)) fun z20 =>
      di_Y_link_131 k167 n (x6 + (1 : Int)) z20
def di_Y_link (x1 : Int) (x2 : Int) (x3 : Int) (x4 : Int) (x5 : Int) (z : MemI) : Option (Int × MemI) :=
  (rg (z.1 0 0 35)).bind fun _ =>
  if (z.1 0 0 35) = (0 : Int) then
    (rg (z.1 0 0 0)).bind fun _ =>
    if (z.1 0 0 0) = (12 : Int) then
      some ((-1 : Int), z)
    else
      (di_Y_node x1).bind fun v1 =>
      (rg v1).bind fun _ =>
      if v1 = (0 : Int) then
        some ((-1 : Int), z)
      else
        (di_Y_node x2).bind fun v2 =>
        (rg v2).bind fun _ =>
        if v2 = (0 : Int) then
          some ((-1 : Int), z)
        else
          (rg x1).bind fun _ =>
          (rg x2).bind fun _ =>
          if x1 = x2 then
            some ((-1 : Int), z)
          else
            (di_Y_within x3 (1 : Int) (100 : Int)).bind fun v3 =>
            (rg v3).bind fun _ =>
            if v3 = (0 : Int) then
              some ((-1 : Int), z)
            else
              (di_Y_within x4 (1 : Int) (16 : Int)).bind fun v4 =>
              (rg v4).bind fun _ =>
              if v4 = (0 : Int) then
                some ((-1 : Int), z)
              else
                (di_Y_within x5 (0 : Int) (40 : Int)).bind fun v5 =>
                (rg v5).bind fun _ =>
                if v5 = (0 : Int) then
                  some ((-1 : Int), z)
                else
                  (aiz 12 (z.1 0 0 0)).bind fun j6 =>
                  stN (pN z 1 0 j6 x1) fun z7 =>
                  (aiz 12 (z7.1 0 0 0)).bind fun j8 =>
                  stN (pN z7 2 0 j8 x2) fun z9 =>
                  (aiz 12 (z9.1 0 0 0)).bind fun j10 =>
                  stN (pN z9 3 0 j10 x3) fun z11 =>
                  (aiz 12 (z11.1 0 0 0)).bind fun j12 =>
                  stN (pN z11 4 0 j12 x4) fun z13 =>
                  (aiz 12 (z13.1 0 0 0)).bind fun j14 =>
                  stN (pN z13 5 0 j14 x5) fun z15 =>
                  stW ((2 : Int) * (z15.1 0 0 0)) fun v16 =>
                  di_Y_link_131
                    (fun z21 =>
                      stN (pN z21 0 0 0 ((z21.1 0 0 0) + (1 : Int))) fun z22 =>
                      (di_Y_measure z22).bind fun z23 =>
                      some (((z23.1 0 0 0) - (1 : Int)), z23))
                    FU v16 z15
  else
    some ((-1 : Int), z)
def di_Y_isPort (x1 : Int) (z : MemI) : Option (Int × MemI) :=
  (rg x1).bind fun _ =>
  if x1 < (0 : Int) then
    (biz (0 : Int)).bind fun _ =>
    some ((0 : Int), z)
  else
    (rg ((2 : Int) * (z.1 0 0 0))).bind fun _ =>
    if ((2 : Int) * (z.1 0 0 0)) ≤ x1 then
      (biz (0 : Int)).bind fun _ =>
      some ((0 : Int), z)
    else
      (biz (1 : Int)).bind fun _ =>
      some ((1 : Int), z)
def di_Y_isFlow (x1 : Int) (z : MemI) : Option (Int × MemI) :=
  (rg x1).bind fun _ =>
  if x1 < (0 : Int) then
    (biz (0 : Int)).bind fun _ =>
    some ((0 : Int), z)
  else
    (rg (z.1 0 0 9)).bind fun _ =>
    if (z.1 0 0 9) ≤ x1 then
      (biz (0 : Int)).bind fun _ =>
      some ((0 : Int), z)
    else
      (biz (1 : Int)).bind fun _ =>
      some ((1 : Int), z)
def di_Y_shape (x1 : Int) (x2 : Int) (x3 : Int) (z : MemI) : Option (Int × MemI) :=
  (rg (z.1 0 0 35)).bind fun _ =>
  if (z.1 0 0 35) = (0 : Int) then
    (di_Y_isPort x1 z).bind fun r2 =>
    (rg r2.1).bind fun _ =>
    if r2.1 = (0 : Int) then
      (biz (0 : Int)).bind fun _ =>
      some ((0 : Int), r2.2)
    else
      (di_Y_within x2 (1 : Int) (16 : Int)).bind fun v4 =>
      (rg v4).bind fun _ =>
      if v4 = (0 : Int) then
        (biz (0 : Int)).bind fun _ =>
        some ((0 : Int), r2.2)
      else
        (di_Y_within x3 (1 : Int) (8 : Int)).bind fun v6 =>
        (rg v6).bind fun _ =>
        if v6 = (0 : Int) then
          (biz (0 : Int)).bind fun _ =>
          some ((0 : Int), r2.2)
        else
          (aiz 24 x1).bind fun j7 =>
          stN (pN r2.2 6 0 j7 x2) fun z8 =>
          (aiz 24 x1).bind fun j9 =>
          stN (pN z8 7 0 j9 x3) fun z10 =>
          (biz (1 : Int)).bind fun _ =>
          some ((1 : Int), z10)
  else
    (biz (0 : Int)).bind fun _ =>
    some ((0 : Int), z)
def di_Y_flow_183 (k210 : MemI → Option (Int × MemI)) : Nat → Int → MemI → Option (Int × MemI)
  | 0, _, _ => none
  | n + 1, x5, z =>
    (rg x5).bind fun _ =>
    if (4 : Int) ≤ x5 then
      k210 z
    else
      (aiz 24 (((4 : Int) * (z.1 0 0 9)) + x5)).bind fun j29 =>
      stN (pN z 23 0 j29 (0 : Int)) fun z30 =>
      di_Y_flow_183 k210 n (x5 + (1 : Int)) z30
def di_Y_flow (x1 : Int) (x2 : Int) (x3 : Int) (x4 : Int) (z : MemI) : Option (Int × MemI) :=
  (rg (z.1 0 0 35)).bind fun _ =>
  if (z.1 0 0 35) = (0 : Int) then
    (rg (z.1 0 0 9)).bind fun _ =>
    if (z.1 0 0 9) = (6 : Int) then
      some ((-1 : Int), z)
    else
      (di_Y_node x1).bind fun v1 =>
      (rg v1).bind fun _ =>
      if v1 = (0 : Int) then
        some ((-1 : Int), z)
      else
        (di_Y_node x2).bind fun v2 =>
        (rg v2).bind fun _ =>
        if v2 = (0 : Int) then
          some ((-1 : Int), z)
        else
          (rg x1).bind fun _ =>
          (rg x2).bind fun _ =>
          if x1 = x2 then
            some ((-1 : Int), z)
          else
            (di_Y_within x3 (1 : Int) (100 : Int)).bind fun v3 =>
            (rg v3).bind fun _ =>
            if v3 = (0 : Int) then
              some ((-1 : Int), z)
            else
              (di_Y_within x4 (1 : Int) (8 : Int)).bind fun v4 =>
              (rg v4).bind fun _ =>
              if v4 = (0 : Int) then
                some ((-1 : Int), z)
              else
                (aiz 6 (z.1 0 0 9)).bind fun j5 =>
                stN (pN z 9 0 j5 x1) fun z6 =>
                (aiz 6 (z6.1 0 0 9)).bind fun j7 =>
                stN (pN z6 10 0 j7 x2) fun z8 =>
                (aiz 6 (z8.1 0 0 9)).bind fun j9 =>
                stN (pN z8 11 0 j9 x3) fun z10 =>
                (aiz 6 (z10.1 0 0 9)).bind fun j11 =>
                stN (pN z10 12 0 j11 x4) fun z12 =>
                (aiz 6 (z12.1 0 0 9)).bind fun j13 =>
                stN (pN z12 13 0 j13 (4 : Int)) fun z14 =>
                (aiz 6 (z14.1 0 0 9)).bind fun j15 =>
                stN (pN z14 14 0 j15 (100 : Int)) fun z16 =>
                (aiz 6 (z16.1 0 0 9)).bind fun j17 =>
                stN (pN z16 15 0 j17 (0 : Int)) fun z18 =>
                (aiz 6 (z18.1 0 0 9)).bind fun j19 =>
                stN (pN z18 16 0 j19 (0 : Int)) fun z20 =>
                (aiz 6 (z20.1 0 0 9)).bind fun j21 =>
                stN (pN z20 17 0 j21 (0 : Int)) fun z22 =>
                (aiz 6 (z22.1 0 0 9)).bind fun j23 =>
                stN (pN z22 18 0 j23 (0 : Int)) fun z24 =>
                (aiz 6 (z24.1 0 0 9)).bind fun j25 =>
                stN (pN z24 19 0 j25 (-1 : Int)) fun z26 =>
                (aiz 6 (z26.1 0 0 9)).bind fun j27 =>
                stN (pN z26 21 0 j27 (-1 : Int)) fun z28 =>
                di_Y_flow_183
                  (fun z31 =>
                    stN (pN z31 0 0 9 ((z31.1 0 0 9) + (1 : Int))) fun z32 =>
                    some (((z32.1 0 0 9) - (1 : Int)), z32))
                  FU (0 : Int) z28
  else
    some ((-1 : Int), z)
def di_Y_tune (x1 : Int) (x2 : Int) (x3 : Int) (x4 : Int) (z : MemI) : Option (Int × MemI) :=
  (rg (z.1 0 0 35)).bind fun _ =>
  if (z.1 0 0 35) = (0 : Int) then
    (di_Y_isFlow x1 z).bind fun r2 =>
    (rg r2.1).bind fun _ =>
    if r2.1 = (0 : Int) then
      (biz (0 : Int)).bind fun _ =>
      some ((0 : Int), r2.2)
    else
      (di_Y_within x2 (1 : Int) (8 : Int)).bind fun v4 =>
      (rg v4).bind fun _ =>
      if v4 = (0 : Int) then
        (biz (0 : Int)).bind fun _ =>
        some ((0 : Int), r2.2)
      else
        (di_Y_within x3 (1 : Int) (200 : Int)).bind fun v6 =>
        (rg v6).bind fun _ =>
        if v6 = (0 : Int) then
          (biz (0 : Int)).bind fun _ =>
          some ((0 : Int), r2.2)
        else
          (di_Y_within x4 (0 : Int) (1000 : Int)).bind fun v8 =>
          (rg v8).bind fun _ =>
          if v8 = (0 : Int) then
            (biz (0 : Int)).bind fun _ =>
            some ((0 : Int), r2.2)
          else
            (aiz 6 x1).bind fun j9 =>
            stN (pN r2.2 13 0 j9 x2) fun z10 =>
            (aiz 6 x1).bind fun j11 =>
            stN (pN z10 14 0 j11 x3) fun z12 =>
            (aiz 6 x1).bind fun j13 =>
            stN (pN z12 15 0 j13 x4) fun z14 =>
            (biz (1 : Int)).bind fun _ =>
            some ((1 : Int), z14)
  else
    (biz (0 : Int)).bind fun _ =>
    some ((0 : Int), z)
def di_Y_distance (x1 : Int) (x2 : Int) (z : MemI) : Option (Int × MemI) :=
  (di_Y_node x1).bind fun v1 =>
  (rg v1).bind fun _ =>
  if v1 = (0 : Int) then
    some ((-1 : Int), z)
  else
    (di_Y_node x2).bind fun v2 =>
    (rg v2).bind fun _ =>
    if v2 = (0 : Int) then
      some ((-1 : Int), z)
    else
      (aiz 64 (((8 : Int) * x1) + x2)).bind fun j3 =>
      (rg (z.1 8 0 j3)).bind fun _ =>
      if (z.1 8 0 j3) < (1000000 : Int) then
        (aiz 64 (((8 : Int) * x1) + x2)).bind fun j4 =>
        some ((z.1 8 0 j4), z)
      else
        some ((-1 : Int), z)
def di_Y_at (x1 : Int) (z : MemI) : Option (Int × MemI) :=
  (nn x1).bind fun _ =>
  (rg (x1 % (2 : Int))).bind fun _ =>
  if (x1 % (2 : Int)) = (0 : Int) then
    (aiz 12 (x1 / (2 : Int))).bind fun j2 =>
    some ((z.1 1 0 j2), z)
  else
    (aiz 12 (x1 / (2 : Int))).bind fun j1 =>
    some ((z.1 2 0 j1), z)
def di_Y_leads (x1 : Int) (z : MemI) : Option (Int × MemI) :=
  (nn x1).bind fun _ =>
  (rg (x1 % (2 : Int))).bind fun _ =>
  if (x1 % (2 : Int)) = (0 : Int) then
    (aiz 12 (x1 / (2 : Int))).bind fun j2 =>
    some ((z.1 2 0 j2), z)
  else
    (aiz 12 (x1 / (2 : Int))).bind fun j1 =>
    some ((z.1 1 0 j1), z)
def di_Y_way_19 (k76 : Int → MemI → Option (Int × MemI)) (k84 : MemI → Option (Int × MemI)) : Nat → Int → Int → Int → MemI → Option (Int × MemI)
  | 0, _, _, _, _ => none
  | n + 1, x1, x2, x3, z =>
    (rg ((2 : Int) * (z.1 0 0 0))).bind fun _ =>
    (rg x3).bind fun _ =>
    if ((2 : Int) * (z.1 0 0 0)) ≤ x3 then
      k84 z
    else
      (di_Y_at x3 z).bind fun r2 =>
      (rg r2.1).bind fun _ =>
      (rg x1).bind fun _ =>
      if r2.1 = x1 then
        (nn x3).bind fun _ =>
        (aiz 12 (x3 / (2 : Int))).bind fun j3 =>
        (di_Y_leads x3 r2.2).bind fun r4 =>
        (aiz 64 (((8 : Int) * r4.1) + x2)).bind fun j5 =>
        (aiz 64 (((8 : Int) * x1) + x2)).bind fun j6 =>
        (rg ((r2.2.1 3 0 j3) + (r4.2.1 8 0 j5))).bind fun _ =>
        (rg (r4.2.1 8 0 j6)).bind fun _ =>
        if ((r2.2.1 3 0 j3) + (r4.2.1 8 0 j5)) = (r4.2.1 8 0 j6) then
          k76 x3 r4.2
        else
          di_Y_way_19 k76 k84 n x1 x2 (x3 + (1 : Int)) r4.2
      else
        di_Y_way_19 k76 k84 n x1 x2 (x3 + (1 : Int)) r2.2
def di_Y_way (x1 : Int) (x2 : Int) (z : MemI) : Option (Int × MemI) :=
  (rg x1).bind fun _ =>
  (rg x2).bind fun _ =>
  if x1 = x2 then
    some ((-1 : Int), z)
  else
    (di_Y_distance x1 x2 z).bind fun r1 =>
    (rg r1.1).bind fun _ =>
    if r1.1 = (-1 : Int) then
      some ((-1 : Int), r1.2)
    else
      di_Y_way_19
        (fun x3 z7 =>
          some (x3, z7))
        (fun z8 =>
          some ((-1 : Int), z8))
        FU x1 x2 (0 : Int) r1.2
def di_Y_sizeOf (x1 : Int) (z : MemI) : Option (Int × MemI) :=
  (aiz 64 x1).bind fun j1 =>
  (rg (z.1 27 0 j1)).bind fun _ =>
  if (z.1 27 0 j1) = (0 : Int) then
    (aiz 64 x1).bind fun j2 =>
    (aiz 6 (z.1 25 0 j2)).bind fun j3 =>
    some ((z.1 12 0 j3), z)
  else
    some ((1 : Int), z)
def di_Y_endOf (x1 : Int) (z : MemI) : Option (Int × MemI) :=
  (aiz 64 x1).bind fun j1 =>
  (rg (z.1 27 0 j1)).bind fun _ =>
  if (z.1 27 0 j1) = (0 : Int) then
    (aiz 64 x1).bind fun j2 =>
    (aiz 6 (z.1 25 0 j2)).bind fun j3 =>
    some ((z.1 10 0 j3), z)
  else
    (aiz 64 x1).bind fun j4 =>
    (aiz 6 (z.1 25 0 j4)).bind fun j5 =>
    some ((z.1 9 0 j5), z)
def di_Y_queued_5 (k64 : Int → MemI → Option (Int × MemI)) : Nat → Int → Int → Int → Int → MemI → Option (Int × MemI)
  | 0, _, _, _, _, _ => none
  | n + 1, x1, x2, x3, x4, z =>
    (rg x4).bind fun _ =>
    if (64 : Int) ≤ x4 then
      k64 x3 z
    else
      (aiz 64 x4).bind fun j1 =>
      (rg (z.1 24 0 j1)).bind fun _ =>
      if (z.1 24 0 j1) = (1 : Int) then
        (aiz 64 x4).bind fun j2 =>
        (rg (z.1 28 0 j2)).bind fun _ =>
        (rg x1).bind fun _ =>
        if (z.1 28 0 j2) = x1 then
          (rg x2).bind fun _ =>
          if x2 = (-1 : Int) then
            di_Y_queued_5 k64 n x1 x2 (x3 + (1 : Int)) (x4 + (1 : Int)) z
          else
            (aiz 64 x4).bind fun j3 =>
            (rg (z.1 25 0 j3)).bind fun _ =>
            if (z.1 25 0 j3) = x2 then
              di_Y_queued_5 k64 n x1 x2 (x3 + (1 : Int)) (x4 + (1 : Int)) z
            else
              di_Y_queued_5 k64 n x1 x2 (x3 + (0 : Int)) (x4 + (1 : Int)) z
        else
          di_Y_queued_5 k64 n x1 x2 (x3 + (0 : Int)) (x4 + (1 : Int)) z
      else
        di_Y_queued_5 k64 n x1 x2 (x3 + (0 : Int)) (x4 + (1 : Int)) z
def di_Y_queued (x1 : Int) (x2 : Int) (z : MemI) : Option (Int × MemI) :=
  di_Y_queued_5
    (fun x3 z4 =>
      some (x3, z4))
    FU x1 x2 (0 : Int) (0 : Int) z
def di_Y_on_4 (k42 : Int → MemI → Option (Int × MemI)) : Nat → Int → Int → Int → MemI → Option (Int × MemI)
  | 0, _, _, _, _ => none
  | n + 1, x1, x2, x3, z =>
    (rg x3).bind fun _ =>
    if (64 : Int) ≤ x3 then
      k42 x2 z
    else
      (aiz 64 x3).bind fun j1 =>
      (rg (z.1 24 0 j1)).bind fun _ =>
      if (z.1 24 0 j1) = (2 : Int) then
        (aiz 64 x3).bind fun j2 =>
        (rg (z.1 28 0 j2)).bind fun _ =>
        (rg x1).bind fun _ =>
        if (z.1 28 0 j2) = x1 then
          di_Y_on_4 k42 n x1 x3 (x3 + (1 : Int)) z
        else
          di_Y_on_4 k42 n x1 x2 (x3 + (1 : Int)) z
      else
        di_Y_on_4 k42 n x1 x2 (x3 + (1 : Int)) z
def di_Y_on (x1 : Int) (z : MemI) : Option (Int × MemI) :=
  di_Y_on_4
    (fun x2 z3 =>
      some (x2, z3))
    FU x1 (-1 : Int) (0 : Int) z
def di_Y_lose (x1 : Int) (z : MemI) : Option MemI :=
  (aiz 64 x1).bind fun j1 =>
  stN (pN z 24 0 j1 (0 : Int)) fun z2 =>
  (aiz 64 x1).bind fun j3 =>
  (aiz 24 (((4 : Int) * (z2.1 25 0 j3)) + (2 : Int))).bind fun j4 =>
  (aiz 24 (((4 : Int) * (z2.1 25 0 j3)) + (2 : Int))).bind fun j5 =>
  stN (pN z2 23 0 j5 ((z2.1 23 0 j4) + (1 : Int))) fun z6 =>
  some z6
def di_Y_leader_4 (k59 : Int → MemI → Option (Int × MemI)) : Nat → Int → Int → Int → MemI → Option (Int × MemI)
  | 0, _, _, _, _ => none
  | n + 1, x1, x2, x3, z =>
    (rg (z.1 0 0 9)).bind fun _ =>
    (rg x3).bind fun _ =>
    if (z.1 0 0 9) ≤ x3 then
      k59 x2 z
    else
      (di_Y_queued x1 x3 z).bind fun r1 =>
      (rg r1.1).bind fun _ =>
      if r1.1 ≤ (0 : Int) then
        di_Y_leader_4 k59 n x1 x2 (x3 + (1 : Int)) r1.2
      else
        (rg x2).bind fun _ =>
        if x2 = (-1 : Int) then
          di_Y_leader_4 k59 n x1 x3 (x3 + (1 : Int)) r1.2
        else
          (aiz 144 (((6 : Int) * x1) + x3)).bind fun j2 =>
          (aiz 144 (((6 : Int) * x1) + x2)).bind fun j3 =>
          (rg (r1.2.1 31 0 j3)).bind fun _ =>
          (rg (r1.2.1 31 0 j2)).bind fun _ =>
          if (r1.2.1 31 0 j3) ≤ (r1.2.1 31 0 j2) then
            di_Y_leader_4 k59 n x1 x2 (x3 + (1 : Int)) r1.2
          else
            di_Y_leader_4 k59 n x1 x3 (x3 + (1 : Int)) r1.2
def di_Y_leader (x1 : Int) (z : MemI) : Option (Int × MemI) :=
  di_Y_leader_4
    (fun x2 z4 =>
      some (x2, z4))
    FU x1 (-1 : Int) (0 : Int) z
def di_Y_head_5 (k75 : Int → MemI → Option (Int × MemI)) : Nat → Int → Int → Int → Int → MemI → Option (Int × MemI)
  | 0, _, _, _, _, _ => none
  | n + 1, x1, x2, x3, x4, z =>
    (rg x4).bind fun _ =>
    if (64 : Int) ≤ x4 then
      k75 x3 z
    else
      (aiz 64 x4).bind fun j1 =>
      (rg (z.1 24 0 j1)).bind fun _ =>
      if (z.1 24 0 j1) = (1 : Int) then
        (aiz 64 x4).bind fun j2 =>
        (rg (z.1 28 0 j2)).bind fun _ =>
        (rg x1).bind fun _ =>
        if (z.1 28 0 j2) = x1 then
          (aiz 64 x4).bind fun j3 =>
          (rg (z.1 25 0 j3)).bind fun _ =>
          (rg x2).bind fun _ =>
          if (z.1 25 0 j3) = x2 then
            (rg x3).bind fun _ =>
            if x3 = (-1 : Int) then
              di_Y_head_5 k75 n x1 x2 x4 (x4 + (1 : Int)) z
            else
              (aiz 64 x4).bind fun j4 =>
              (aiz 64 x3).bind fun j5 =>
              (rg (z.1 30 0 j5)).bind fun _ =>
              (rg (z.1 30 0 j4)).bind fun _ =>
              if (z.1 30 0 j5) ≤ (z.1 30 0 j4) then
                di_Y_head_5 k75 n x1 x2 x3 (x4 + (1 : Int)) z
              else
                di_Y_head_5 k75 n x1 x2 x4 (x4 + (1 : Int)) z
          else
            di_Y_head_5 k75 n x1 x2 x3 (x4 + (1 : Int)) z
        else
          di_Y_head_5 k75 n x1 x2 x3 (x4 + (1 : Int)) z
      else
        di_Y_head_5 k75 n x1 x2 x3 (x4 + (1 : Int)) z
def di_Y_head (x1 : Int) (x2 : Int) (z : MemI) : Option (Int × MemI) :=
  di_Y_head_5
    (fun x3 z6 =>
      some (x3, z6))
    FU x1 x2 (-1 : Int) (0 : Int) z
def di_Y_choose_2 (k84 : Int → Int → Int → MemI → Option MemI) (k186 : MemI → Option MemI) : Nat → Int → Int → MemI → Option MemI
  | 0, _, _, _ => none
  | n + 1, x1, x2, z =>
    (rg x2).bind fun _ =>
    if (100 : Int) ≤ x2 then
      k186 z
    else
      (di_Y_leader x1 z).bind fun r1 =>
      stW (((6 : Int) * x1) + r1.1) fun v2 =>
      (aiz 144 v2).bind fun j3 =>
      (aiz 144 v2).bind fun j4 =>
      (rg (r1.2.1 33 0 j4)).bind fun _ =>
      if (r1.2.1 33 0 j4) = (0 : Int) then
        (aiz 24 x1).bind fun j5 =>
        (aiz 144 v2).bind fun j6 =>
        stN (pN r1.2 32 0 j6 ((r1.2.1 32 0 j3) + (r1.2.1 6 0 j5))) fun z7 =>
        (biz (1 : Int)).bind fun _ =>
        (aiz 144 v2).bind fun j9 =>
        stN (pN z7 33 0 j9 (1 : Int)) fun z10 =>
        (di_Y_head x1 r1.1 z10).bind fun r11 =>
        (di_Y_sizeOf r11.1 r11.2).bind fun r12 =>
        (aiz 144 v2).bind fun j13 =>
        (rg (r12.2.1 32 0 j13)).bind fun _ =>
        (rg r12.1).bind fun _ =>
        if (r12.2.1 32 0 j13) < r12.1 then
          stN (pN r12.2 0 0 37 ((r12.2.1 0 0 37) + (1 : Int))) fun z14 =>
          (aiz 144 v2).bind fun j15 =>
          stN (pN z14 31 0 j15 ((r12.2.1 0 0 37) + (1 : Int))) fun z16 =>
          (biz (0 : Int)).bind fun _ =>
          (aiz 144 v2).bind fun j18 =>
          stN (pN z16 33 0 j18 (0 : Int)) fun z19 =>
          di_Y_choose_2 k84 k186 n x1 (x2 + (1 : Int)) z19
        else
          k84 x1 v2 r11.1 r12.2
      else
        (aiz 144 v2).bind fun j20 =>
        stN (pN r1.2 32 0 j20 ((r1.2.1 32 0 j3) + (0 : Int))) fun z21 =>
        (biz (1 : Int)).bind fun _ =>
        (aiz 144 v2).bind fun j23 =>
        stN (pN z21 33 0 j23 (1 : Int)) fun z24 =>
        (di_Y_head x1 r1.1 z24).bind fun r25 =>
        (di_Y_sizeOf r25.1 r25.2).bind fun r26 =>
        (aiz 144 v2).bind fun j27 =>
        (rg (r26.2.1 32 0 j27)).bind fun _ =>
        (rg r26.1).bind fun _ =>
        if (r26.2.1 32 0 j27) < r26.1 then
          stN (pN r26.2 0 0 37 ((r26.2.1 0 0 37) + (1 : Int))) fun z28 =>
          (aiz 144 v2).bind fun j29 =>
          stN (pN z28 31 0 j29 ((r26.2.1 0 0 37) + (1 : Int))) fun z30 =>
          (biz (0 : Int)).bind fun _ =>
          (aiz 144 v2).bind fun j32 =>
          stN (pN z30 33 0 j32 (0 : Int)) fun z33 =>
          di_Y_choose_2 k84 k186 n x1 (x2 + (1 : Int)) z33
        else
          k84 x1 v2 r25.1 r26.2
def di_Y_choose (x1 : Int) (z : MemI) : Option MemI :=
  di_Y_choose_2
    (fun x1 x4 x5 z34 =>
      (aiz 144 x4).bind fun j35 =>
      (di_Y_sizeOf x5 z34).bind fun r36 =>
      (aiz 144 x4).bind fun j37 =>
      stN (pN r36.2 32 0 j37 ((z34.1 32 0 j35) - r36.1)) fun z38 =>
      (aiz 64 x5).bind fun j39 =>
      stN (pN z38 24 0 j39 (2 : Int)) fun z40 =>
      (di_Y_sizeOf x5 z40).bind fun r41 =>
      (nn x1).bind fun _ =>
      (aiz 12 (x1 / (2 : Int))).bind fun j42 =>
      (aiz 64 x5).bind fun j43 =>
      stN (pN r41.2 29 0 j43 ((z40.1 0 0 36) + (r41.1 * (r41.2.1 4 0 j42)))) fun z44 =>
      stN (pN z44 0 0 37 ((z44.1 0 0 37) + (1 : Int))) fun z45 =>
      (aiz 64 x5).bind fun j46 =>
      stN (pN z45 30 0 j46 ((z44.1 0 0 37) + (1 : Int))) fun z47 =>
      some z47)
    (fun z48 =>
      some z48)
    FU x1 (0 : Int) z
def di_Y_put (x1 : Int) (x2 : Int) (z : MemI) : Option MemI :=
  (di_Y_endOf x1 z).bind fun r1 =>
  (di_Y_way x2 r1.1 r1.2).bind fun r2 =>
  (rg r2.1).bind fun _ =>
  if r2.1 = (-1 : Int) then
    (di_Y_lose x1 r2.2).bind fun z3 =>
    some z3
  else
    (di_Y_queued r2.1 (-1 : Int) r2.2).bind fun r4 =>
    (aiz 24 r2.1).bind fun j5 =>
    (rg r4.1).bind fun _ =>
    (rg (r4.2.1 7 0 j5)).bind fun _ =>
    if r4.1 < (r4.2.1 7 0 j5) then
      (aiz 64 x1).bind fun j6 =>
      stW (((6 : Int) * r2.1) + (r4.2.1 25 0 j6)) fun v7 =>
      (aiz 64 x1).bind fun j8 =>
      (di_Y_queued r2.1 (r4.2.1 25 0 j8) r4.2).bind fun r9 =>
      (rg r9.1).bind fun _ =>
      if r9.1 = (0 : Int) then
        stN (pN r9.2 0 0 37 ((r9.2.1 0 0 37) + (1 : Int))) fun z19 =>
        (aiz 144 v7).bind fun j20 =>
        stN (pN z19 31 0 j20 ((r9.2.1 0 0 37) + (1 : Int))) fun z21 =>
        (aiz 144 v7).bind fun j22 =>
        stN (pN z21 32 0 j22 (0 : Int)) fun z23 =>
        (biz (0 : Int)).bind fun _ =>
        (aiz 144 v7).bind fun j25 =>
        stN (pN z23 33 0 j25 (0 : Int)) fun z26 =>
        (aiz 64 x1).bind fun j27 =>
        stN (pN z26 24 0 j27 (1 : Int)) fun z28 =>
        (aiz 64 x1).bind fun j29 =>
        stN (pN z28 28 0 j29 r2.1) fun z30 =>
        stN (pN z30 0 0 37 ((z30.1 0 0 37) + (1 : Int))) fun z31 =>
        (aiz 64 x1).bind fun j32 =>
        stN (pN z31 30 0 j32 ((z30.1 0 0 37) + (1 : Int))) fun z33 =>
        (di_Y_on r2.1 z33).bind fun r34 =>
        (rg r34.1).bind fun _ =>
        if r34.1 = (-1 : Int) then
          (di_Y_choose r2.1 r34.2).bind fun z35 =>
          some z35
        else
          some r34.2
      else
        (aiz 64 x1).bind fun j10 =>
        stN (pN r9.2 24 0 j10 (1 : Int)) fun z11 =>
        (aiz 64 x1).bind fun j12 =>
        stN (pN z11 28 0 j12 r2.1) fun z13 =>
        stN (pN z13 0 0 37 ((z13.1 0 0 37) + (1 : Int))) fun z14 =>
        (aiz 64 x1).bind fun j15 =>
        stN (pN z14 30 0 j15 ((z13.1 0 0 37) + (1 : Int))) fun z16 =>
        (di_Y_on r2.1 z16).bind fun r17 =>
        (rg r17.1).bind fun _ =>
        if r17.1 = (-1 : Int) then
          (di_Y_choose r2.1 r17.2).bind fun z18 =>
          some z18
        else
          some r17.2
    else
      (di_Y_lose x1 r4.2).bind fun z36 =>
      some z36
def di_Y_make_17 (k40 : Int → Int → Int → Int → Int → MemI → Option MemI) : Nat → Int → Int → Int → Int → Int → MemI → Option MemI
  | 0, _, _, _, _, _, _ => none
  | n + 1, x1, x2, x3, x4, x5, z =>
    (rg x5).bind fun _ =>
    if (64 : Int) ≤ x5 then
      k40 x1 x2 x3 x4 x5 z
    else
      (aiz 64 x5).bind fun j4 =>
      (rg (z.1 24 0 j4)).bind fun _ =>
      if (z.1 24 0 j4) = (0 : Int) then
        k40 x1 x2 x3 x4 x5 z
      else
        di_Y_make_17 k40 n x1 x2 x3 x4 (x5 + (1 : Int)) z
def di_Y_make (x1 : Int) (x2 : Int) (x3 : Int) (x4 : Int) (z : MemI) : Option MemI :=
  (aiz 24 (((4 : Int) * x1) + (0 : Int))).bind fun j1 =>
  (aiz 24 (((4 : Int) * x1) + (0 : Int))).bind fun j2 =>
  stN (pN z 23 0 j2 ((z.1 23 0 j1) + (1 : Int))) fun z3 =>
  di_Y_make_17
    (fun x1 x2 x3 x4 x5 z5 =>
      (rg x5).bind fun _ =>
      if x5 = (64 : Int) then
        (aiz 24 (((4 : Int) * x1) + (2 : Int))).bind fun j14 =>
        (aiz 24 (((4 : Int) * x1) + (2 : Int))).bind fun j15 =>
        stN (pN z5 23 0 j15 ((z5.1 23 0 j14) + (1 : Int))) fun z16 =>
        some z16
      else
        (aiz 64 x5).bind fun j6 =>
        stN (pN z5 25 0 j6 x1) fun z7 =>
        (aiz 64 x5).bind fun j8 =>
        stN (pN z7 26 0 j8 x2) fun z9 =>
        (biz x3).bind fun _ =>
        (aiz 64 x5).bind fun j11 =>
        stN (pN z9 27 0 j11 x3) fun z12 =>
        (di_Y_put x5 x4 z12).bind fun z13 =>
        some z13)
    FU x1 x2 x3 x4 (0 : Int) z3
def di_Y_setTimeout (x1 : Int) (z : MemI) : Option MemI :=
  (aiz 6 x1).bind fun j1 =>
  (aiz 6 x1).bind fun j2 =>
  stN (pN z 21 0 j2 ((z.1 0 0 36) + (z.1 14 0 j1))) fun z3 =>
  stN (pN z3 0 0 37 ((z3.1 0 0 37) + (1 : Int))) fun z4 =>
  (aiz 6 x1).bind fun j5 =>
  stN (pN z4 22 0 j5 ((z3.1 0 0 37) + (1 : Int))) fun z6 =>
  some z6
def di_Y_fill_0 (k84 : MemI → Option MemI) : Nat → Int → MemI → Option MemI
  | 0, _, _ => none
  | n + 1, x1, z =>
    (aiz 6 x1).bind fun j1 =>
    (aiz 6 x1).bind fun j2 =>
    (aiz 6 x1).bind fun j3 =>
    (rg ((z.1 16 0 j2) + (z.1 13 0 j3))).bind fun _ =>
    (rg (z.1 17 0 j1)).bind fun _ =>
    if ((z.1 16 0 j2) + (z.1 13 0 j3)) ≤ (z.1 17 0 j1) then
      k84 z
    else
      (aiz 6 x1).bind fun j4 =>
      (aiz 6 x1).bind fun j5 =>
      (rg (z.1 11 0 j5)).bind fun _ =>
      (rg (z.1 17 0 j4)).bind fun _ =>
      if (z.1 11 0 j5) ≤ (z.1 17 0 j4) then
        k84 z
      else
        (aiz 6 x1).bind fun j6 =>
        (rg (z.1 21 0 j6)).bind fun _ =>
        if (z.1 21 0 j6) = (-1 : Int) then
          (di_Y_setTimeout x1 z).bind fun z12 =>
          (aiz 6 x1).bind fun j13 =>
          (aiz 6 x1).bind fun j14 =>
          (di_Y_make x1 (z12.1 17 0 j13) (0 : Int) (z12.1 9 0 j14) z12).bind fun z15 =>
          (aiz 6 x1).bind fun j16 =>
          stN (pN z15 17 0 j16 ((z12.1 17 0 j13) + (1 : Int))) fun z17 =>
          di_Y_fill_0 k84 n x1 z17
        else
          (aiz 6 x1).bind fun j7 =>
          (aiz 6 x1).bind fun j8 =>
          (di_Y_make x1 (z.1 17 0 j7) (0 : Int) (z.1 9 0 j8) z).bind fun z9 =>
          (aiz 6 x1).bind fun j10 =>
          stN (pN z9 17 0 j10 ((z.1 17 0 j7) + (1 : Int))) fun z11 =>
          di_Y_fill_0 k84 n x1 z11
def di_Y_fill (x1 : Int) (z : MemI) : Option MemI :=
  di_Y_fill_0
    (fun z18 =>
      some z18)
    FU x1 z
def di_Y_arrive (x1 : Int) (z : MemI) : Option MemI :=
  (aiz 64 x1).bind fun j1 =>
  (di_Y_leads (z.1 28 0 j1) z).bind fun r2 =>
  (di_Y_endOf x1 r2.2).bind fun r3 =>
  (rg r2.1).bind fun _ =>
  (rg r3.1).bind fun _ =>
  if r2.1 = r3.1 then
    (aiz 64 x1).bind fun j4 =>
    (aiz 64 x1).bind fun j5 =>
    (aiz 64 x1).bind fun j6 =>
    stN (pN r3.2 24 0 j6 (0 : Int)) fun z7 =>
    (aiz 24 (((4 : Int) * (r3.2.1 25 0 j4)) + (1 : Int))).bind fun j8 =>
    (aiz 24 (((4 : Int) * (r3.2.1 25 0 j4)) + (1 : Int))).bind fun j9 =>
    stN (pN z7 23 0 j9 ((z7.1 23 0 j8) + (1 : Int))) fun z10 =>
    (aiz 64 x1).bind fun j11 =>
    (rg (z10.1 27 0 j11)).bind fun _ =>
    if (z10.1 27 0 j11) = (0 : Int) then
      (aiz 6 (r3.2.1 25 0 j4)).bind fun j35 =>
      (rg (r3.2.1 26 0 j5)).bind fun _ =>
      (rg (z10.1 18 0 j35)).bind fun _ =>
      if (r3.2.1 26 0 j5) = (z10.1 18 0 j35) then
        (aiz 6 (r3.2.1 25 0 j4)).bind fun j41 =>
        stN (pN z10 18 0 j41 ((r3.2.1 26 0 j5) + (1 : Int))) fun z42 =>
        (aiz 6 (r3.2.1 25 0 j4)).bind fun j43 =>
        (di_Y_make (r3.2.1 25 0 j4) (z42.1 18 0 j43) (1 : Int) r2.1 z42).bind fun z44 =>
        some z44
      else
        (aiz 6 (r3.2.1 25 0 j4)).bind fun j36 =>
        (aiz 6 (r3.2.1 25 0 j4)).bind fun j37 =>
        stN (pN z10 18 0 j37 (z10.1 18 0 j36)) fun z38 =>
        (aiz 6 (r3.2.1 25 0 j4)).bind fun j39 =>
        (di_Y_make (r3.2.1 25 0 j4) (z38.1 18 0 j39) (1 : Int) r2.1 z38).bind fun z40 =>
        some z40
    else
      (aiz 6 (r3.2.1 25 0 j4)).bind fun j12 =>
      (rg (r3.2.1 26 0 j5)).bind fun _ =>
      (rg (z10.1 16 0 j12)).bind fun _ =>
      if (r3.2.1 26 0 j5) ≤ (z10.1 16 0 j12) then
        some z10
      else
        (aiz 6 (r3.2.1 25 0 j4)).bind fun j13 =>
        stN (pN z10 16 0 j13 (r3.2.1 26 0 j5)) fun z14 =>
        (aiz 6 (r3.2.1 25 0 j4)).bind fun j15 =>
        (rg (z14.1 17 0 j15)).bind fun _ =>
        if (r3.2.1 26 0 j5) ≤ (z14.1 17 0 j15) then
          (aiz 6 (r3.2.1 25 0 j4)).bind fun j16 =>
          (aiz 6 (r3.2.1 25 0 j4)).bind fun j17 =>
          stN (pN z14 17 0 j17 (z14.1 17 0 j16)) fun z18 =>
          (aiz 6 (r3.2.1 25 0 j4)).bind fun j19 =>
          stN (pN z18 21 0 j19 (-1 : Int)) fun z20 =>
          (aiz 6 (r3.2.1 25 0 j4)).bind fun j21 =>
          (aiz 6 (r3.2.1 25 0 j4)).bind fun j22 =>
          (rg (z20.1 17 0 j22)).bind fun _ =>
          (rg (z20.1 16 0 j21)).bind fun _ =>
          if (z20.1 17 0 j22) ≤ (z20.1 16 0 j21) then
            (di_Y_fill (r3.2.1 25 0 j4) z20).bind fun z23 =>
            some z23
          else
            (di_Y_setTimeout (r3.2.1 25 0 j4) z20).bind fun z24 =>
            (di_Y_fill (r3.2.1 25 0 j4) z24).bind fun z25 =>
            some z25
        else
          (aiz 6 (r3.2.1 25 0 j4)).bind fun j26 =>
          stN (pN z14 17 0 j26 (r3.2.1 26 0 j5)) fun z27 =>
          (aiz 6 (r3.2.1 25 0 j4)).bind fun j28 =>
          stN (pN z27 21 0 j28 (-1 : Int)) fun z29 =>
          (aiz 6 (r3.2.1 25 0 j4)).bind fun j30 =>
          (aiz 6 (r3.2.1 25 0 j4)).bind fun j31 =>
          (rg (z29.1 17 0 j31)).bind fun _ =>
          (rg (z29.1 16 0 j30)).bind fun _ =>
          if (z29.1 17 0 j31) ≤ (z29.1 16 0 j30) then
            (di_Y_fill (r3.2.1 25 0 j4) z29).bind fun z32 =>
            some z32
          else
            (di_Y_setTimeout (r3.2.1 25 0 j4) z29).bind fun z33 =>
            (di_Y_fill (r3.2.1 25 0 j4) z33).bind fun z34 =>
            some z34
  else
    (di_Y_put x1 r2.1 r3.2).bind fun z45 =>
    some z45
def di_Y_begin_15 (k58 : MemI → Option MemI) : Nat → Int → MemI → Option MemI
  | 0, _, _ => none
  | n + 1, x1, z =>
    (rg (z.1 0 0 9)).bind fun _ =>
    (rg x1).bind fun _ =>
    if (z.1 0 0 9) ≤ x1 then
      k58 z
    else
      (aiz 6 x1).bind fun j3 =>
      (aiz 6 x1).bind fun j4 =>
      stN (pN z 19 0 j4 (z.1 15 0 j3)) fun z5 =>
      stN (pN z5 0 0 37 ((z5.1 0 0 37) + (1 : Int))) fun z6 =>
      (aiz 6 x1).bind fun j7 =>
      stN (pN z6 20 0 j7 ((z5.1 0 0 37) + (1 : Int))) fun z8 =>
      di_Y_begin_15 k58 n (x1 + (1 : Int)) z8
def di_Y_begin (z : MemI) : Option MemI :=
  (rg (z.1 0 0 35)).bind fun _ =>
  if (z.1 0 0 35) = (0 : Int) then
    (biz (1 : Int)).bind fun _ =>
    stN (pN z 0 0 35 (1 : Int)) fun z2 =>
    di_Y_begin_15
      (fun z9 =>
        some z9)
      FU (0 : Int) z2
  else
    some z
def di_Y_note (x1 : Int) (x2 : Int) (x3 : Int) (z : MemI) : Option MemI :=
  (nn (z.1 0 0 38)).bind fun _ =>
  (aiz 16 ((z.1 0 0 38) % (16 : Int))).bind fun j1 =>
  (rg (z.1 0 0 36)).bind fun _ =>
  (rg x1).bind fun _ =>
  (rg x2).bind fun _ =>
  (rg x3).bind fun _ =>
  stN (pM z j1 (((((z.1 0 0 36) * (1048576 : Int)) + (x1 * (65536 : Int))) + (x2 * (256 : Int))) + x3)) fun z2 =>
  stN (pN z2 0 0 38 ((z2.1 0 0 38) + (1 : Int))) fun z3 =>
  some z3
def di_Y_sooner (x0 : Int) (x2 : Int) (x3 : Int) : Option Int :=
  (rg x2).bind fun _ =>
  (rg x3).bind fun _ =>
  stW ((x2 * (4294967296 : Int)) + x3) fun v1 =>
  (rl x0).bind fun _ =>
  (rg (cmpZ x0 (0 : Int))).bind fun _ =>
  if (cmpZ x0 (0 : Int)) = (0 : Int) then
    some v1
  else
    (rl v1).bind fun _ =>
    (rg (cmpZ v1 x0)).bind fun _ =>
    if (0 : Int) ≤ (cmpZ v1 x0) then
      some x0
    else
      some v1
def di_Y_soonest_4 (k43 : Int → MemI → Option (Int × MemI)) : Nat → Int → Int → MemI → Option (Int × MemI)
  | 0, _, _, _ => none
  | n + 1, x1, x3, z =>
    (rg x3).bind fun _ =>
    if (64 : Int) ≤ x3 then
      k43 x1 z
    else
      (aiz 64 x3).bind fun j1 =>
      (rg (z.1 24 0 j1)).bind fun _ =>
      if (z.1 24 0 j1) < (2 : Int) then
        di_Y_soonest_4 k43 n x1 (x3 + (1 : Int)) z
      else
        (aiz 64 x3).bind fun j2 =>
        (aiz 64 x3).bind fun j3 =>
        (di_Y_sooner x1 (z.1 29 0 j2) (z.1 30 0 j3)).bind fun v4 =>
        di_Y_soonest_4 k43 n v4 (x3 + (1 : Int)) z
def di_Y_soonest_45 (k113 : Int → MemI → Option (Int × MemI)) : Nat → Int → Int → MemI → Option (Int × MemI)
  | 0, _, _, _ => none
  | n + 1, x1, x3, z =>
    (rg (z.1 0 0 9)).bind fun _ =>
    (rg x3).bind fun _ =>
    if (z.1 0 0 9) ≤ x3 then
      k113 x1 z
    else
      (aiz 6 x3).bind fun j6 =>
      (rg (z.1 19 0 j6)).bind fun _ =>
      if (z.1 19 0 j6) = (-1 : Int) then
        (aiz 6 x3).bind fun j7 =>
        (rg (z.1 21 0 j7)).bind fun _ =>
        if (z.1 21 0 j7) = (-1 : Int) then
          di_Y_soonest_45 k113 n x1 (x3 + (1 : Int)) z
        else
          (aiz 6 x3).bind fun j8 =>
          (aiz 6 x3).bind fun j9 =>
          (di_Y_sooner x1 (z.1 21 0 j8) (z.1 22 0 j9)).bind fun v10 =>
          di_Y_soonest_45 k113 n v10 (x3 + (1 : Int)) z
      else
        (aiz 6 x3).bind fun j11 =>
        (aiz 6 x3).bind fun j12 =>
        (di_Y_sooner x1 (z.1 19 0 j11) (z.1 20 0 j12)).bind fun v13 =>
        (aiz 6 x3).bind fun j14 =>
        (rg (z.1 21 0 j14)).bind fun _ =>
        if (z.1 21 0 j14) = (-1 : Int) then
          di_Y_soonest_45 k113 n v13 (x3 + (1 : Int)) z
        else
          (aiz 6 x3).bind fun j15 =>
          (aiz 6 x3).bind fun j16 =>
          (di_Y_sooner v13 (z.1 21 0 j15) (z.1 22 0 j16)).bind fun v17 =>
          di_Y_soonest_45 k113 n v17 (x3 + (1 : Int)) z
def di_Y_soonest (z : MemI) : Option (Int × MemI) :=
  di_Y_soonest_4
    (fun x1 z5 =>
      di_Y_soonest_45
        (fun x1 z18 =>
          some (x1, z18))
        FU x1 (0 : Int) z5)
    FU (0 : Int) (0 : Int) z
def di_Y_moved (x1 : Int) (z : MemI) : Option MemI :=
  (aiz 64 x1).bind fun j1 =>
  (rg (z.1 27 0 j1)).bind fun _ =>
  if (z.1 27 0 j1) = (0 : Int) then
    (aiz 64 x1).bind fun j2 =>
    (aiz 64 x1).bind fun j3 =>
    (aiz 64 x1).bind fun j4 =>
    (rg (z.1 24 0 j4)).bind fun _ =>
    if (z.1 24 0 j4) = (3 : Int) then
      (di_Y_leads (z.1 28 0 j3) z).bind fun r16 =>
      (di_Y_note (3 : Int) r16.1 (z.1 26 0 j2) r16.2).bind fun z17 =>
      (di_Y_arrive x1 z17).bind fun z18 =>
      some z18
    else
      (di_Y_note (2 : Int) (z.1 28 0 j3) (z.1 26 0 j2) z).bind fun z5 =>
      (aiz 64 x1).bind fun j6 =>
      stN (pN z5 24 0 j6 (3 : Int)) fun z7 =>
      (nn (z.1 28 0 j3)).bind fun _ =>
      (aiz 12 ((z.1 28 0 j3) / (2 : Int))).bind fun j8 =>
      (aiz 64 x1).bind fun j9 =>
      stN (pN z7 29 0 j9 ((z7.1 0 0 36) + (z7.1 5 0 j8))) fun z10 =>
      stN (pN z10 0 0 37 ((z10.1 0 0 37) + (1 : Int))) fun z11 =>
      (aiz 64 x1).bind fun j12 =>
      stN (pN z11 30 0 j12 ((z10.1 0 0 37) + (1 : Int))) fun z13 =>
      (di_Y_queued (z.1 28 0 j3) (-1 : Int) z13).bind fun r14 =>
      (rg r14.1).bind fun _ =>
      if r14.1 ≤ (0 : Int) then
        some r14.2
      else
        (di_Y_choose (z.1 28 0 j3) r14.2).bind fun z15 =>
        some z15
  else
    (aiz 64 x1).bind fun j19 =>
    stW ((z.1 26 0 j19) + (128 : Int)) fun v20 =>
    (aiz 64 x1).bind fun j21 =>
    (aiz 64 x1).bind fun j22 =>
    (rg (z.1 24 0 j22)).bind fun _ =>
    if (z.1 24 0 j22) = (3 : Int) then
      (di_Y_leads (z.1 28 0 j21) z).bind fun r34 =>
      (di_Y_note (3 : Int) r34.1 v20 r34.2).bind fun z35 =>
      (di_Y_arrive x1 z35).bind fun z36 =>
      some z36
    else
      (di_Y_note (2 : Int) (z.1 28 0 j21) v20 z).bind fun z23 =>
      (aiz 64 x1).bind fun j24 =>
      stN (pN z23 24 0 j24 (3 : Int)) fun z25 =>
      (nn (z.1 28 0 j21)).bind fun _ =>
      (aiz 12 ((z.1 28 0 j21) / (2 : Int))).bind fun j26 =>
      (aiz 64 x1).bind fun j27 =>
      stN (pN z25 29 0 j27 ((z25.1 0 0 36) + (z25.1 5 0 j26))) fun z28 =>
      stN (pN z28 0 0 37 ((z28.1 0 0 37) + (1 : Int))) fun z29 =>
      (aiz 64 x1).bind fun j30 =>
      stN (pN z29 30 0 j30 ((z28.1 0 0 37) + (1 : Int))) fun z31 =>
      (di_Y_queued (z.1 28 0 j21) (-1 : Int) z31).bind fun r32 =>
      (rg r32.1).bind fun _ =>
      if r32.1 ≤ (0 : Int) then
        some r32.2
      else
        (di_Y_choose (z.1 28 0 j21) r32.2).bind fun z33 =>
        some z33
def di_Y_step_37 (k68 : Int → MemI → Option (Int × MemI)) (k120 : Int → MemI → Option (Int × MemI)) (k185 : Int → MemI → Option (Int × MemI)) : Nat → Int → Int → MemI → Option (Int × MemI)
  | 0, _, _, _ => none
  | n + 1, x3, x4, z =>
    (rg (z.1 0 0 9)).bind fun _ =>
    (rg x4).bind fun _ =>
    if (z.1 0 0 9) ≤ x4 then
      k185 x3 z
    else
      (aiz 6 x4).bind fun j5 =>
      (rg (z.1 19 0 j5)).bind fun _ =>
      if (z.1 19 0 j5) = (-1 : Int) then
        (aiz 6 x4).bind fun j6 =>
        (rg (z.1 21 0 j6)).bind fun _ =>
        if (z.1 21 0 j6) = (-1 : Int) then
          di_Y_step_37 k68 k120 k185 n x3 (x4 + (1 : Int)) z
        else
          (aiz 6 x4).bind fun j7 =>
          (rg (z.1 22 0 j7)).bind fun _ =>
          (rg x3).bind fun _ =>
          if (z.1 22 0 j7) = x3 then
            k120 x4 z
          else
            di_Y_step_37 k68 k120 k185 n x3 (x4 + (1 : Int)) z
      else
        (aiz 6 x4).bind fun j8 =>
        (rg (z.1 20 0 j8)).bind fun _ =>
        (rg x3).bind fun _ =>
        if (z.1 20 0 j8) = x3 then
          k68 x4 z
        else
          (aiz 6 x4).bind fun j9 =>
          (rg (z.1 21 0 j9)).bind fun _ =>
          if (z.1 21 0 j9) = (-1 : Int) then
            di_Y_step_37 k68 k120 k185 n x3 (x4 + (1 : Int)) z
          else
            (aiz 6 x4).bind fun j10 =>
            (rg (z.1 22 0 j10)).bind fun _ =>
            if (z.1 22 0 j10) = x3 then
              k120 x4 z
            else
              di_Y_step_37 k68 k120 k185 n x3 (x4 + (1 : Int)) z
def di_Y_step_188 (k217 : Int → MemI → Option (Int × MemI)) (k231 : MemI → Option (Int × MemI)) : Nat → Int → Int → MemI → Option (Int × MemI)
  | 0, _, _, _ => none
  | n + 1, x3, x4, z =>
    (rg x4).bind fun _ =>
    if (64 : Int) ≤ x4 then
      k231 z
    else
      (aiz 64 x4).bind fun j32 =>
      (rg (z.1 24 0 j32)).bind fun _ =>
      if (z.1 24 0 j32) < (2 : Int) then
        di_Y_step_188 k217 k231 n x3 (x4 + (1 : Int)) z
      else
        (aiz 64 x4).bind fun j33 =>
        (rg (z.1 30 0 j33)).bind fun _ =>
        (rg x3).bind fun _ =>
        if (z.1 30 0 j33) = x3 then
          k217 x4 z
        else
          di_Y_step_188 k217 k231 n x3 (x4 + (1 : Int)) z
def di_Y_step (z : MemI) : Option (Int × MemI) :=
  (di_Y_begin z).bind fun z1 =>
  (di_Y_soonest z1).bind fun r2 =>
  (rl r2.1).bind fun _ =>
  (rg (cmpZ r2.1 (0 : Int))).bind fun _ =>
  if (cmpZ r2.1 (0 : Int)) = (0 : Int) then
    (biz (0 : Int)).bind fun _ =>
    some ((0 : Int), r2.2)
  else
    (nl r2.1).bind fun _ =>
    stW (r2.1 % (4294967296 : Int)) fun v3 =>
    stN (pN r2.2 0 0 36 (r2.1 / (4294967296 : Int))) fun z4 =>
    di_Y_step_37
      (fun x4 z11 =>
        (aiz 6 x4).bind fun j12 =>
        stN (pN z11 19 0 j12 (-1 : Int)) fun z13 =>
        (aiz 6 x4).bind fun j14 =>
        (di_Y_note (1 : Int) x4 (z13.1 17 0 j14) z13).bind fun z15 =>
        (di_Y_fill x4 z15).bind fun z16 =>
        (biz (1 : Int)).bind fun _ =>
        some ((1 : Int), z16))
      (fun x4 z18 =>
        (aiz 6 x4).bind fun j19 =>
        stN (pN z18 21 0 j19 (-1 : Int)) fun z20 =>
        (aiz 24 (((4 : Int) * x4) + (3 : Int))).bind fun j21 =>
        (aiz 24 (((4 : Int) * x4) + (3 : Int))).bind fun j22 =>
        stN (pN z20 23 0 j22 ((z20.1 23 0 j21) + (1 : Int))) fun z23 =>
        (aiz 6 x4).bind fun j24 =>
        (di_Y_note (4 : Int) x4 (z23.1 16 0 j24) z23).bind fun z25 =>
        (aiz 6 x4).bind fun j26 =>
        (aiz 6 x4).bind fun j27 =>
        stN (pN z25 17 0 j27 (z25.1 16 0 j26)) fun z28 =>
        (di_Y_fill x4 z28).bind fun z29 =>
        (biz (1 : Int)).bind fun _ =>
        some ((1 : Int), z29))
      (fun x3 z31 =>
        di_Y_step_188
          (fun x4 z34 =>
            (di_Y_moved x4 z34).bind fun z35 =>
            (biz (1 : Int)).bind fun _ =>
            some ((1 : Int), z35))
          (fun z37 =>
            (biz (1 : Int)).bind fun _ =>
            some ((1 : Int), z37))
          FU x3 (0 : Int) z31)
      FU v3 (0 : Int) z4
def di_Y_run_14 (k32 : Int → MemI → Option (Int × MemI)) : Nat → Int → Int → MemI → Option (Int × MemI)
  | 0, _, _, _ => none
  | n + 1, x1, x2, z =>
    (rg x1).bind fun _ =>
    (rg x2).bind fun _ =>
    if x1 ≤ x2 then
      k32 x2 z
    else
      (di_Y_step z).bind fun r1 =>
      (rg r1.1).bind fun _ =>
      if r1.1 = (0 : Int) then
        k32 x2 r1.2
      else
        di_Y_run_14 k32 n x1 (x2 + (1 : Int)) r1.2
def di_Y_run (x1 : Int) (z : MemI) : Option (Int × MemI) :=
  (rg x1).bind fun _ =>
  if x1 < (0 : Int) then
    some ((-1 : Int), z)
  else
    if x1 ≤ (50 : Int) then
      di_Y_run_14
        (fun x2 z2 =>
          some (x2, z2))
        FU x1 (0 : Int) z
    else
      some ((-1 : Int), z)
def di_Y_now (z : MemI) : Option (Int × MemI) :=
  some ((z.1 0 0 36), z)
def di_Y_trace (x1 : Int) (z : MemI) : Option (Int × MemI) :=
  (rg x1).bind fun _ =>
  if x1 < (0 : Int) then
    some ((-1 : Int), z)
  else
    if (15 : Int) < x1 then
      some ((-1 : Int), z)
    else
      (rg (z.1 0 0 38)).bind fun _ =>
      if x1 < (z.1 0 0 38) then
        (nn (((z.1 0 0 38) - (1 : Int)) - x1)).bind fun _ =>
        (aiz 16 ((((z.1 0 0 38) - (1 : Int)) - x1) % (16 : Int))).bind fun j1 =>
        some ((z.2 j1), z)
      else
        some ((-1 : Int), z)
def di_Y_waiting (x1 : Int) (x2 : Int) (z : MemI) : Option (Int × MemI) :=
  (di_Y_isPort x1 z).bind fun r1 =>
  (rg r1.1).bind fun _ =>
  if r1.1 = (0 : Int) then
    some ((-1 : Int), r1.2)
  else
    (rg x2).bind fun _ =>
    if x2 = (-1 : Int) then
      (di_Y_queued x1 x2 r1.2).bind fun r2 =>
      some (r2.1, r2.2)
    else
      (di_Y_isFlow x2 r1.2).bind fun r3 =>
      (rg r3.1).bind fun _ =>
      if r3.1 = (0 : Int) then
        some ((-1 : Int), r3.2)
      else
        (di_Y_queued x1 x2 r3.2).bind fun r4 =>
        some (r4.1, r4.2)
def di_Y_deficit (x1 : Int) (x2 : Int) (z : MemI) : Option (Int × MemI) :=
  (di_Y_isPort x1 z).bind fun r1 =>
  (rg r1.1).bind fun _ =>
  if r1.1 = (0 : Int) then
    some ((-1 : Int), r1.2)
  else
    (di_Y_isFlow x2 r1.2).bind fun r2 =>
    (rg r2.1).bind fun _ =>
    if r2.1 = (0 : Int) then
      some ((-1 : Int), r2.2)
    else
      (di_Y_queued x1 x2 r2.2).bind fun r3 =>
      (rg r3.1).bind fun _ =>
      if r3.1 = (0 : Int) then
        some ((0 : Int), r3.2)
      else
        (aiz 144 (((6 : Int) * x1) + x2)).bind fun j4 =>
        some ((r3.2.1 32 0 j4), r3.2)
def di_Y_onPort (x1 : Int) (z : MemI) : Option (Int × MemI) :=
  (di_Y_isPort x1 z).bind fun r1 =>
  (rg r1.1).bind fun _ =>
  if r1.1 = (0 : Int) then
    if (-1 : Int) = (-1 : Int) then
      some ((-1 : Int), r1.2)
    else
      (aiz 64 (-1 : Int)).bind fun j2 =>
      (aiz 64 (-1 : Int)).bind fun j3 =>
      (aiz 64 (-1 : Int)).bind fun j4 =>
      (rg (r1.2.1 27 0 j4)).bind fun _ =>
      if (r1.2.1 27 0 j4) = (0 : Int) then
        some (((((256 : Int) * (r1.2.1 25 0 j2)) + (r1.2.1 26 0 j3)) + (0 : Int)), r1.2)
      else
        some (((((256 : Int) * (r1.2.1 25 0 j2)) + (r1.2.1 26 0 j3)) + (128 : Int)), r1.2)
  else
    (di_Y_on x1 r1.2).bind fun r5 =>
    (rg r5.1).bind fun _ =>
    if r5.1 = (-1 : Int) then
      some ((-1 : Int), r5.2)
    else
      (aiz 64 r5.1).bind fun j6 =>
      (aiz 64 r5.1).bind fun j7 =>
      (aiz 64 r5.1).bind fun j8 =>
      (rg (r5.2.1 27 0 j8)).bind fun _ =>
      if (r5.2.1 27 0 j8) = (0 : Int) then
        some (((((256 : Int) * (r5.2.1 25 0 j6)) + (r5.2.1 26 0 j7)) + (0 : Int)), r5.2)
      else
        some (((((256 : Int) * (r5.2.1 25 0 j6)) + (r5.2.1 26 0 j7)) + (128 : Int)), r5.2)
def di_Y_timer (x1 : Int) (z : MemI) : Option (Int × MemI) :=
  (di_Y_isFlow x1 z).bind fun r1 =>
  (rg r1.1).bind fun _ =>
  if r1.1 = (0 : Int) then
    some ((-1 : Int), r1.2)
  else
    (aiz 6 x1).bind fun j2 =>
    some ((r1.2.1 21 0 j2), r1.2)
def di_Y_count (x1 : Int) (x2 : Int) (z : MemI) : Option (Int × MemI) :=
  (di_Y_isFlow x1 z).bind fun r1 =>
  (rg r1.1).bind fun _ =>
  if r1.1 = (0 : Int) then
    some ((-1 : Int), r1.2)
  else
    (rg x2).bind fun _ =>
    if x2 < (0 : Int) then
      some ((-1 : Int), r1.2)
    else
      if x2 ≤ (6 : Int) then
        if (3 : Int) ≤ x2 then
          (aiz 24 ((((4 : Int) * x1) + x2) - (3 : Int))).bind fun j2 =>
          some ((r1.2.1 23 0 j2), r1.2)
        else
          if x2 = (0 : Int) then
            (aiz 6 x1).bind fun j5 =>
            some ((r1.2.1 16 0 j5), r1.2)
          else
            if x2 = (1 : Int) then
              (aiz 6 x1).bind fun j4 =>
              some ((r1.2.1 17 0 j4), r1.2)
            else
              (aiz 6 x1).bind fun j3 =>
              some ((r1.2.1 18 0 j3), r1.2)
      else
        some ((-1 : Int), r1.2)
