def dn_X_isNode (x0 : Int32) : Option Int32 :=
  if x0 < 0 then
    (bz (0 : Int32)).bind fun _ =>
    some (0 : Int32)
  else
    if (8 : Int32) ≤ x0 then
      (bz (0 : Int32)).bind fun _ =>
      some (0 : Int32)
    else
      (bz (1 : Int32)).bind fun _ =>
      some (1 : Int32)
abbrev rm_X_isNode : Room := { frames := 0, cells := 0, slots := 0, locals := 0 }
def dn_X_isWithin (x0 : Int32) (x1 : Int32) (x2 : Int32) : Option Int32 :=
  if x0 < x1 then
    (bz (0 : Int32)).bind fun _ =>
    some (0 : Int32)
  else
    if x2 < x0 then
      (bz (0 : Int32)).bind fun _ =>
      some (0 : Int32)
    else
      (bz (1 : Int32)).bind fun _ =>
      some (1 : Int32)
abbrev rm_X_isWithin : Room := { frames := 0, cells := 0, slots := 0, locals := 0 }
def dn_J_fillX7_5 (k20 : Mem → Option Mem) : Nat → Nat → Int32 → Int32 → Int32 → Mem → Option Mem
  | 0, _, _, _, _, _ => none
  | n + 1, x0, x1, x2, x3, z =>
    if x3 ≤ x2 then
      k20 z
    else
      (aix 6 x2).bind fun j1 =>
      stM (pI z 7 x0 j1 x1) fun z2 =>
      dn_J_fillX7_5 k20 n x0 x1 (x2 + (1 : Int32)) x3 z2
def dn_J_fillX7 (x0 : Nat) (x1 : Int32) (z : Mem) : Option Mem :=
  dn_J_fillX7_5 (fun z3 =>
      some z3) FU x0 x1 (0 : Int32) (6 : Int32) z
abbrev rm_J_fillX7 : Room := { frames := 0, cells := 0, slots := 0, locals := 0 }
def dn_P_lay (x0 : Nat) (x1 : Int32) (x2 : Int32) (x3 : Int32) (x4 : Int32) (x5 : Int32) (z : Mem) : Option Mem :=
  stM (pI z 4 x0 0 x1) fun z1 =>
  stM (pI z1 4 x0 1 x2) fun z2 =>
  stM (pI z2 4 x0 2 x3) fun z3 =>
  stM (pI z3 4 x0 3 x4) fun z4 =>
  stM (pI z4 4 x0 4 x5) fun z5 =>
  stM (pI z5 4 x0 5 (8 : Int32)) fun z6 =>
  stM (pI z6 4 x0 6 (4 : Int32)) fun z7 =>
  stM (pI z7 4 x0 7 (-1 : Int32)) fun z8 =>
  stM (pI z8 4 x0 8 (0 : Int32)) fun z9 =>
  stM (pI z9 4 x0 9 (0 : Int32)) fun z10 =>
  (bz (0 : Int32)).bind fun _ =>
  stM (pI z10 4 x0 10 (0 : Int32)) fun z12 =>
  (dn_J_fillX7 x0 (0 : Int32) z12).bind fun z13 =>
  some z13
abbrev rm_P_lay : Room := { frames := 1, cells := 0, slots := 0, locals := 23 }
def dn_X_shortenOver_13 (k119 : Int32 → Int32 → Int32 → Int32 → Mem → Option Mem) : Nat → Int32 → Int32 → Int32 → Int32 → Int32 → Mem → Option Mem
  | 0, _, _, _, _, _, _ => none
  | n + 1, x1, x2, x3, x4, x5, z =>
    if (8 : Int32) ≤ x5 then
      k119 x1 x2 x3 x4 z
    else
      (aix 8 x4).bind fun j1 =>
      (aix 8 x1).bind fun j2 =>
      if (z.1 2 j1 j2) = (-1 : Int32) then
        dn_X_shortenOver_13 k119 n x1 x2 x3 x4 (x5 + (1 : Int32)) z
      else
        (aix 8 x2).bind fun j3 =>
        (aix 8 x5).bind fun j4 =>
        if (z.1 2 j3 j4) = (-1 : Int32) then
          dn_X_shortenOver_13 k119 n x1 x2 x3 x4 (x5 + (1 : Int32)) z
        else
          (aix 8 x4).bind fun j5 =>
          (aix 8 x1).bind fun j6 =>
          (aix 8 x2).bind fun j7 =>
          (aix 8 x5).bind fun j8 =>
          stV (((z.1 2 j5 j6) + x3) + (z.1 2 j7 j8)) fun v9 =>
          (aix 8 x4).bind fun j10 =>
          (aix 8 x5).bind fun j11 =>
          if (z.1 2 j10 j11) = (-1 : Int32) then
            (aix 8 x4).bind fun j12 =>
            (aix 8 x5).bind fun j13 =>
            stM (pI z 2 j12 j13 v9) fun z14 =>
            dn_X_shortenOver_13 k119 n x1 x2 x3 x4 (x5 + (1 : Int32)) z14
          else
            (aix 8 x4).bind fun j15 =>
            (aix 8 x5).bind fun j16 =>
            if (z.1 2 j15 j16) ≤ v9 then
              dn_X_shortenOver_13 k119 n x1 x2 x3 x4 (x5 + (1 : Int32)) z
            else
              (aix 8 x4).bind fun j17 =>
              (aix 8 x5).bind fun j18 =>
              stM (pI z 2 j17 j18 v9) fun z19 =>
              dn_X_shortenOver_13 k119 n x1 x2 x3 x4 (x5 + (1 : Int32)) z19
def dn_X_shortenOver_3 (k125 : Mem → Option Mem) : Nat → Int32 → Int32 → Int32 → Int32 → Mem → Option Mem
  | 0, _, _, _, _, _ => none
  | n + 1, x1, x2, x3, x4, z =>
    if (8 : Int32) ≤ x4 then
      k125 z
    else
      dn_X_shortenOver_13 (fun x1 x2 x3 x4 z20 =>
          dn_X_shortenOver_3 k125 n x1 x2 x3 (x4 + (1 : Int32)) z20) FU x1 x2 x3 x4 (0 : Int32) z
def dn_X_shortenOver (x1 : Int32) (x2 : Int32) (x3 : Int32) (z : Mem) : Option Mem :=
  dn_X_shortenOver_3 (fun z21 =>
      some z21) FU x1 x2 x3 (0 : Int32) z
abbrev rm_X_shortenOver : Room := { frames := 0, cells := 0, slots := 0, locals := 0 }
def dn_X_link (x1 : Int32) (x2 : Int32) (x3 : Int32) (x4 : Int32) (x5 : Int32) (z : Mem) : Option (Int32 × Mem) :=
  if (z.1 0 0 9) = 0 then
    if (12 : Int32) ≤ (z.1 0 0 6) then
      some ((-1 : Int32), z)
    else
      (dn_X_isNode x1).bind fun v1 =>
      if v1 = 0 then
        some ((-1 : Int32), z)
      else
        (dn_X_isNode x2).bind fun v2 =>
        if v2 = 0 then
          some ((-1 : Int32), z)
        else
          if x1 = x2 then
            some ((-1 : Int32), z)
          else
            (dn_X_isWithin x3 (1 : Int32) (100 : Int32)).bind fun v3 =>
            if v3 = 0 then
              some ((-1 : Int32), z)
            else
              (dn_X_isWithin x4 (1 : Int32) (16 : Int32)).bind fun v4 =>
              if v4 = 0 then
                some ((-1 : Int32), z)
              else
                (dn_X_isWithin x5 (0 : Int32) (40 : Int32)).bind fun v5 =>
                if v5 = 0 then
                  some ((-1 : Int32), z)
                else
                  (aix 24 ((2 : Int32) * (z.1 0 0 6))).bind fun j6 =>
                  (dn_P_lay j6 x1 x2 x3 x4 x5 z).bind fun z7 =>
                  (aix 24 (((2 : Int32) * (z.1 0 0 6)) + (1 : Int32))).bind fun j8 =>
                  (dn_P_lay j8 x2 x1 x3 x4 x5 z7).bind fun z9 =>
                  stM (pI z9 0 0 6 ((z9.1 0 0 6) + (1 : Int32))) fun z10 =>
                  (dn_X_shortenOver x1 x2 x3 z10).bind fun z11 =>
                  (dn_X_shortenOver x2 x1 x3 z11).bind fun z12 =>
                  some ((z.1 0 0 6), z12)
  else
    some ((-1 : Int32), z)
abbrev rm_X_link : Room := { frames := 2, cells := 0, slots := 0, locals := 48 }
def dn_X_isPort (x1 : Int32) (z : Mem) : Option (Int32 × Mem) :=
  (dn_X_isWithin x1 (0 : Int32) (((2 : Int32) * (z.1 0 0 6)) - (1 : Int32))).bind fun v1 =>
  (bz v1).bind fun _ =>
  some (v1, z)
abbrev rm_X_isPort : Room := { frames := 1, cells := 0, slots := 0, locals := 22 }
def dn_X_shape (x1 : Int32) (x2 : Int32) (x3 : Int32) (z : Mem) : Option (Int32 × Mem) :=
  if (z.1 0 0 9) = 0 then
    (dn_X_isPort x1 z).bind fun r2 =>
    if r2.1 = 0 then
      (bz (0 : Int32)).bind fun _ =>
      some ((0 : Int32), r2.2)
    else
      (dn_X_isWithin x2 (1 : Int32) (16 : Int32)).bind fun v4 =>
      if v4 = 0 then
        (bz (0 : Int32)).bind fun _ =>
        some ((0 : Int32), r2.2)
      else
        (dn_X_isWithin x3 (1 : Int32) (8 : Int32)).bind fun v6 =>
        if v6 = 0 then
          (bz (0 : Int32)).bind fun _ =>
          some ((0 : Int32), r2.2)
        else
          (aix 24 x1).bind fun j7 =>
          stM (pI r2.2 4 j7 5 x2) fun z8 =>
          (aix 24 x1).bind fun j9 =>
          stM (pI z8 4 j9 6 x3) fun z10 =>
          (bz (1 : Int32)).bind fun _ =>
          some ((1 : Int32), z10)
  else
    (bz (0 : Int32)).bind fun _ =>
    some ((0 : Int32), z)
abbrev rm_X_shape : Room := { frames := 2, cells := 0, slots := 0, locals := 43 }
def dn_F_found (x0 : Nat) (x1 : Int32) (x2 : Int32) (x3 : Int32) (x4 : Int32) (z : Mem) : Option Mem :=
  stM (pI z 9 x0 0 x1) fun z1 =>
  stM (pI z1 9 x0 1 x2) fun z2 =>
  stM (pI z2 9 x0 2 x3) fun z3 =>
  stM (pI z3 9 x0 3 x4) fun z4 =>
  stM (pI z4 9 x0 4 (4 : Int32)) fun z5 =>
  stM (pI z5 9 x0 5 (100 : Int32)) fun z6 =>
  stM (pI z6 9 x0 6 (0 : Int32)) fun z7 =>
  stM (pI z7 9 x0 7 (0 : Int32)) fun z8 =>
  stM (pI z8 9 x0 8 (0 : Int32)) fun z9 =>
  stM (pI z9 9 x0 9 (0 : Int32)) fun z10 =>
  stM (pI z10 9 x0 10 (0 : Int32)) fun z11 =>
  stM (pI z11 9 x0 11 (0 : Int32)) fun z12 =>
  stM (pI z12 9 x0 12 (0 : Int32)) fun z13 =>
  stM (pI z13 9 x0 13 (0 : Int32)) fun z14 =>
  some z14
abbrev rm_F_found : Room := { frames := 0, cells := 0, slots := 0, locals := 0 }
def dn_X_flow (x1 : Int32) (x2 : Int32) (x3 : Int32) (x4 : Int32) (z : Mem) : Option (Int32 × Mem) :=
  if (z.1 0 0 9) = 0 then
    if (6 : Int32) ≤ (z.1 0 0 7) then
      some ((-1 : Int32), z)
    else
      (dn_X_isNode x1).bind fun v1 =>
      if v1 = 0 then
        some ((-1 : Int32), z)
      else
        (dn_X_isNode x2).bind fun v2 =>
        if v2 = 0 then
          some ((-1 : Int32), z)
        else
          if x1 = x2 then
            some ((-1 : Int32), z)
          else
            (dn_X_isWithin x3 (1 : Int32) (100 : Int32)).bind fun v3 =>
            if v3 = 0 then
              some ((-1 : Int32), z)
            else
              (dn_X_isWithin x4 (1 : Int32) (8 : Int32)).bind fun v4 =>
              if v4 = 0 then
                some ((-1 : Int32), z)
              else
                (aix 6 (z.1 0 0 7)).bind fun j5 =>
                (dn_F_found j5 x1 x2 x3 x4 z).bind fun z6 =>
                stM (pI z6 0 0 7 ((z6.1 0 0 7) + (1 : Int32))) fun z7 =>
                some ((z.1 0 0 7), z7)
  else
    some ((-1 : Int32), z)
abbrev rm_X_flow : Room := { frames := 1, cells := 0, slots := 0, locals := 24 }
def dn_X_isFlow (x1 : Int32) (z : Mem) : Option (Int32 × Mem) :=
  (dn_X_isWithin x1 (0 : Int32) ((z.1 0 0 7) - (1 : Int32))).bind fun v1 =>
  (bz v1).bind fun _ =>
  some (v1, z)
abbrev rm_X_isFlow : Room := { frames := 1, cells := 0, slots := 0, locals := 22 }
def dn_X_tune (x1 : Int32) (x2 : Int32) (x3 : Int32) (x4 : Int32) (z : Mem) : Option (Int32 × Mem) :=
  if (z.1 0 0 9) = 0 then
    (dn_X_isFlow x1 z).bind fun r2 =>
    if r2.1 = 0 then
      (bz (0 : Int32)).bind fun _ =>
      some ((0 : Int32), r2.2)
    else
      (dn_X_isWithin x2 (1 : Int32) (8 : Int32)).bind fun v4 =>
      if v4 = 0 then
        (bz (0 : Int32)).bind fun _ =>
        some ((0 : Int32), r2.2)
      else
        (dn_X_isWithin x3 (1 : Int32) (200 : Int32)).bind fun v5 =>
        if v5 = 0 then
          (bz (0 : Int32)).bind fun _ =>
          some ((0 : Int32), r2.2)
        else
          (dn_X_isWithin x4 (0 : Int32) (1000 : Int32)).bind fun v7 =>
          if v7 = 0 then
            (bz (0 : Int32)).bind fun _ =>
            some ((0 : Int32), r2.2)
          else
            (aix 6 x1).bind fun j8 =>
            stM (pI r2.2 9 j8 4 x2) fun z9 =>
            (aix 6 x1).bind fun j10 =>
            stM (pI z9 9 j10 5 x3) fun z11 =>
            (aix 6 x1).bind fun j12 =>
            stM (pI z11 9 j12 6 x4) fun z13 =>
            (bz (1 : Int32)).bind fun _ =>
            some ((1 : Int32), z13)
  else
    (bz (0 : Int32)).bind fun _ =>
    some ((0 : Int32), z)
abbrev rm_X_tune : Room := { frames := 2, cells := 0, slots := 0, locals := 43 }
def dn_J_fillX2_5 (k20 : Mem → Option Mem) : Nat → Nat → Int32 → Int32 → Int32 → Mem → Option Mem
  | 0, _, _, _, _, _ => none
  | n + 1, x0, x1, x2, x3, z =>
    if x3 ≤ x2 then
      k20 z
    else
      (aix 8 x2).bind fun j1 =>
      stM (pI z 2 x0 j1 x1) fun z2 =>
      dn_J_fillX2_5 k20 n x0 x1 (x2 + (1 : Int32)) x3 z2
def dn_J_fillX2 (x0 : Nat) (x1 : Int32) (z : Mem) : Option Mem :=
  dn_J_fillX2_5 (fun z3 =>
      some z3) FU x0 x1 (0 : Int32) (8 : Int32) z
abbrev rm_J_fillX2 : Room := { frames := 0, cells := 0, slots := 0, locals := 0 }
def dn_J_fillX13_5 (k20 : Mem → Option Mem) : Nat → Int32 → Int32 → Int32 → Mem → Option Mem
  | 0, _, _, _, _ => none
  | n + 1, x1, x2, x3, z =>
    if x3 ≤ x2 then
      k20 z
    else
      (aix 70 x2).bind fun j1 =>
      stM (pI z 13 0 j1 x1) fun z2 =>
      dn_J_fillX13_5 k20 n x1 (x2 + (1 : Int32)) x3 z2
def dn_J_fillX13 (x1 : Int32) (z : Mem) : Option Mem :=
  dn_J_fillX13_5 (fun z3 =>
      some z3) FU x1 (0 : Int32) (70 : Int32) z
abbrev rm_J_fillX13 : Room := { frames := 0, cells := 0, slots := 0, locals := 0 }
def dn_A_unsetAll (z : Mem) : Option Mem :=
  (dn_J_fillX13 (0 : Int32) z).bind fun z1 =>
  stM (pI z1 12 0 3 (0 : Int32)) fun z2 =>
  some z2
abbrev rm_A_unsetAll : Room := { frames := 1, cells := 0, slots := 0, locals := 23 }
def dn_J_fillX16_6 (k22 : Mem → Option Mem) : Nat → Int64 → Int32 → Int32 → Mem → Option Mem
  | 0, _, _, _, _ => none
  | n + 1, x1, x3, x4, z =>
    if x4 ≤ x3 then
      k22 z
    else
      (aix 16 x3).bind fun j1 =>
      stM (pL z j1 x1) fun z2 =>
      dn_J_fillX16_6 k22 n x1 (x3 + (1 : Int32)) x4 z2
def dn_J_fillX16 (x1 : Int64) (z : Mem) : Option Mem :=
  dn_J_fillX16_6 (fun z3 =>
      some z3) FU x1 (0 : Int32) (16 : Int32) z
abbrev rm_J_fillX16 : Room := { frames := 0, cells := 0, slots := 0, locals := 0 }
def dn_X_clear_22 (k53 : Mem → Option Mem) : Nat → Int32 → Mem → Option Mem
  | 0, _, _ => none
  | n + 1, x1, z =>
    if (8 : Int32) ≤ x1 then
      k53 z
    else
      (aix 8 x1).bind fun j6 =>
      (dn_J_fillX2 j6 (-1 : Int32) z).bind fun z7 =>
      (aix 8 x1).bind fun j8 =>
      (aix 8 x1).bind fun j9 =>
      stM (pI z7 2 j8 j9 (0 : Int32)) fun z10 =>
      dn_X_clear_22 k53 n (x1 + (1 : Int32)) z10
def dn_X_clear_55 (k77 : Mem → Option Mem) : Nat → Int32 → Mem → Option Mem
  | 0, _, _ => none
  | n + 1, x1, z =>
    if (64 : Int32) ≤ x1 then
      k77 z
    else
      (aix 64 x1).bind fun j12 =>
      (bz (0 : Int32)).bind fun _ =>
      stM (pI z 11 j12 0 (0 : Int32)) fun z14 =>
      dn_X_clear_55 k77 n (x1 + (1 : Int32)) z14
def dn_X_clear (z : Mem) : Option Mem :=
  (bz (0 : Int32)).bind fun _ =>
  stM (pI z 0 0 9 (0 : Int32)) fun z2 =>
  stM (pI z2 0 0 8 (0 : Int32)) fun z3 =>
  stM (pI z3 0 0 6 (0 : Int32)) fun z4 =>
  stM (pI z4 0 0 7 (0 : Int32)) fun z5 =>
  dn_X_clear_22 (fun z11 =>
      dn_X_clear_55 (fun z15 =>
          (dn_A_unsetAll z15).bind fun z16 =>
          (dn_J_fillX16 (-1 : Int64) z16).bind fun z17 =>
          some z17) FU (0 : Int32) z11) FU (0 : Int32) z5
abbrev rm_X_clear : Room := { frames := 2, cells := 0, slots := 0, locals := 43 }
def dn_A_set (x1 : Int32) (x2 : Int32) (x3 : Int32) (z : Mem) : Option Mem :=
  (aix 70 x1).bind fun j1 =>
  stM (pI z 13 0 j1 x2) fun z2 =>
  (aix 70 x1).bind fun j3 =>
  stM (pI z2 14 0 j3 x3) fun z4 =>
  (aix 70 x1).bind fun j5 =>
  stM (pI z4 15 0 j5 (z4.1 12 0 3)) fun z6 =>
  stM (pI z6 12 0 3 ((z6.1 12 0 3) + (1 : Int32))) fun z7 =>
  some z7
abbrev rm_A_set : Room := { frames := 0, cells := 0, slots := 0, locals := 0 }
def dn_X_begin_15 (k47 : Mem → Option Mem) : Nat → Int32 → Mem → Option Mem
  | 0, _, _ => none
  | n + 1, x1, z =>
    if (z.1 0 0 7) ≤ x1 then
      k47 z
    else
      (aix 6 x1).bind fun j3 =>
      (dn_A_set x1 (1 : Int32) (z.1 9 j3 6) z).bind fun z4 =>
      dn_X_begin_15 k47 n (x1 + (1 : Int32)) z4
def dn_X_begin (z : Mem) : Option Mem :=
  if (z.1 0 0 9) = 0 then
    (bz (1 : Int32)).bind fun _ =>
    stM (pI z 0 0 9 (1 : Int32)) fun z2 =>
    dn_X_begin_15 (fun z5 =>
        some z5) FU (0 : Int32) z2
  else
    some z
abbrev rm_X_begin : Room := { frames := 1, cells := 0, slots := 0, locals := 23 }
def dn_A_isBefore (x1 : Int32) (x2 : Int32) (z : Mem) : Option (Int32 × Mem) :=
  (aix 70 x1).bind fun j1 =>
  (aix 70 x2).bind fun j2 =>
  if (z.1 14 0 j1) < (z.1 14 0 j2) then
    (bz (1 : Int32)).bind fun _ =>
    some ((1 : Int32), z)
  else
    (aix 70 x1).bind fun j4 =>
    (aix 70 x2).bind fun j5 =>
    if (z.1 14 0 j4) = (z.1 14 0 j5) then
      (aix 70 x1).bind fun j7 =>
      (aix 70 x2).bind fun j8 =>
      if (z.1 15 0 j8) ≤ (z.1 15 0 j7) then
        (bz (0 : Int32)).bind fun _ =>
        some ((0 : Int32), z)
      else
        (bz (1 : Int32)).bind fun _ =>
        some ((1 : Int32), z)
    else
      (bz (0 : Int32)).bind fun _ =>
      some ((0 : Int32), z)
abbrev rm_A_isBefore : Room := { frames := 0, cells := 0, slots := 0, locals := 0 }
def dn_A_firstSlot_4 (k41 : Int32 → Mem → Option (Int32 × Mem)) : Nat → Int32 → Int32 → Mem → Option (Int32 × Mem)
  | 0, _, _, _ => none
  | n + 1, x1, x2, z =>
    if (70 : Int32) ≤ x2 then
      k41 x1 z
    else
      (aix 70 x2).bind fun j1 =>
      if (z.1 13 0 j1) = 0 then
        dn_A_firstSlot_4 k41 n x1 (x2 + (1 : Int32)) z
      else
        if x1 = (-1 : Int32) then
          dn_A_firstSlot_4 k41 n x2 (x2 + (1 : Int32)) z
        else
          (dn_A_isBefore x2 x1 z).bind fun r2 =>
          if r2.1 = 0 then
            dn_A_firstSlot_4 k41 n x1 (x2 + (1 : Int32)) r2.2
          else
            dn_A_firstSlot_4 k41 n x2 (x2 + (1 : Int32)) r2.2
def dn_A_firstSlot (z : Mem) : Option (Int32 × Mem) :=
  dn_A_firstSlot_4 (fun x1 z3 =>
      some (x1, z3)) FU (-1 : Int32) (0 : Int32) z
abbrev rm_A_firstSlot : Room := { frames := 1, cells := 0, slots := 0, locals := 22 }
def dn_A_unset (x1 : Int32) (z : Mem) : Option Mem :=
  (aix 70 x1).bind fun j1 =>
  stM (pI z 13 0 j1 (0 : Int32)) fun z2 =>
  some z2
abbrev rm_A_unset : Room := { frames := 0, cells := 0, slots := 0, locals := 0 }
def dn_X_remember (x1 : Int32) (x2 : Int32) (x3 : Int32) (z : Mem) : Option Mem :=
  (acp 16 (0 : Int32) (1 : Int32) (15 : Int32)).bind fun _ =>
  stM (cpL z (0 : Int32) (1 : Int32) (15 : Int32)) fun z2 =>
  (aix 16 (0 : Int32)).bind fun j3 =>
  stM (pL z2 j3 ((((((z2.1 0 0 8)).toInt64 * (1048576 : Int64)) + ((x1 * (65536 : Int32))).toInt64) + ((x2 * (256 : Int32))).toInt64) + (x3).toInt64)) fun z4 =>
  some z4
abbrev rm_X_remember : Room := { frames := 1, cells := 0, slots := 0, locals := 60 }
def dn_M_min (x0 : Int32) (x1 : Int32) : Option Int32 :=
  if x1 < x0 then
    some x1
  else
    some x0
abbrev rm_M_min : Room := { frames := 0, cells := 0, slots := 0, locals := 0 }
def dn_X_hasTimer (x1 : Int32) (z : Mem) : Option (Int32 × Mem) :=
  (aix 70 x1).bind fun j1 =>
  if (z.1 13 0 j1) = (4 : Int32) then
    (bz (1 : Int32)).bind fun _ =>
    some ((1 : Int32), z)
  else
    (bz (0 : Int32)).bind fun _ =>
    some ((0 : Int32), z)
abbrev rm_X_hasTimer : Room := { frames := 0, cells := 0, slots := 0, locals := 0 }
def dn_K_enter (x0 : Nat) (x1 : Int32) (x2 : Int32) (x3 : Int32) (x4 : Nat) (z : Mem) : Option Mem :=
  (bz (1 : Int32)).bind fun _ =>
  stM (pI z 11 x0 0 (1 : Int32)) fun z2 =>
  (bz x3).bind fun _ =>
  stM (pI z2 11 x0 1 x3) fun z4 =>
  stM (pI z4 11 x0 2 x1) fun z5 =>
  stM (pI z5 11 x0 3 x2) fun z6 =>
  if x3 = 0 then
    stM (pI z6 11 x0 4 (z6.1 9 x4 3)) fun z7 =>
    if x3 = 0 then
      stM (pI z7 11 x0 5 (z7.1 9 x4 1)) fun z8 =>
      some z8
    else
      stM (pI z7 11 x0 5 (z7.1 9 x4 0)) fun z9 =>
      some z9
  else
    stM (pI z6 11 x0 4 (1 : Int32)) fun z10 =>
    if x3 = 0 then
      stM (pI z10 11 x0 5 (z10.1 9 x4 1)) fun z11 =>
      some z11
    else
      stM (pI z10 11 x0 5 (z10.1 9 x4 0)) fun z12 =>
      some z12
abbrev rm_K_enter : Room := { frames := 0, cells := 0, slots := 0, locals := 0 }
def dn_X_make_18 (k38 : Int32 → Int32 → Int32 → Int32 → Mem → Option (Int32 × Mem)) (k66 : Int32 → Mem → Option (Int32 × Mem)) : Nat → Int32 → Int32 → Int32 → Int32 → Mem → Option (Int32 × Mem)
  | 0, _, _, _, _, _ => none
  | n + 1, x1, x2, x3, x4, z =>
    if (64 : Int32) ≤ x4 then
      k66 x1 z
    else
      (aix 64 x4).bind fun j3 =>
      if (z.1 11 j3 0) = 0 then
        k38 x1 x2 x3 x4 z
      else
        dn_X_make_18 k38 k66 n x1 x2 x3 (x4 + (1 : Int32)) z
def dn_X_make (x1 : Int32) (x2 : Int32) (x3 : Int32) (z : Mem) : Option (Int32 × Mem) :=
  (aix 6 x1).bind fun j1 =>
  stM (pI z 9 j1 10 ((z.1 9 j1 10) + (1 : Int32))) fun z2 =>
  dn_X_make_18 (fun x1 x2 x3 x4 z4 =>
      (aix 64 x4).bind fun j5 =>
      (aix 6 x1).bind fun j6 =>
      (dn_K_enter j5 x1 x2 x3 j6 z4).bind fun z7 =>
      some (x4, z7)) (fun x1 z8 =>
      (aix 6 x1).bind fun j9 =>
      stM (pI z8 9 j9 12 ((z8.1 9 j9 12) + (1 : Int32))) fun z10 =>
      some ((-1 : Int32), z10)) FU x1 x2 x3 (0 : Int32) z2
abbrev rm_X_make : Room := { frames := 1, cells := 0, slots := 0, locals := 24 }
def dn_X_way_35 (k91 : Int32 → Mem → Option (Int32 × Mem)) (k99 : Mem → Option (Int32 × Mem)) : Nat → Int32 → Int32 → Int32 → Mem → Option (Int32 × Mem)
  | 0, _, _, _, _ => none
  | n + 1, x1, x2, x3, z =>
    if ((2 : Int32) * (z.1 0 0 6)) ≤ x3 then
      k99 z
    else
      (aix 24 x3).bind fun j5 =>
      if (z.1 4 j5 0) = x1 then
        (aix 8 (z.1 4 j5 1)).bind fun j6 =>
        (aix 8 x2).bind fun j7 =>
        (aix 8 x1).bind fun j8 =>
        (aix 8 x2).bind fun j9 =>
        if ((z.1 4 j5 2) + (z.1 2 j6 j7)) = (z.1 2 j8 j9) then
          k91 x3 z
        else
          dn_X_way_35 k91 k99 n x1 x2 (x3 + (1 : Int32)) z
      else
        dn_X_way_35 k91 k99 n x1 x2 (x3 + (1 : Int32)) z
def dn_X_way (x1 : Int32) (x2 : Int32) (z : Mem) : Option (Int32 × Mem) :=
  (dn_X_isNode x1).bind fun v1 =>
  if v1 = 0 then
    some ((-1 : Int32), z)
  else
    (dn_X_isNode x2).bind fun v2 =>
    if v2 = 0 then
      some ((-1 : Int32), z)
    else
      if x1 = x2 then
        some ((-1 : Int32), z)
      else
        (aix 8 x1).bind fun j3 =>
        (aix 8 x2).bind fun j4 =>
        if (z.1 2 j3 j4) = (-1 : Int32) then
          some ((-1 : Int32), z)
        else
          dn_X_way_35 (fun x3 z10 =>
              some (x3, z10)) (fun z11 =>
              some ((-1 : Int32), z11)) FU x1 x2 (0 : Int32) z
abbrev rm_X_way : Room := { frames := 1, cells := 0, slots := 0, locals := 20 }
def dn_X_queuedOf_5 (k42 : Int32 → Mem → Option (Int32 × Mem)) : Nat → Nat → Int32 → Int32 → Int32 → Mem → Option (Int32 × Mem)
  | 0, _, _, _, _, _ => none
  | n + 1, x1, x2, x3, x4, z =>
    if (z.1 4 x1 8) ≤ x4 then
      k42 x3 z
    else
      (aix 8 x4).bind fun j1 =>
      (aix 64 (z.1 5 x1 j1)).bind fun j2 =>
      if (z.1 11 j2 2) = x2 then
        dn_X_queuedOf_5 k42 n x1 x2 (x3 + (1 : Int32)) (x4 + (1 : Int32)) z
      else
        dn_X_queuedOf_5 k42 n x1 x2 x3 (x4 + (1 : Int32)) z
def dn_X_queuedOf (x1 : Nat) (x2 : Int32) (z : Mem) : Option (Int32 × Mem) :=
  dn_X_queuedOf_5 (fun x3 z3 =>
      some (x3, z3)) FU x1 x2 (0 : Int32) (0 : Int32) z
abbrev rm_X_queuedOf : Room := { frames := 0, cells := 0, slots := 0, locals := 0 }
def dn_P_serveFirst (x0 : Nat) (z : Mem) : Option Mem :=
  if (z.1 4 x0 10) = 0 then
    (aix 6 (0 : Int32)).bind fun j1 =>
    (aix 6 (z.1 6 x0 j1)).bind fun j2 =>
    (aix 6 (z.1 6 x0 j1)).bind fun j3 =>
    stM (pI z 7 x0 j3 ((z.1 7 x0 j2) + (z.1 4 x0 5))) fun z4 =>
    (bz (1 : Int32)).bind fun _ =>
    stM (pI z4 4 x0 10 (1 : Int32)) fun z6 =>
    some z6
  else
    some z
abbrev rm_P_serveFirst : Room := { frames := 0, cells := 0, slots := 0, locals := 0 }
def dn_X_firstPlaceOf_2 (k36 : Int32 → Mem → Option (Int32 × Mem)) : Nat → Nat → Int32 → Int32 → Mem → Option (Int32 × Mem)
  | 0, _, _, _, _ => none
  | n + 1, x1, x2, x3, z =>
    if ((z.1 4 x1 8) - (1 : Int32)) ≤ x3 then
      k36 x3 z
    else
      (aix 8 x3).bind fun j1 =>
      (aix 64 (z.1 5 x1 j1)).bind fun j2 =>
      if (z.1 11 j2 2) = x2 then
        k36 x3 z
      else
        dn_X_firstPlaceOf_2 k36 n x1 x2 (x3 + (1 : Int32)) z
def dn_X_firstPlaceOf (x1 : Nat) (x2 : Int32) (z : Mem) : Option (Int32 × Mem) :=
  dn_X_firstPlaceOf_2 (fun x3 z3 =>
      some (x3, z3)) FU x1 x2 (0 : Int32) z
abbrev rm_X_firstPlaceOf : Room := { frames := 0, cells := 0, slots := 0, locals := 0 }
def dn_P_dropFirst (x0 : Nat) (z : Mem) : Option Mem :=
  if (z.1 4 x0 9) ≤ 0 then
    some z
  else
    stM (pI z 4 x0 9 ((z.1 4 x0 9) - (1 : Int32))) fun z1 =>
    (acp 6 (1 : Int32) (0 : Int32) (z1.1 4 x0 9)).bind fun _ =>
    stM (cpI z1 6 x0 (1 : Int32) (0 : Int32) (z1.1 4 x0 9)) fun z3 =>
    (bz (0 : Int32)).bind fun _ =>
    stM (pI z3 4 x0 10 (0 : Int32)) fun z5 =>
    some z5
abbrev rm_P_dropFirst : Room := { frames := 1, cells := 0, slots := 0, locals := 60 }
def dn_P_append (x0 : Nat) (x1 : Int32) (z : Mem) : Option Mem :=
  if (6 : Int32) ≤ (z.1 4 x0 9) then
    some z
  else
    (aix 6 (z.1 4 x0 9)).bind fun j1 =>
    stM (pI z 6 x0 j1 x1) fun z2 =>
    stM (pI z2 4 x0 9 ((z2.1 4 x0 9) + (1 : Int32))) fun z3 =>
    some z3
abbrev rm_P_append : Room := { frames := 0, cells := 0, slots := 0, locals := 0 }
def dn_P_takeFrom (x0 : Nat) (x1 : Int32) (z : Mem) : Option (Int32 × Mem) :=
  (aix 8 x1).bind fun j1 =>
  stM (pI z 4 x0 8 ((z.1 4 x0 8) - (1 : Int32))) fun z2 =>
  (acp 8 (x1 + (1 : Int32)) x1 ((z2.1 4 x0 8) - x1)).bind fun _ =>
  stM (cpI z2 5 x0 (x1 + (1 : Int32)) x1 ((z2.1 4 x0 8) - x1)) fun z4 =>
  some ((z.1 5 x0 j1), z4)
abbrev rm_P_takeFrom : Room := { frames := 1, cells := 0, slots := 0, locals := 60 }
def dn_X_choose_2 (k62 : Nat → Int32 → Int32 → Nat → Mem → Option Mem) (k152 : Mem → Option Mem) : Nat → Nat → Int32 → Mem → Option Mem
  | 0, _, _, _ => none
  | n + 1, x1, x2, z =>
    if (54 : Int32) ≤ x2 then
      k152 z
    else
      if (z.1 4 x1 8) ≤ 0 then
        k152 z
      else
        (aix 6 (0 : Int32)).bind fun j1 =>
        (dn_P_serveFirst x1 z).bind fun z2 =>
        (dn_X_firstPlaceOf x1 (z.1 6 x1 j1) z2).bind fun r3 =>
        (aix 8 r3.1).bind fun j4 =>
        (aix 64 (r3.2.1 5 x1 j4)).bind fun j5 =>
        (aix 6 (z.1 6 x1 j1)).bind fun j6 =>
        if (r3.2.1 7 x1 j6) < (r3.2.1 11 j5 4) then
          (dn_P_dropFirst x1 r3.2).bind fun z7 =>
          (dn_P_append x1 (z.1 6 x1 j1) z7).bind fun z8 =>
          dn_X_choose_2 k62 k152 n x1 (x2 + (1 : Int32)) z8
        else
          k62 x1 (z.1 6 x1 j1) r3.1 j5 r3.2
def dn_X_choose (x1 : Nat) (z : Mem) : Option Mem :=
  dn_X_choose_2 (fun x1 x3 x4 x5 z9 =>
      (aix 6 x3).bind fun j10 =>
      (aix 6 x3).bind fun j11 =>
      stM (pI z9 7 x1 j11 ((z9.1 7 x1 j10) - (z9.1 11 x5 4))) fun z12 =>
      (dn_P_takeFrom x1 x4 z12).bind fun r13 =>
      stM (pI r13.2 4 x1 7 r13.1) fun z14 =>
      (dn_A_set ((6 : Int32) + (z14.1 4 x1 7)) (2 : Int32) ((z14.1 0 0 8) + ((z14.1 11 x5 4) * (z14.1 4 x1 3))) z14).bind fun z15 =>
      (dn_X_queuedOf x1 x3 z15).bind fun r16 =>
      if r16.1 = 0 then
        (dn_P_dropFirst x1 r16.2).bind fun z17 =>
        (aix 6 x3).bind fun j18 =>
        stM (pI z17 7 x1 j18 (0 : Int32)) fun z19 =>
        some z19
      else
        some r16.2) (fun z20 =>
      some z20) FU x1 (0 : Int32) z
abbrev rm_X_choose : Room := { frames := 2, cells := 0, slots := 0, locals := 82 }
def dn_X_put (x1 : Int32) (x2 : Int32) (z : Mem) : Option Mem :=
  if x1 = (-1 : Int32) then
    some z
  else
    (aix 64 x1).bind fun j1 =>
    (dn_X_way x2 (z.1 11 j1 5) z).bind fun r2 =>
    if r2.1 = (-1 : Int32) then
      (bz (0 : Int32)).bind fun _ =>
      stM (pI r2.2 11 j1 0 (0 : Int32)) fun z4 =>
      (aix 6 (z4.1 11 j1 2)).bind fun j5 =>
      stM (pI z4 9 j5 12 ((z4.1 9 j5 12) + (1 : Int32))) fun z6 =>
      some z6
    else
      (aix 24 r2.1).bind fun j7 =>
      (aix 24 r2.1).bind fun j8 =>
      if (r2.2.1 4 j7 8) < (r2.2.1 4 j8 6) then
        (aix 24 r2.1).bind fun j9 =>
        stM (pI r2.2 11 j1 6 r2.1) fun z10 =>
        (dn_X_queuedOf j9 (z10.1 11 j1 2) z10).bind fun r11 =>
        if r11.1 = 0 then
          (dn_P_append j9 (r11.2.1 11 j1 2) r11.2).bind fun z16 =>
          (aix 8 (z16.1 4 j9 8)).bind fun j17 =>
          stM (pI z16 5 j9 j17 x1) fun z18 =>
          stM (pI z18 4 j9 8 ((z18.1 4 j9 8) + (1 : Int32))) fun z19 =>
          if (z19.1 4 j9 7) = (-1 : Int32) then
            (dn_X_choose j9 z19).bind fun z20 =>
            some z20
          else
            some z19
        else
          (aix 8 (r11.2.1 4 j9 8)).bind fun j12 =>
          stM (pI r11.2 5 j9 j12 x1) fun z13 =>
          stM (pI z13 4 j9 8 ((z13.1 4 j9 8) + (1 : Int32))) fun z14 =>
          if (z14.1 4 j9 7) = (-1 : Int32) then
            (dn_X_choose j9 z14).bind fun z15 =>
            some z15
          else
            some z14
      else
        (bz (0 : Int32)).bind fun _ =>
        stM (pI r2.2 11 j1 0 (0 : Int32)) fun z22 =>
        (aix 6 (z22.1 11 j1 2)).bind fun j23 =>
        stM (pI z22 9 j23 12 ((z22.1 9 j23 12) + (1 : Int32))) fun z24 =>
        some z24
abbrev rm_X_put : Room := { frames := 3, cells := 0, slots := 0, locals := 107 }
def dn_X_setTimer (x1 : Int32) (z : Mem) : Option Mem :=
  (aix 6 x1).bind fun j1 =>
  (dn_A_set x1 (4 : Int32) ((z.1 0 0 8) + (z.1 9 j1 5)) z).bind fun z2 =>
  some z2
abbrev rm_X_setTimer : Room := { frames := 1, cells := 0, slots := 0, locals := 23 }
def dn_X_fill_30 (k79 : Mem → Option Mem) : Nat → Int32 → Nat → Int32 → Int32 → Mem → Option Mem
  | 0, _, _, _, _, _ => none
  | n + 1, x1, x2, x3, x4, z =>
    if x3 ≤ x4 then
      k79 z
    else
      (dn_X_hasTimer x1 z).bind fun r3 =>
      if r3.1 = 0 then
        (dn_X_setTimer x1 r3.2).bind fun z7 =>
        (dn_X_make x1 x4 (0 : Int32) z7).bind fun r8 =>
        (dn_X_put r8.1 (r8.2.1 9 x2 0) r8.2).bind fun z9 =>
        stM (pI z9 9 x2 8 (x4 + (1 : Int32))) fun z10 =>
        dn_X_fill_30 k79 n x1 x2 x3 (x4 + (1 : Int32)) z10
      else
        (dn_X_make x1 x4 (0 : Int32) r3.2).bind fun r4 =>
        (dn_X_put r4.1 (r4.2.1 9 x2 0) r4.2).bind fun z5 =>
        stM (pI z5 9 x2 8 (x4 + (1 : Int32))) fun z6 =>
        dn_X_fill_30 k79 n x1 x2 x3 (x4 + (1 : Int32)) z6
def dn_X_fill (x1 : Int32) (z : Mem) : Option Mem :=
  (aix 6 x1).bind fun j1 =>
  (dn_M_min ((z.1 9 j1 7) + (z.1 9 j1 4)) (z.1 9 j1 2)).bind fun v2 =>
  dn_X_fill_30 (fun z11 =>
      some z11) FU x1 j1 v2 (z.1 9 j1 8) z
abbrev rm_X_fill : Room := { frames := 4, cells := 0, slots := 0, locals := 132 }
def dn_X_start (x1 : Int32) (z : Mem) : Option Mem :=
  (aix 6 x1).bind fun j1 =>
  (dn_X_remember (1 : Int32) x1 (z.1 9 j1 8) z).bind fun z2 =>
  (dn_X_fill x1 z2).bind fun z3 =>
  some z3
abbrev rm_X_start : Room := { frames := 5, cells := 0, slots := 0, locals := 156 }
def dn_K_label (x0 : Nat) (z : Mem) : Option (Int32 × Mem) :=
  if (z.1 11 x0 1) = 0 then
    some ((z.1 11 x0 3), z)
  else
    some (((z.1 11 x0 3) + (128 : Int32)), z)
abbrev rm_K_label : Room := { frames := 0, cells := 0, slots := 0, locals := 0 }
def dn_X_leave (x1 : Int32) (z : Mem) : Option Mem :=
  (aix 64 x1).bind fun j1 =>
  (aix 24 (z.1 11 j1 6)).bind fun j2 =>
  (dn_K_label j1 z).bind fun r3 =>
  (dn_X_remember (2 : Int32) (z.1 11 j1 6) r3.1 r3.2).bind fun z4 =>
  stM (pI z4 4 j2 7 (-1 : Int32)) fun z5 =>
  (dn_A_set ((6 : Int32) + x1) (3 : Int32) ((z5.1 0 0 8) + (z5.1 4 j2 4)) z5).bind fun z6 =>
  if (z6.1 4 j2 8) ≤ 0 then
    some z6
  else
    (dn_X_choose j2 z6).bind fun z7 =>
    some z7
abbrev rm_X_leave : Room := { frames := 3, cells := 0, slots := 0, locals := 107 }
def dn_M_max (x0 : Int32) (x1 : Int32) : Option Int32 :=
  if x0 < x1 then
    some x1
  else
    some x0
abbrev rm_M_max : Room := { frames := 0, cells := 0, slots := 0, locals := 0 }
def dn_X_moveBase (x1 : Int32) (x2 : Int32) (z : Mem) : Option Mem :=
  (aix 6 x1).bind fun j1 =>
  stM (pI z 9 j1 7 x2) fun z2 =>
  (dn_M_max (z2.1 9 j1 8) x2).bind fun v3 =>
  stM (pI z2 9 j1 8 v3) fun z4 =>
  (dn_A_unset x1 z4).bind fun z5 =>
  if (z5.1 9 j1 8) ≤ (z5.1 9 j1 7) then
    some z5
  else
    (dn_X_setTimer x1 z5).bind fun z6 =>
    some z6
abbrev rm_X_moveBase : Room := { frames := 2, cells := 0, slots := 0, locals := 44 }
def dn_X_takeData (x1 : Int32) (x2 : Int32) (z : Mem) : Option Mem :=
  (aix 6 x1).bind fun j1 =>
  if x2 = (z.1 9 j1 9) then
    stM (pI z 9 j1 9 ((z.1 9 j1 9) + (1 : Int32))) fun z4 =>
    (dn_X_make x1 (z4.1 9 j1 9) (1 : Int32) z4).bind fun r5 =>
    (dn_X_put r5.1 (r5.2.1 9 j1 1) r5.2).bind fun z6 =>
    some z6
  else
    (dn_X_make x1 (z.1 9 j1 9) (1 : Int32) z).bind fun r2 =>
    (dn_X_put r2.1 (r2.2.1 9 j1 1) r2.2).bind fun z3 =>
    some z3
abbrev rm_X_takeData : Room := { frames := 4, cells := 0, slots := 0, locals := 132 }
def dn_X_arrive (x1 : Int32) (z : Mem) : Option Mem :=
  (aix 64 x1).bind fun j1 =>
  (aix 24 (z.1 11 j1 6)).bind fun j2 =>
  (dn_K_label j1 z).bind fun r3 =>
  (dn_X_remember (3 : Int32) (z.1 4 j2 1) r3.1 r3.2).bind fun z4 =>
  if (z.1 4 j2 1) = (z4.1 11 j1 5) then
    (bz (0 : Int32)).bind fun _ =>
    stM (pI z4 11 j1 0 (0 : Int32)) fun z6 =>
    (aix 6 (z6.1 11 j1 2)).bind fun j7 =>
    stM (pI z6 9 j7 11 ((z6.1 9 j7 11) + (1 : Int32))) fun z8 =>
    if (z8.1 11 j1 1) = 0 then
      (dn_X_takeData (z8.1 11 j1 2) (z8.1 11 j1 3) z8).bind fun z12 =>
      some z12
    else
      (aix 6 (z8.1 11 j1 2)).bind fun j9 =>
      if (z8.1 11 j1 3) ≤ (z8.1 9 j9 7) then
        some z8
      else
        (dn_X_moveBase (z8.1 11 j1 2) (z8.1 11 j1 3) z8).bind fun z10 =>
        (dn_X_fill (z10.1 11 j1 2) z10).bind fun z11 =>
        some z11
  else
    (dn_X_put x1 (z.1 4 j2 1) z4).bind fun z13 =>
    some z13
abbrev rm_X_arrive : Room := { frames := 5, cells := 0, slots := 0, locals := 156 }
def dn_X_timeOut (x1 : Int32) (z : Mem) : Option Mem :=
  (aix 6 x1).bind fun j1 =>
  (dn_X_remember (4 : Int32) x1 (z.1 9 j1 7) z).bind fun z2 =>
  stM (pI z2 9 j1 13 ((z2.1 9 j1 13) + (1 : Int32))) fun z3 =>
  stM (pI z3 9 j1 8 (z3.1 9 j1 7)) fun z4 =>
  (dn_X_fill x1 z4).bind fun z5 =>
  some z5
abbrev rm_X_timeOut : Room := { frames := 5, cells := 0, slots := 0, locals := 156 }
def dn_X_happen (z : Mem) : Option (Int32 × Mem) :=
  (dn_A_firstSlot z).bind fun r1 =>
  if r1.1 = (-1 : Int32) then
    (bz (0 : Int32)).bind fun _ =>
    some ((0 : Int32), r1.2)
  else
    (aix 70 r1.1).bind fun j2 =>
    stM (pI r1.2 0 0 8 (r1.2.1 14 0 j2)) fun z3 =>
    (aix 70 r1.1).bind fun j4 =>
    (dn_A_unset r1.1 z3).bind fun z5 =>
    if (z3.1 13 0 j4) = (1 : Int32) then
      (dn_X_start r1.1 z5).bind fun z6 =>
      (bz (1 : Int32)).bind fun _ =>
      some ((1 : Int32), z6)
    else if (z3.1 13 0 j4) = (2 : Int32) then
      (dn_X_leave (r1.1 - (6 : Int32)) z5).bind fun z8 =>
      (bz (1 : Int32)).bind fun _ =>
      some ((1 : Int32), z8)
    else if (z3.1 13 0 j4) = (3 : Int32) then
      (dn_X_arrive (r1.1 - (6 : Int32)) z5).bind fun z10 =>
      (bz (1 : Int32)).bind fun _ =>
      some ((1 : Int32), z10)
    else 
      (dn_X_timeOut r1.1 z5).bind fun z12 =>
      (bz (1 : Int32)).bind fun _ =>
      some ((1 : Int32), z12)
abbrev rm_X_happen : Room := { frames := 6, cells := 0, slots := 0, locals := 179 }
def dn_X_step (z : Mem) : Option (Int32 × Mem) :=
  (dn_X_begin z).bind fun z1 =>
  (dn_X_happen z1).bind fun r2 =>
  (bz r2.1).bind fun _ =>
  some (r2.1, r2.2)
abbrev rm_X_step : Room := { frames := 7, cells := 0, slots := 0, locals := 201 }
def dn_X_run_22 (k40 : Int32 → Mem → Option (Int32 × Mem)) : Nat → Int32 → Int32 → Mem → Option (Int32 × Mem)
  | 0, _, _, _ => none
  | n + 1, x1, x2, z =>
    if x1 ≤ x2 then
      k40 x2 z
    else
      (dn_X_happen z).bind fun r2 =>
      if r2.1 = 0 then
        k40 x2 r2.2
      else
        dn_X_run_22 k40 n x1 (x2 + (1 : Int32)) r2.2
def dn_X_run (x1 : Int32) (z : Mem) : Option (Int32 × Mem) :=
  (dn_X_isWithin x1 (0 : Int32) (50 : Int32)).bind fun v1 =>
  if v1 = 0 then
    some ((-1 : Int32), z)
  else
    if x1 ≤ 0 then
      dn_X_run_22 (fun x2 z3 =>
          some (x2, z3)) FU x1 (0 : Int32) z
    else
      (dn_X_begin z).bind fun z4 =>
      dn_X_run_22 (fun x2 z5 =>
          some (x2, z5)) FU x1 (0 : Int32) z4
abbrev rm_X_run : Room := { frames := 7, cells := 0, slots := 0, locals := 201 }
def dn_X_now (z : Mem) : Option (Int32 × Mem) :=
  some ((z.1 0 0 8), z)
abbrev rm_X_now : Room := { frames := 0, cells := 0, slots := 0, locals := 0 }
def dn_X_trace (x1 : Int32) (z : Mem) : Option (Int64 × Mem) :=
  (dn_X_isWithin x1 (0 : Int32) (15 : Int32)).bind fun v1 =>
  if v1 = 0 then
    some ((-1 : Int64), z)
  else
    (aix 16 x1).bind fun j2 =>
    some ((z.2 j2), z)
abbrev rm_X_trace : Room := { frames := 1, cells := 0, slots := 0, locals := 22 }
def dn_X_distance (x1 : Int32) (x2 : Int32) (z : Mem) : Option (Int32 × Mem) :=
  (dn_X_isNode x1).bind fun v1 =>
  if v1 = 0 then
    some ((-1 : Int32), z)
  else
    (dn_X_isNode x2).bind fun v2 =>
    if v2 = 0 then
      some ((-1 : Int32), z)
    else
      (aix 8 x1).bind fun j3 =>
      (aix 8 x2).bind fun j4 =>
      some ((z.1 2 j3 j4), z)
abbrev rm_X_distance : Room := { frames := 1, cells := 0, slots := 0, locals := 20 }
def dn_X_waiting (x1 : Int32) (x2 : Int32) (z : Mem) : Option (Int32 × Mem) :=
  (dn_X_isPort x1 z).bind fun r1 =>
  if r1.1 = 0 then
    some ((-1 : Int32), r1.2)
  else
    if x2 = (-1 : Int32) then
      (aix 24 x1).bind fun j5 =>
      some ((r1.2.1 4 j5 8), r1.2)
    else
      (dn_X_isFlow x2 r1.2).bind fun r2 =>
      if r2.1 = 0 then
        some ((-1 : Int32), r2.2)
      else
        (aix 24 x1).bind fun j3 =>
        (dn_X_queuedOf j3 x2 r2.2).bind fun r4 =>
        some (r4.1, r4.2)
abbrev rm_X_waiting : Room := { frames := 2, cells := 0, slots := 0, locals := 43 }
def dn_X_deficit (x1 : Int32) (x2 : Int32) (z : Mem) : Option (Int32 × Mem) :=
  (dn_X_isPort x1 z).bind fun r1 =>
  if r1.1 = 0 then
    some ((-1 : Int32), r1.2)
  else
    (dn_X_isFlow x2 r1.2).bind fun r2 =>
    if r2.1 = 0 then
      some ((-1 : Int32), r2.2)
    else
      (aix 24 x1).bind fun j3 =>
      (aix 6 x2).bind fun j4 =>
      some ((r2.2.1 7 j3 j4), r2.2)
abbrev rm_X_deficit : Room := { frames := 2, cells := 0, slots := 0, locals := 43 }
def dn_X_onPort (x1 : Int32) (z : Mem) : Option (Int32 × Mem) :=
  (dn_X_isPort x1 z).bind fun r1 =>
  if r1.1 = 0 then
    some ((-1 : Int32), r1.2)
  else
    (aix 24 x1).bind fun j2 =>
    if (r1.2.1 4 j2 7) = (-1 : Int32) then
      some ((-1 : Int32), r1.2)
    else
      (aix 24 x1).bind fun j3 =>
      (aix 64 (r1.2.1 4 j3 7)).bind fun j4 =>
      (dn_K_label j4 r1.2).bind fun r5 =>
      some ((((256 : Int32) * (r1.2.1 11 j4 2)) + r5.1), r5.2)
abbrev rm_X_onPort : Room := { frames := 2, cells := 0, slots := 0, locals := 43 }
def dn_X_timer (x1 : Int32) (z : Mem) : Option (Int32 × Mem) :=
  (dn_X_isFlow x1 z).bind fun r1 =>
  if r1.1 = 0 then
    some ((-1 : Int32), r1.2)
  else
    (dn_X_hasTimer x1 r1.2).bind fun r2 =>
    if r2.1 = 0 then
      some ((-1 : Int32), r2.2)
    else
      (aix 70 x1).bind fun j3 =>
      some ((r2.2.1 14 0 j3), r2.2)
abbrev rm_X_timer : Room := { frames := 2, cells := 0, slots := 0, locals := 43 }
def dn_X_count (x1 : Int32) (x2 : Int32) (z : Mem) : Option (Int32 × Mem) :=
  (dn_X_isFlow x1 z).bind fun r1 =>
  if r1.1 = 0 then
    some ((-1 : Int32), r1.2)
  else
    if x2 = (0 : Int32) then
      (aix 6 x1).bind fun j2 =>
      some ((r1.2.1 9 j2 7), r1.2)
    else if x2 = (1 : Int32) then
      (aix 6 x1).bind fun j3 =>
      some ((r1.2.1 9 j3 8), r1.2)
    else if x2 = (2 : Int32) then
      (aix 6 x1).bind fun j4 =>
      some ((r1.2.1 9 j4 9), r1.2)
    else if x2 = (3 : Int32) then
      (aix 6 x1).bind fun j5 =>
      some ((r1.2.1 9 j5 10), r1.2)
    else if x2 = (4 : Int32) then
      (aix 6 x1).bind fun j6 =>
      some ((r1.2.1 9 j6 11), r1.2)
    else if x2 = (5 : Int32) then
      (aix 6 x1).bind fun j7 =>
      some ((r1.2.1 9 j7 12), r1.2)
    else if x2 = (6 : Int32) then
      (aix 6 x1).bind fun j8 =>
      some ((r1.2.1 9 j8 13), r1.2)
    else 
      some ((-1 : Int32), r1.2)
abbrev rm_X_count : Room := { frames := 2, cells := 0, slots := 0, locals := 43 }
def dn_Y_lesser (x0 : Int32) (x1 : Int32) : Option Int32 :=
  if x1 ≤ x0 then
    some x1
  else
    some x0
abbrev rm_Y_lesser : Room := { frames := 0, cells := 0, slots := 0, locals := 0 }
def dn_Y_measure_10 (k44 : Int32 → Mem → Option Mem) : Nat → Int32 → Int32 → Mem → Option Mem
  | 0, _, _, _ => none
  | n + 1, x1, x2, z =>
    if (8 : Int32) ≤ x2 then
      k44 x1 z
    else
      if x1 = x2 then
        (aix 64 (((8 : Int32) * x1) + x2)).bind fun j3 =>
        stM (pI z 8 0 j3 (0 : Int32)) fun z4 =>
        dn_Y_measure_10 k44 n x1 (x2 + (1 : Int32)) z4
      else
        (aix 64 (((8 : Int32) * x1) + x2)).bind fun j1 =>
        stM (pI z 8 0 j1 (1000000 : Int32)) fun z2 =>
        dn_Y_measure_10 k44 n x1 (x2 + (1 : Int32)) z2
def dn_Y_measure_2 (k50 : Mem → Option Mem) : Nat → Int32 → Mem → Option Mem
  | 0, _, _ => none
  | n + 1, x1, z =>
    if (8 : Int32) ≤ x1 then
      k50 z
    else
      dn_Y_measure_10 (fun x1 z5 =>
          dn_Y_measure_2 k50 n (x1 + (1 : Int32)) z5) FU x1 (0 : Int32) z
def dn_Y_measure_52 (k142 : Mem → Option Mem) : Nat → Int32 → Mem → Option Mem
  | 0, _, _ => none
  | n + 1, x1, z =>
    if (z.1 0 0 0) ≤ x1 then
      k142 z
    else
      (aix 12 x1).bind fun j7 =>
      (aix 12 x1).bind fun j8 =>
      stV (((8 : Int32) * (z.1 1 0 j7)) + (z.1 2 0 j8)) fun v9 =>
      (aix 12 x1).bind fun j10 =>
      (aix 12 x1).bind fun j11 =>
      stV (((8 : Int32) * (z.1 2 0 j10)) + (z.1 1 0 j11)) fun v12 =>
      (aix 64 v9).bind fun j13 =>
      (aix 12 x1).bind fun j14 =>
      (dn_Y_lesser (z.1 8 0 j13) (z.1 3 0 j14)).bind fun v15 =>
      (aix 64 v9).bind fun j16 =>
      stM (pI z 8 0 j16 v15) fun z17 =>
      (aix 64 v12).bind fun j18 =>
      (aix 12 x1).bind fun j19 =>
      (dn_Y_lesser (z17.1 8 0 j18) (z17.1 3 0 j19)).bind fun v20 =>
      (aix 64 v12).bind fun j21 =>
      stM (pI z17 8 0 j21 v20) fun z22 =>
      dn_Y_measure_52 k142 n (x1 + (1 : Int32)) z22
def dn_Y_measure_160 (k220 : Int32 → Int32 → Mem → Option Mem) : Nat → Int32 → Int32 → Int32 → Mem → Option Mem
  | 0, _, _, _, _ => none
  | n + 1, x1, x2, x3, z =>
    if (8 : Int32) ≤ x3 then
      k220 x1 x2 z
    else
      (aix 64 (((8 : Int32) * x2) + x3)).bind fun j24 =>
      (aix 64 (((8 : Int32) * x2) + x1)).bind fun j25 =>
      (aix 64 (((8 : Int32) * x1) + x3)).bind fun j26 =>
      (dn_Y_lesser (z.1 8 0 j24) ((z.1 8 0 j25) + (z.1 8 0 j26))).bind fun v27 =>
      (aix 64 (((8 : Int32) * x2) + x3)).bind fun j28 =>
      stM (pI z 8 0 j28 v27) fun z29 =>
      dn_Y_measure_160 k220 n x1 x2 (x3 + (1 : Int32)) z29
def dn_Y_measure_152 (k226 : Int32 → Mem → Option Mem) : Nat → Int32 → Int32 → Mem → Option Mem
  | 0, _, _, _ => none
  | n + 1, x1, x2, z =>
    if (8 : Int32) ≤ x2 then
      k226 x1 z
    else
      dn_Y_measure_160 (fun x1 x2 z30 =>
          dn_Y_measure_152 k226 n x1 (x2 + (1 : Int32)) z30) FU x1 x2 (0 : Int32) z
def dn_Y_measure_144 (k232 : Mem → Option Mem) : Nat → Int32 → Mem → Option Mem
  | 0, _, _ => none
  | n + 1, x1, z =>
    if (8 : Int32) ≤ x1 then
      k232 z
    else
      dn_Y_measure_152 (fun x1 z31 =>
          dn_Y_measure_144 k232 n (x1 + (1 : Int32)) z31) FU x1 (0 : Int32) z
def dn_Y_measure (z : Mem) : Option Mem :=
  dn_Y_measure_2 (fun z6 =>
      dn_Y_measure_52 (fun z23 =>
          dn_Y_measure_144 (fun z32 =>
              some z32) FU (0 : Int32) z23) FU (0 : Int32) z6) FU (0 : Int32) z
abbrev rm_Y_measure : Room := { frames := 1, cells := 0, slots := 0, locals := 21 }
def dn_Y_clear_32 (k51 : Mem → Option Mem) : Nat → Int32 → Mem → Option Mem
  | 0, _, _ => none
  | n + 1, x1, z =>
    if (64 : Int32) ≤ x1 then
      k51 z
    else
      (aix 64 x1).bind fun j8 =>
      stM (pI z 24 0 j8 (0 : Int32)) fun z9 =>
      dn_Y_clear_32 k51 n (x1 + (1 : Int32)) z9
def dn_Y_clear (z : Mem) : Option Mem :=
  stM (pI z 0 0 0 (0 : Int32)) fun z1 =>
  stM (pI z1 0 0 9 (0 : Int32)) fun z2 =>
  (bz (0 : Int32)).bind fun _ =>
  stM (pI z2 0 0 35 (0 : Int32)) fun z4 =>
  stM (pI z4 0 0 36 (0 : Int32)) fun z5 =>
  stM (pI z5 0 0 37 (0 : Int32)) fun z6 =>
  stM (pI z6 0 0 38 (0 : Int32)) fun z7 =>
  dn_Y_clear_32 (fun z10 =>
      (dn_Y_measure z10).bind fun z11 =>
      some z11) FU (0 : Int32) z7
abbrev rm_Y_clear : Room := { frames := 2, cells := 0, slots := 0, locals := 44 }
def dn_Y_node (x0 : Int32) : Option Int32 :=
  if x0 < 0 then
    (bz (0 : Int32)).bind fun _ =>
    some (0 : Int32)
  else
    if (7 : Int32) < x0 then
      (bz (0 : Int32)).bind fun _ =>
      some (0 : Int32)
    else
      (bz (1 : Int32)).bind fun _ =>
      some (1 : Int32)
abbrev rm_Y_node : Room := { frames := 0, cells := 0, slots := 0, locals := 0 }
def dn_Y_within (x0 : Int32) (x1 : Int32) (x2 : Int32) : Option Int32 :=
  if x0 < x1 then
    (bz (0 : Int32)).bind fun _ =>
    some (0 : Int32)
  else
    if x2 < x0 then
      (bz (0 : Int32)).bind fun _ =>
      some (0 : Int32)
    else
      (bz (1 : Int32)).bind fun _ =>
      some (1 : Int32)
abbrev rm_Y_within : Room := { frames := 0, cells := 0, slots := 0, locals := 0 }
def dn_Y_link_131 (k167 : Mem → Option (Int32 × Mem)) : Nat → Int32 → Mem → Option (Int32 × Mem)
  | 0, _, _ => none
  | n + 1, x6, z =>
    if (((2 : Int32) * (z.1 0 0 0)) + (1 : Int32)) < x6 then
      k167 z
    else
      (aix 24 x6).bind fun j17 =>
      stM (pI z 6 0 j17 (8 : Int32)) fun z18 =>
      (aix 24 x6).bind fun j19 =>
      stM (pI z18 7 0 j19 (4 : Int32)) fun z20 =>
      dn_Y_link_131 k167 n (x6 + (1 : Int32)) z20
def dn_Y_link (x1 : Int32) (x2 : Int32) (x3 : Int32) (x4 : Int32) (x5 : Int32) (z : Mem) : Option (Int32 × Mem) :=
  if (z.1 0 0 35) = 0 then
    if (z.1 0 0 0) = (12 : Int32) then
      some ((-1 : Int32), z)
    else
      (dn_Y_node x1).bind fun v1 =>
      if v1 = 0 then
        some ((-1 : Int32), z)
      else
        (dn_Y_node x2).bind fun v2 =>
        if v2 = 0 then
          some ((-1 : Int32), z)
        else
          if x1 = x2 then
            some ((-1 : Int32), z)
          else
            (dn_Y_within x3 (1 : Int32) (100 : Int32)).bind fun v3 =>
            if v3 = 0 then
              some ((-1 : Int32), z)
            else
              (dn_Y_within x4 (1 : Int32) (16 : Int32)).bind fun v4 =>
              if v4 = 0 then
                some ((-1 : Int32), z)
              else
                (dn_Y_within x5 (0 : Int32) (40 : Int32)).bind fun v5 =>
                if v5 = 0 then
                  some ((-1 : Int32), z)
                else
                  (aix 12 (z.1 0 0 0)).bind fun j6 =>
                  stM (pI z 1 0 j6 x1) fun z7 =>
                  (aix 12 (z7.1 0 0 0)).bind fun j8 =>
                  stM (pI z7 2 0 j8 x2) fun z9 =>
                  (aix 12 (z9.1 0 0 0)).bind fun j10 =>
                  stM (pI z9 3 0 j10 x3) fun z11 =>
                  (aix 12 (z11.1 0 0 0)).bind fun j12 =>
                  stM (pI z11 4 0 j12 x4) fun z13 =>
                  (aix 12 (z13.1 0 0 0)).bind fun j14 =>
                  stM (pI z13 5 0 j14 x5) fun z15 =>
                  stV ((2 : Int32) * (z15.1 0 0 0)) fun v16 =>
                  dn_Y_link_131 (fun z21 =>
                      stM (pI z21 0 0 0 ((z21.1 0 0 0) + (1 : Int32))) fun z22 =>
                      (dn_Y_measure z22).bind fun z23 =>
                      some (((z23.1 0 0 0) - (1 : Int32)), z23)) FU v16 z15
  else
    some ((-1 : Int32), z)
abbrev rm_Y_link : Room := { frames := 2, cells := 0, slots := 0, locals := 44 }
def dn_Y_isPort (x1 : Int32) (z : Mem) : Option (Int32 × Mem) :=
  if x1 < 0 then
    (bz (0 : Int32)).bind fun _ =>
    some ((0 : Int32), z)
  else
    if ((2 : Int32) * (z.1 0 0 0)) ≤ x1 then
      (bz (0 : Int32)).bind fun _ =>
      some ((0 : Int32), z)
    else
      (bz (1 : Int32)).bind fun _ =>
      some ((1 : Int32), z)
abbrev rm_Y_isPort : Room := { frames := 0, cells := 0, slots := 0, locals := 0 }
def dn_Y_isFlow (x1 : Int32) (z : Mem) : Option (Int32 × Mem) :=
  if x1 < 0 then
    (bz (0 : Int32)).bind fun _ =>
    some ((0 : Int32), z)
  else
    if (z.1 0 0 9) ≤ x1 then
      (bz (0 : Int32)).bind fun _ =>
      some ((0 : Int32), z)
    else
      (bz (1 : Int32)).bind fun _ =>
      some ((1 : Int32), z)
abbrev rm_Y_isFlow : Room := { frames := 0, cells := 0, slots := 0, locals := 0 }
def dn_Y_shape (x1 : Int32) (x2 : Int32) (x3 : Int32) (z : Mem) : Option (Int32 × Mem) :=
  if (z.1 0 0 35) = 0 then
    (dn_Y_isPort x1 z).bind fun r2 =>
    if r2.1 = 0 then
      (bz (0 : Int32)).bind fun _ =>
      some ((0 : Int32), r2.2)
    else
      (dn_Y_within x2 (1 : Int32) (16 : Int32)).bind fun v4 =>
      if v4 = 0 then
        (bz (0 : Int32)).bind fun _ =>
        some ((0 : Int32), r2.2)
      else
        (dn_Y_within x3 (1 : Int32) (8 : Int32)).bind fun v6 =>
        if v6 = 0 then
          (bz (0 : Int32)).bind fun _ =>
          some ((0 : Int32), r2.2)
        else
          (aix 24 x1).bind fun j7 =>
          stM (pI r2.2 6 0 j7 x2) fun z8 =>
          (aix 24 x1).bind fun j9 =>
          stM (pI z8 7 0 j9 x3) fun z10 =>
          (bz (1 : Int32)).bind fun _ =>
          some ((1 : Int32), z10)
  else
    (bz (0 : Int32)).bind fun _ =>
    some ((0 : Int32), z)
abbrev rm_Y_shape : Room := { frames := 1, cells := 0, slots := 0, locals := 22 }
def dn_Y_flow_183 (k210 : Mem → Option (Int32 × Mem)) : Nat → Int32 → Mem → Option (Int32 × Mem)
  | 0, _, _ => none
  | n + 1, x5, z =>
    if (4 : Int32) ≤ x5 then
      k210 z
    else
      (aix 24 (((4 : Int32) * (z.1 0 0 9)) + x5)).bind fun j29 =>
      stM (pI z 23 0 j29 (0 : Int32)) fun z30 =>
      dn_Y_flow_183 k210 n (x5 + (1 : Int32)) z30
def dn_Y_flow (x1 : Int32) (x2 : Int32) (x3 : Int32) (x4 : Int32) (z : Mem) : Option (Int32 × Mem) :=
  if (z.1 0 0 35) = 0 then
    if (z.1 0 0 9) = (6 : Int32) then
      some ((-1 : Int32), z)
    else
      (dn_Y_node x1).bind fun v1 =>
      if v1 = 0 then
        some ((-1 : Int32), z)
      else
        (dn_Y_node x2).bind fun v2 =>
        if v2 = 0 then
          some ((-1 : Int32), z)
        else
          if x1 = x2 then
            some ((-1 : Int32), z)
          else
            (dn_Y_within x3 (1 : Int32) (100 : Int32)).bind fun v3 =>
            if v3 = 0 then
              some ((-1 : Int32), z)
            else
              (dn_Y_within x4 (1 : Int32) (8 : Int32)).bind fun v4 =>
              if v4 = 0 then
                some ((-1 : Int32), z)
              else
                (aix 6 (z.1 0 0 9)).bind fun j5 =>
                stM (pI z 9 0 j5 x1) fun z6 =>
                (aix 6 (z6.1 0 0 9)).bind fun j7 =>
                stM (pI z6 10 0 j7 x2) fun z8 =>
                (aix 6 (z8.1 0 0 9)).bind fun j9 =>
                stM (pI z8 11 0 j9 x3) fun z10 =>
                (aix 6 (z10.1 0 0 9)).bind fun j11 =>
                stM (pI z10 12 0 j11 x4) fun z12 =>
                (aix 6 (z12.1 0 0 9)).bind fun j13 =>
                stM (pI z12 13 0 j13 (4 : Int32)) fun z14 =>
                (aix 6 (z14.1 0 0 9)).bind fun j15 =>
                stM (pI z14 14 0 j15 (100 : Int32)) fun z16 =>
                (aix 6 (z16.1 0 0 9)).bind fun j17 =>
                stM (pI z16 15 0 j17 (0 : Int32)) fun z18 =>
                (aix 6 (z18.1 0 0 9)).bind fun j19 =>
                stM (pI z18 16 0 j19 (0 : Int32)) fun z20 =>
                (aix 6 (z20.1 0 0 9)).bind fun j21 =>
                stM (pI z20 17 0 j21 (0 : Int32)) fun z22 =>
                (aix 6 (z22.1 0 0 9)).bind fun j23 =>
                stM (pI z22 18 0 j23 (0 : Int32)) fun z24 =>
                (aix 6 (z24.1 0 0 9)).bind fun j25 =>
                stM (pI z24 19 0 j25 (-1 : Int32)) fun z26 =>
                (aix 6 (z26.1 0 0 9)).bind fun j27 =>
                stM (pI z26 21 0 j27 (-1 : Int32)) fun z28 =>
                dn_Y_flow_183 (fun z31 =>
                    stM (pI z31 0 0 9 ((z31.1 0 0 9) + (1 : Int32))) fun z32 =>
                    some (((z32.1 0 0 9) - (1 : Int32)), z32)) FU (0 : Int32) z28
  else
    some ((-1 : Int32), z)
abbrev rm_Y_flow : Room := { frames := 1, cells := 0, slots := 0, locals := 22 }
def dn_Y_tune (x1 : Int32) (x2 : Int32) (x3 : Int32) (x4 : Int32) (z : Mem) : Option (Int32 × Mem) :=
  if (z.1 0 0 35) = 0 then
    (dn_Y_isFlow x1 z).bind fun r2 =>
    if r2.1 = 0 then
      (bz (0 : Int32)).bind fun _ =>
      some ((0 : Int32), r2.2)
    else
      (dn_Y_within x2 (1 : Int32) (8 : Int32)).bind fun v4 =>
      if v4 = 0 then
        (bz (0 : Int32)).bind fun _ =>
        some ((0 : Int32), r2.2)
      else
        (dn_Y_within x3 (1 : Int32) (200 : Int32)).bind fun v6 =>
        if v6 = 0 then
          (bz (0 : Int32)).bind fun _ =>
          some ((0 : Int32), r2.2)
        else
          (dn_Y_within x4 (0 : Int32) (1000 : Int32)).bind fun v8 =>
          if v8 = 0 then
            (bz (0 : Int32)).bind fun _ =>
            some ((0 : Int32), r2.2)
          else
            (aix 6 x1).bind fun j9 =>
            stM (pI r2.2 13 0 j9 x2) fun z10 =>
            (aix 6 x1).bind fun j11 =>
            stM (pI z10 14 0 j11 x3) fun z12 =>
            (aix 6 x1).bind fun j13 =>
            stM (pI z12 15 0 j13 x4) fun z14 =>
            (bz (1 : Int32)).bind fun _ =>
            some ((1 : Int32), z14)
  else
    (bz (0 : Int32)).bind fun _ =>
    some ((0 : Int32), z)
abbrev rm_Y_tune : Room := { frames := 1, cells := 0, slots := 0, locals := 22 }
def dn_Y_distance (x1 : Int32) (x2 : Int32) (z : Mem) : Option (Int32 × Mem) :=
  (dn_Y_node x1).bind fun v1 =>
  if v1 = 0 then
    some ((-1 : Int32), z)
  else
    (dn_Y_node x2).bind fun v2 =>
    if v2 = 0 then
      some ((-1 : Int32), z)
    else
      (aix 64 (((8 : Int32) * x1) + x2)).bind fun j3 =>
      if (z.1 8 0 j3) < (1000000 : Int32) then
        (aix 64 (((8 : Int32) * x1) + x2)).bind fun j4 =>
        some ((z.1 8 0 j4), z)
      else
        some ((-1 : Int32), z)
abbrev rm_Y_distance : Room := { frames := 1, cells := 0, slots := 0, locals := 20 }
def dn_Y_at (x1 : Int32) (z : Mem) : Option (Int32 × Mem) :=
  if (x1 - x1 / (2 : Int32) * (2 : Int32)) = 0 then
    (aix 12 (x1 / (2 : Int32))).bind fun j2 =>
    some ((z.1 1 0 j2), z)
  else
    (aix 12 (x1 / (2 : Int32))).bind fun j1 =>
    some ((z.1 2 0 j1), z)
abbrev rm_Y_at : Room := { frames := 0, cells := 0, slots := 0, locals := 0 }
def dn_Y_leads (x1 : Int32) (z : Mem) : Option (Int32 × Mem) :=
  if (x1 - x1 / (2 : Int32) * (2 : Int32)) = 0 then
    (aix 12 (x1 / (2 : Int32))).bind fun j2 =>
    some ((z.1 2 0 j2), z)
  else
    (aix 12 (x1 / (2 : Int32))).bind fun j1 =>
    some ((z.1 1 0 j1), z)
abbrev rm_Y_leads : Room := { frames := 0, cells := 0, slots := 0, locals := 0 }
def dn_Y_way_19 (k76 : Int32 → Mem → Option (Int32 × Mem)) (k84 : Mem → Option (Int32 × Mem)) : Nat → Int32 → Int32 → Int32 → Mem → Option (Int32 × Mem)
  | 0, _, _, _, _ => none
  | n + 1, x1, x2, x3, z =>
    if ((2 : Int32) * (z.1 0 0 0)) ≤ x3 then
      k84 z
    else
      (dn_Y_at x3 z).bind fun r2 =>
      if r2.1 = x1 then
        (aix 12 (x3 / (2 : Int32))).bind fun j3 =>
        (dn_Y_leads x3 r2.2).bind fun r4 =>
        (aix 64 (((8 : Int32) * r4.1) + x2)).bind fun j5 =>
        (aix 64 (((8 : Int32) * x1) + x2)).bind fun j6 =>
        if ((r2.2.1 3 0 j3) + (r4.2.1 8 0 j5)) = (r4.2.1 8 0 j6) then
          k76 x3 r4.2
        else
          dn_Y_way_19 k76 k84 n x1 x2 (x3 + (1 : Int32)) r4.2
      else
        dn_Y_way_19 k76 k84 n x1 x2 (x3 + (1 : Int32)) r2.2
def dn_Y_way (x1 : Int32) (x2 : Int32) (z : Mem) : Option (Int32 × Mem) :=
  if x1 = x2 then
    some ((-1 : Int32), z)
  else
    (dn_Y_distance x1 x2 z).bind fun r1 =>
    if r1.1 = (-1 : Int32) then
      some ((-1 : Int32), r1.2)
    else
      dn_Y_way_19 (fun x3 z7 =>
          some (x3, z7)) (fun z8 =>
          some ((-1 : Int32), z8)) FU x1 x2 (0 : Int32) r1.2
abbrev rm_Y_way : Room := { frames := 2, cells := 0, slots := 0, locals := 42 }
def dn_Y_sizeOf (x1 : Int32) (z : Mem) : Option (Int32 × Mem) :=
  (aix 64 x1).bind fun j1 =>
  if (z.1 27 0 j1) = 0 then
    (aix 64 x1).bind fun j2 =>
    (aix 6 (z.1 25 0 j2)).bind fun j3 =>
    some ((z.1 12 0 j3), z)
  else
    some ((1 : Int32), z)
abbrev rm_Y_sizeOf : Room := { frames := 0, cells := 0, slots := 0, locals := 0 }
def dn_Y_endOf (x1 : Int32) (z : Mem) : Option (Int32 × Mem) :=
  (aix 64 x1).bind fun j1 =>
  if (z.1 27 0 j1) = 0 then
    (aix 64 x1).bind fun j2 =>
    (aix 6 (z.1 25 0 j2)).bind fun j3 =>
    some ((z.1 10 0 j3), z)
  else
    (aix 64 x1).bind fun j4 =>
    (aix 6 (z.1 25 0 j4)).bind fun j5 =>
    some ((z.1 9 0 j5), z)
abbrev rm_Y_endOf : Room := { frames := 0, cells := 0, slots := 0, locals := 0 }
def dn_Y_queued_5 (k64 : Int32 → Mem → Option (Int32 × Mem)) : Nat → Int32 → Int32 → Int32 → Int32 → Mem → Option (Int32 × Mem)
  | 0, _, _, _, _, _ => none
  | n + 1, x1, x2, x3, x4, z =>
    if (64 : Int32) ≤ x4 then
      k64 x3 z
    else
      (aix 64 x4).bind fun j1 =>
      if (z.1 24 0 j1) = (1 : Int32) then
        (aix 64 x4).bind fun j2 =>
        if (z.1 28 0 j2) = x1 then
          if x2 = (-1 : Int32) then
            dn_Y_queued_5 k64 n x1 x2 (x3 + (1 : Int32)) (x4 + (1 : Int32)) z
          else
            (aix 64 x4).bind fun j3 =>
            if (z.1 25 0 j3) = x2 then
              dn_Y_queued_5 k64 n x1 x2 (x3 + (1 : Int32)) (x4 + (1 : Int32)) z
            else
              dn_Y_queued_5 k64 n x1 x2 (x3 + (0 : Int32)) (x4 + (1 : Int32)) z
        else
          dn_Y_queued_5 k64 n x1 x2 (x3 + (0 : Int32)) (x4 + (1 : Int32)) z
      else
        dn_Y_queued_5 k64 n x1 x2 (x3 + (0 : Int32)) (x4 + (1 : Int32)) z
def dn_Y_queued (x1 : Int32) (x2 : Int32) (z : Mem) : Option (Int32 × Mem) :=
  dn_Y_queued_5 (fun x3 z4 =>
      some (x3, z4)) FU x1 x2 (0 : Int32) (0 : Int32) z
abbrev rm_Y_queued : Room := { frames := 0, cells := 0, slots := 0, locals := 0 }
def dn_Y_on_4 (k42 : Int32 → Mem → Option (Int32 × Mem)) : Nat → Int32 → Int32 → Int32 → Mem → Option (Int32 × Mem)
  | 0, _, _, _, _ => none
  | n + 1, x1, x2, x3, z =>
    if (64 : Int32) ≤ x3 then
      k42 x2 z
    else
      (aix 64 x3).bind fun j1 =>
      if (z.1 24 0 j1) = (2 : Int32) then
        (aix 64 x3).bind fun j2 =>
        if (z.1 28 0 j2) = x1 then
          dn_Y_on_4 k42 n x1 x3 (x3 + (1 : Int32)) z
        else
          dn_Y_on_4 k42 n x1 x2 (x3 + (1 : Int32)) z
      else
        dn_Y_on_4 k42 n x1 x2 (x3 + (1 : Int32)) z
def dn_Y_on (x1 : Int32) (z : Mem) : Option (Int32 × Mem) :=
  dn_Y_on_4 (fun x2 z3 =>
      some (x2, z3)) FU x1 (-1 : Int32) (0 : Int32) z
abbrev rm_Y_on : Room := { frames := 0, cells := 0, slots := 0, locals := 0 }
def dn_Y_lose (x1 : Int32) (z : Mem) : Option Mem :=
  (aix 64 x1).bind fun j1 =>
  stM (pI z 24 0 j1 (0 : Int32)) fun z2 =>
  (aix 64 x1).bind fun j3 =>
  (aix 24 (((4 : Int32) * (z2.1 25 0 j3)) + (2 : Int32))).bind fun j4 =>
  (aix 24 (((4 : Int32) * (z2.1 25 0 j3)) + (2 : Int32))).bind fun j5 =>
  stM (pI z2 23 0 j5 ((z2.1 23 0 j4) + (1 : Int32))) fun z6 =>
  some z6
abbrev rm_Y_lose : Room := { frames := 0, cells := 0, slots := 0, locals := 0 }
def dn_Y_leader_4 (k59 : Int32 → Mem → Option (Int32 × Mem)) : Nat → Int32 → Int32 → Int32 → Mem → Option (Int32 × Mem)
  | 0, _, _, _, _ => none
  | n + 1, x1, x2, x3, z =>
    if (z.1 0 0 9) ≤ x3 then
      k59 x2 z
    else
      (dn_Y_queued x1 x3 z).bind fun r1 =>
      if r1.1 ≤ 0 then
        dn_Y_leader_4 k59 n x1 x2 (x3 + (1 : Int32)) r1.2
      else
        if x2 = (-1 : Int32) then
          dn_Y_leader_4 k59 n x1 x3 (x3 + (1 : Int32)) r1.2
        else
          (aix 144 (((6 : Int32) * x1) + x3)).bind fun j2 =>
          (aix 144 (((6 : Int32) * x1) + x2)).bind fun j3 =>
          if (r1.2.1 31 0 j3) ≤ (r1.2.1 31 0 j2) then
            dn_Y_leader_4 k59 n x1 x2 (x3 + (1 : Int32)) r1.2
          else
            dn_Y_leader_4 k59 n x1 x3 (x3 + (1 : Int32)) r1.2
def dn_Y_leader (x1 : Int32) (z : Mem) : Option (Int32 × Mem) :=
  dn_Y_leader_4 (fun x2 z4 =>
      some (x2, z4)) FU x1 (-1 : Int32) (0 : Int32) z
abbrev rm_Y_leader : Room := { frames := 1, cells := 0, slots := 0, locals := 24 }
def dn_Y_head_5 (k75 : Int32 → Mem → Option (Int32 × Mem)) : Nat → Int32 → Int32 → Int32 → Int32 → Mem → Option (Int32 × Mem)
  | 0, _, _, _, _, _ => none
  | n + 1, x1, x2, x3, x4, z =>
    if (64 : Int32) ≤ x4 then
      k75 x3 z
    else
      (aix 64 x4).bind fun j1 =>
      if (z.1 24 0 j1) = (1 : Int32) then
        (aix 64 x4).bind fun j2 =>
        if (z.1 28 0 j2) = x1 then
          (aix 64 x4).bind fun j3 =>
          if (z.1 25 0 j3) = x2 then
            if x3 = (-1 : Int32) then
              dn_Y_head_5 k75 n x1 x2 x4 (x4 + (1 : Int32)) z
            else
              (aix 64 x4).bind fun j4 =>
              (aix 64 x3).bind fun j5 =>
              if (z.1 30 0 j5) ≤ (z.1 30 0 j4) then
                dn_Y_head_5 k75 n x1 x2 x3 (x4 + (1 : Int32)) z
              else
                dn_Y_head_5 k75 n x1 x2 x4 (x4 + (1 : Int32)) z
          else
            dn_Y_head_5 k75 n x1 x2 x3 (x4 + (1 : Int32)) z
        else
          dn_Y_head_5 k75 n x1 x2 x3 (x4 + (1 : Int32)) z
      else
        dn_Y_head_5 k75 n x1 x2 x3 (x4 + (1 : Int32)) z
def dn_Y_head (x1 : Int32) (x2 : Int32) (z : Mem) : Option (Int32 × Mem) :=
  dn_Y_head_5 (fun x3 z6 =>
      some (x3, z6)) FU x1 x2 (-1 : Int32) (0 : Int32) z
abbrev rm_Y_head : Room := { frames := 0, cells := 0, slots := 0, locals := 0 }
def dn_Y_choose_2 (k84 : Int32 → Int32 → Int32 → Mem → Option Mem) (k186 : Mem → Option Mem) : Nat → Int32 → Int32 → Mem → Option Mem
  | 0, _, _, _ => none
  | n + 1, x1, x2, z =>
    if (100 : Int32) ≤ x2 then
      k186 z
    else
      (dn_Y_leader x1 z).bind fun r1 =>
      stV (((6 : Int32) * x1) + r1.1) fun v2 =>
      (aix 144 v2).bind fun j3 =>
      (aix 144 v2).bind fun j4 =>
      if (r1.2.1 33 0 j4) = 0 then
        (aix 24 x1).bind fun j5 =>
        (aix 144 v2).bind fun j6 =>
        stM (pI r1.2 32 0 j6 ((r1.2.1 32 0 j3) + (r1.2.1 6 0 j5))) fun z7 =>
        (bz (1 : Int32)).bind fun _ =>
        (aix 144 v2).bind fun j9 =>
        stM (pI z7 33 0 j9 (1 : Int32)) fun z10 =>
        (dn_Y_head x1 r1.1 z10).bind fun r11 =>
        (dn_Y_sizeOf r11.1 r11.2).bind fun r12 =>
        (aix 144 v2).bind fun j13 =>
        if (r12.2.1 32 0 j13) < r12.1 then
          stM (pI r12.2 0 0 37 ((r12.2.1 0 0 37) + (1 : Int32))) fun z14 =>
          (aix 144 v2).bind fun j15 =>
          stM (pI z14 31 0 j15 ((r12.2.1 0 0 37) + (1 : Int32))) fun z16 =>
          (bz (0 : Int32)).bind fun _ =>
          (aix 144 v2).bind fun j18 =>
          stM (pI z16 33 0 j18 (0 : Int32)) fun z19 =>
          dn_Y_choose_2 k84 k186 n x1 (x2 + (1 : Int32)) z19
        else
          k84 x1 v2 r11.1 r12.2
      else
        (aix 144 v2).bind fun j20 =>
        stM (pI r1.2 32 0 j20 ((r1.2.1 32 0 j3) + (0 : Int32))) fun z21 =>
        (bz (1 : Int32)).bind fun _ =>
        (aix 144 v2).bind fun j23 =>
        stM (pI z21 33 0 j23 (1 : Int32)) fun z24 =>
        (dn_Y_head x1 r1.1 z24).bind fun r25 =>
        (dn_Y_sizeOf r25.1 r25.2).bind fun r26 =>
        (aix 144 v2).bind fun j27 =>
        if (r26.2.1 32 0 j27) < r26.1 then
          stM (pI r26.2 0 0 37 ((r26.2.1 0 0 37) + (1 : Int32))) fun z28 =>
          (aix 144 v2).bind fun j29 =>
          stM (pI z28 31 0 j29 ((r26.2.1 0 0 37) + (1 : Int32))) fun z30 =>
          (bz (0 : Int32)).bind fun _ =>
          (aix 144 v2).bind fun j32 =>
          stM (pI z30 33 0 j32 (0 : Int32)) fun z33 =>
          dn_Y_choose_2 k84 k186 n x1 (x2 + (1 : Int32)) z33
        else
          k84 x1 v2 r25.1 r26.2
def dn_Y_choose (x1 : Int32) (z : Mem) : Option Mem :=
  dn_Y_choose_2 (fun x1 x4 x5 z34 =>
      (aix 144 x4).bind fun j35 =>
      (dn_Y_sizeOf x5 z34).bind fun r36 =>
      (aix 144 x4).bind fun j37 =>
      stM (pI r36.2 32 0 j37 ((z34.1 32 0 j35) - r36.1)) fun z38 =>
      (aix 64 x5).bind fun j39 =>
      stM (pI z38 24 0 j39 (2 : Int32)) fun z40 =>
      (dn_Y_sizeOf x5 z40).bind fun r41 =>
      (aix 12 (x1 / (2 : Int32))).bind fun j42 =>
      (aix 64 x5).bind fun j43 =>
      stM (pI r41.2 29 0 j43 ((z40.1 0 0 36) + (r41.1 * (r41.2.1 4 0 j42)))) fun z44 =>
      stM (pI z44 0 0 37 ((z44.1 0 0 37) + (1 : Int32))) fun z45 =>
      (aix 64 x5).bind fun j46 =>
      stM (pI z45 30 0 j46 ((z44.1 0 0 37) + (1 : Int32))) fun z47 =>
      some z47) (fun z48 =>
      some z48) FU x1 (0 : Int32) z
abbrev rm_Y_choose : Room := { frames := 2, cells := 0, slots := 0, locals := 47 }
def dn_Y_put (x1 : Int32) (x2 : Int32) (z : Mem) : Option Mem :=
  (dn_Y_endOf x1 z).bind fun r1 =>
  (dn_Y_way x2 r1.1 r1.2).bind fun r2 =>
  if r2.1 = (-1 : Int32) then
    (dn_Y_lose x1 r2.2).bind fun z3 =>
    some z3
  else
    (dn_Y_queued r2.1 (-1 : Int32) r2.2).bind fun r4 =>
    (aix 24 r2.1).bind fun j5 =>
    if r4.1 < (r4.2.1 7 0 j5) then
      (aix 64 x1).bind fun j6 =>
      stV (((6 : Int32) * r2.1) + (r4.2.1 25 0 j6)) fun v7 =>
      (aix 64 x1).bind fun j8 =>
      (dn_Y_queued r2.1 (r4.2.1 25 0 j8) r4.2).bind fun r9 =>
      if r9.1 = 0 then
        stM (pI r9.2 0 0 37 ((r9.2.1 0 0 37) + (1 : Int32))) fun z19 =>
        (aix 144 v7).bind fun j20 =>
        stM (pI z19 31 0 j20 ((r9.2.1 0 0 37) + (1 : Int32))) fun z21 =>
        (aix 144 v7).bind fun j22 =>
        stM (pI z21 32 0 j22 (0 : Int32)) fun z23 =>
        (bz (0 : Int32)).bind fun _ =>
        (aix 144 v7).bind fun j25 =>
        stM (pI z23 33 0 j25 (0 : Int32)) fun z26 =>
        (aix 64 x1).bind fun j27 =>
        stM (pI z26 24 0 j27 (1 : Int32)) fun z28 =>
        (aix 64 x1).bind fun j29 =>
        stM (pI z28 28 0 j29 r2.1) fun z30 =>
        stM (pI z30 0 0 37 ((z30.1 0 0 37) + (1 : Int32))) fun z31 =>
        (aix 64 x1).bind fun j32 =>
        stM (pI z31 30 0 j32 ((z30.1 0 0 37) + (1 : Int32))) fun z33 =>
        (dn_Y_on r2.1 z33).bind fun r34 =>
        if r34.1 = (-1 : Int32) then
          (dn_Y_choose r2.1 r34.2).bind fun z35 =>
          some z35
        else
          some r34.2
      else
        (aix 64 x1).bind fun j10 =>
        stM (pI r9.2 24 0 j10 (1 : Int32)) fun z11 =>
        (aix 64 x1).bind fun j12 =>
        stM (pI z11 28 0 j12 r2.1) fun z13 =>
        stM (pI z13 0 0 37 ((z13.1 0 0 37) + (1 : Int32))) fun z14 =>
        (aix 64 x1).bind fun j15 =>
        stM (pI z14 30 0 j15 ((z13.1 0 0 37) + (1 : Int32))) fun z16 =>
        (dn_Y_on r2.1 z16).bind fun r17 =>
        if r17.1 = (-1 : Int32) then
          (dn_Y_choose r2.1 r17.2).bind fun z18 =>
          some z18
        else
          some r17.2
    else
      (dn_Y_lose x1 r4.2).bind fun z36 =>
      some z36
abbrev rm_Y_put : Room := { frames := 3, cells := 0, slots := 0, locals := 72 }
def dn_Y_make_17 (k40 : Int32 → Int32 → Int32 → Int32 → Int32 → Mem → Option Mem) : Nat → Int32 → Int32 → Int32 → Int32 → Int32 → Mem → Option Mem
  | 0, _, _, _, _, _, _ => none
  | n + 1, x1, x2, x3, x4, x5, z =>
    if (64 : Int32) ≤ x5 then
      k40 x1 x2 x3 x4 x5 z
    else
      (aix 64 x5).bind fun j4 =>
      if (z.1 24 0 j4) = 0 then
        k40 x1 x2 x3 x4 x5 z
      else
        dn_Y_make_17 k40 n x1 x2 x3 x4 (x5 + (1 : Int32)) z
def dn_Y_make (x1 : Int32) (x2 : Int32) (x3 : Int32) (x4 : Int32) (z : Mem) : Option Mem :=
  (aix 24 (((4 : Int32) * x1) + (0 : Int32))).bind fun j1 =>
  (aix 24 (((4 : Int32) * x1) + (0 : Int32))).bind fun j2 =>
  stM (pI z 23 0 j2 ((z.1 23 0 j1) + (1 : Int32))) fun z3 =>
  dn_Y_make_17 (fun x1 x2 x3 x4 x5 z5 =>
      if x5 = (64 : Int32) then
        (aix 24 (((4 : Int32) * x1) + (2 : Int32))).bind fun j14 =>
        (aix 24 (((4 : Int32) * x1) + (2 : Int32))).bind fun j15 =>
        stM (pI z5 23 0 j15 ((z5.1 23 0 j14) + (1 : Int32))) fun z16 =>
        some z16
      else
        (aix 64 x5).bind fun j6 =>
        stM (pI z5 25 0 j6 x1) fun z7 =>
        (aix 64 x5).bind fun j8 =>
        stM (pI z7 26 0 j8 x2) fun z9 =>
        (bz x3).bind fun _ =>
        (aix 64 x5).bind fun j11 =>
        stM (pI z9 27 0 j11 x3) fun z12 =>
        (dn_Y_put x5 x4 z12).bind fun z13 =>
        some z13) FU x1 x2 x3 x4 (0 : Int32) z3
abbrev rm_Y_make : Room := { frames := 4, cells := 0, slots := 0, locals := 96 }
def dn_Y_setTimeout (x1 : Int32) (z : Mem) : Option Mem :=
  (aix 6 x1).bind fun j1 =>
  (aix 6 x1).bind fun j2 =>
  stM (pI z 21 0 j2 ((z.1 0 0 36) + (z.1 14 0 j1))) fun z3 =>
  stM (pI z3 0 0 37 ((z3.1 0 0 37) + (1 : Int32))) fun z4 =>
  (aix 6 x1).bind fun j5 =>
  stM (pI z4 22 0 j5 ((z3.1 0 0 37) + (1 : Int32))) fun z6 =>
  some z6
abbrev rm_Y_setTimeout : Room := { frames := 0, cells := 0, slots := 0, locals := 0 }
def dn_Y_fill_0 (k84 : Mem → Option Mem) : Nat → Int32 → Mem → Option Mem
  | 0, _, _ => none
  | n + 1, x1, z =>
    (aix 6 x1).bind fun j1 =>
    (aix 6 x1).bind fun j2 =>
    (aix 6 x1).bind fun j3 =>
    if ((z.1 16 0 j2) + (z.1 13 0 j3)) ≤ (z.1 17 0 j1) then
      k84 z
    else
      (aix 6 x1).bind fun j4 =>
      (aix 6 x1).bind fun j5 =>
      if (z.1 11 0 j5) ≤ (z.1 17 0 j4) then
        k84 z
      else
        (aix 6 x1).bind fun j6 =>
        if (z.1 21 0 j6) = (-1 : Int32) then
          (dn_Y_setTimeout x1 z).bind fun z12 =>
          (aix 6 x1).bind fun j13 =>
          (aix 6 x1).bind fun j14 =>
          (dn_Y_make x1 (z12.1 17 0 j13) (0 : Int32) (z12.1 9 0 j14) z12).bind fun z15 =>
          (aix 6 x1).bind fun j16 =>
          stM (pI z15 17 0 j16 ((z12.1 17 0 j13) + (1 : Int32))) fun z17 =>
          dn_Y_fill_0 k84 n x1 z17
        else
          (aix 6 x1).bind fun j7 =>
          (aix 6 x1).bind fun j8 =>
          (dn_Y_make x1 (z.1 17 0 j7) (0 : Int32) (z.1 9 0 j8) z).bind fun z9 =>
          (aix 6 x1).bind fun j10 =>
          stM (pI z9 17 0 j10 ((z.1 17 0 j7) + (1 : Int32))) fun z11 =>
          dn_Y_fill_0 k84 n x1 z11
def dn_Y_fill (x1 : Int32) (z : Mem) : Option Mem :=
  dn_Y_fill_0 (fun z18 =>
      some z18) FU x1 z
abbrev rm_Y_fill : Room := { frames := 5, cells := 0, slots := 0, locals := 121 }
def dn_Y_arrive (x1 : Int32) (z : Mem) : Option Mem :=
  (aix 64 x1).bind fun j1 =>
  (dn_Y_leads (z.1 28 0 j1) z).bind fun r2 =>
  (dn_Y_endOf x1 r2.2).bind fun r3 =>
  if r2.1 = r3.1 then
    (aix 64 x1).bind fun j4 =>
    (aix 64 x1).bind fun j5 =>
    (aix 64 x1).bind fun j6 =>
    stM (pI r3.2 24 0 j6 (0 : Int32)) fun z7 =>
    (aix 24 (((4 : Int32) * (r3.2.1 25 0 j4)) + (1 : Int32))).bind fun j8 =>
    (aix 24 (((4 : Int32) * (r3.2.1 25 0 j4)) + (1 : Int32))).bind fun j9 =>
    stM (pI z7 23 0 j9 ((z7.1 23 0 j8) + (1 : Int32))) fun z10 =>
    (aix 64 x1).bind fun j11 =>
    if (z10.1 27 0 j11) = 0 then
      (aix 6 (r3.2.1 25 0 j4)).bind fun j35 =>
      if (r3.2.1 26 0 j5) = (z10.1 18 0 j35) then
        (aix 6 (r3.2.1 25 0 j4)).bind fun j41 =>
        stM (pI z10 18 0 j41 ((r3.2.1 26 0 j5) + (1 : Int32))) fun z42 =>
        (aix 6 (r3.2.1 25 0 j4)).bind fun j43 =>
        (dn_Y_make (r3.2.1 25 0 j4) (z42.1 18 0 j43) (1 : Int32) r2.1 z42).bind fun z44 =>
        some z44
      else
        (aix 6 (r3.2.1 25 0 j4)).bind fun j36 =>
        (aix 6 (r3.2.1 25 0 j4)).bind fun j37 =>
        stM (pI z10 18 0 j37 (z10.1 18 0 j36)) fun z38 =>
        (aix 6 (r3.2.1 25 0 j4)).bind fun j39 =>
        (dn_Y_make (r3.2.1 25 0 j4) (z38.1 18 0 j39) (1 : Int32) r2.1 z38).bind fun z40 =>
        some z40
    else
      (aix 6 (r3.2.1 25 0 j4)).bind fun j12 =>
      if (r3.2.1 26 0 j5) ≤ (z10.1 16 0 j12) then
        some z10
      else
        (aix 6 (r3.2.1 25 0 j4)).bind fun j13 =>
        stM (pI z10 16 0 j13 (r3.2.1 26 0 j5)) fun z14 =>
        (aix 6 (r3.2.1 25 0 j4)).bind fun j15 =>
        if (r3.2.1 26 0 j5) ≤ (z14.1 17 0 j15) then
          (aix 6 (r3.2.1 25 0 j4)).bind fun j16 =>
          (aix 6 (r3.2.1 25 0 j4)).bind fun j17 =>
          stM (pI z14 17 0 j17 (z14.1 17 0 j16)) fun z18 =>
          (aix 6 (r3.2.1 25 0 j4)).bind fun j19 =>
          stM (pI z18 21 0 j19 (-1 : Int32)) fun z20 =>
          (aix 6 (r3.2.1 25 0 j4)).bind fun j21 =>
          (aix 6 (r3.2.1 25 0 j4)).bind fun j22 =>
          if (z20.1 17 0 j22) ≤ (z20.1 16 0 j21) then
            (dn_Y_fill (r3.2.1 25 0 j4) z20).bind fun z23 =>
            some z23
          else
            (dn_Y_setTimeout (r3.2.1 25 0 j4) z20).bind fun z24 =>
            (dn_Y_fill (r3.2.1 25 0 j4) z24).bind fun z25 =>
            some z25
        else
          (aix 6 (r3.2.1 25 0 j4)).bind fun j26 =>
          stM (pI z14 17 0 j26 (r3.2.1 26 0 j5)) fun z27 =>
          (aix 6 (r3.2.1 25 0 j4)).bind fun j28 =>
          stM (pI z27 21 0 j28 (-1 : Int32)) fun z29 =>
          (aix 6 (r3.2.1 25 0 j4)).bind fun j30 =>
          (aix 6 (r3.2.1 25 0 j4)).bind fun j31 =>
          if (z29.1 17 0 j31) ≤ (z29.1 16 0 j30) then
            (dn_Y_fill (r3.2.1 25 0 j4) z29).bind fun z32 =>
            some z32
          else
            (dn_Y_setTimeout (r3.2.1 25 0 j4) z29).bind fun z33 =>
            (dn_Y_fill (r3.2.1 25 0 j4) z33).bind fun z34 =>
            some z34
  else
    (dn_Y_put x1 r2.1 r3.2).bind fun z45 =>
    some z45
abbrev rm_Y_arrive : Room := { frames := 6, cells := 0, slots := 0, locals := 143 }
def dn_Y_begin_15 (k58 : Mem → Option Mem) : Nat → Int32 → Mem → Option Mem
  | 0, _, _ => none
  | n + 1, x1, z =>
    if (z.1 0 0 9) ≤ x1 then
      k58 z
    else
      (aix 6 x1).bind fun j3 =>
      (aix 6 x1).bind fun j4 =>
      stM (pI z 19 0 j4 (z.1 15 0 j3)) fun z5 =>
      stM (pI z5 0 0 37 ((z5.1 0 0 37) + (1 : Int32))) fun z6 =>
      (aix 6 x1).bind fun j7 =>
      stM (pI z6 20 0 j7 ((z5.1 0 0 37) + (1 : Int32))) fun z8 =>
      dn_Y_begin_15 k58 n (x1 + (1 : Int32)) z8
def dn_Y_begin (z : Mem) : Option Mem :=
  if (z.1 0 0 35) = 0 then
    (bz (1 : Int32)).bind fun _ =>
    stM (pI z 0 0 35 (1 : Int32)) fun z2 =>
    dn_Y_begin_15 (fun z9 =>
        some z9) FU (0 : Int32) z2
  else
    some z
abbrev rm_Y_begin : Room := { frames := 0, cells := 0, slots := 0, locals := 0 }
def dn_Y_note (x1 : Int32) (x2 : Int32) (x3 : Int32) (z : Mem) : Option Mem :=
  (aix 16 ((z.1 0 0 38) - (z.1 0 0 38) / (16 : Int32) * (16 : Int32))).bind fun j1 =>
  stM (pL z j1 ((((((z.1 0 0 36)).toInt64 * (1048576 : Int64)) + ((x1).toInt64 * (65536 : Int64))) + ((x2).toInt64 * (256 : Int64))) + (x3).toInt64)) fun z2 =>
  stM (pI z2 0 0 38 ((z2.1 0 0 38) + (1 : Int32))) fun z3 =>
  some z3
abbrev rm_Y_note : Room := { frames := 0, cells := 0, slots := 0, locals := 0 }
def dn_Y_sooner (x0 : Int64) (x2 : Int32) (x3 : Int32) : Option Int64 :=
  stV (((x2).toInt64 * (4294967296 : Int64)) + (x3).toInt64) fun v1 =>
  if (lg_cmp x0 (0 : Int64)) = 0 then
    some v1
  else
    if 0 ≤ (lg_cmp v1 x0) then
      some x0
    else
      some v1
abbrev rm_Y_sooner : Room := { frames := 0, cells := 0, slots := 0, locals := 0 }
def dn_Y_soonest_4 (k43 : Int64 → Mem → Option (Int64 × Mem)) : Nat → Int64 → Int32 → Mem → Option (Int64 × Mem)
  | 0, _, _, _ => none
  | n + 1, x1, x3, z =>
    if (64 : Int32) ≤ x3 then
      k43 x1 z
    else
      (aix 64 x3).bind fun j1 =>
      if (z.1 24 0 j1) < (2 : Int32) then
        dn_Y_soonest_4 k43 n x1 (x3 + (1 : Int32)) z
      else
        (aix 64 x3).bind fun j2 =>
        (aix 64 x3).bind fun j3 =>
        (dn_Y_sooner x1 (z.1 29 0 j2) (z.1 30 0 j3)).bind fun v4 =>
        dn_Y_soonest_4 k43 n v4 (x3 + (1 : Int32)) z
def dn_Y_soonest_45 (k113 : Int64 → Mem → Option (Int64 × Mem)) : Nat → Int64 → Int32 → Mem → Option (Int64 × Mem)
  | 0, _, _, _ => none
  | n + 1, x1, x3, z =>
    if (z.1 0 0 9) ≤ x3 then
      k113 x1 z
    else
      (aix 6 x3).bind fun j6 =>
      if (z.1 19 0 j6) = (-1 : Int32) then
        (aix 6 x3).bind fun j7 =>
        if (z.1 21 0 j7) = (-1 : Int32) then
          dn_Y_soonest_45 k113 n x1 (x3 + (1 : Int32)) z
        else
          (aix 6 x3).bind fun j8 =>
          (aix 6 x3).bind fun j9 =>
          (dn_Y_sooner x1 (z.1 21 0 j8) (z.1 22 0 j9)).bind fun v10 =>
          dn_Y_soonest_45 k113 n v10 (x3 + (1 : Int32)) z
      else
        (aix 6 x3).bind fun j11 =>
        (aix 6 x3).bind fun j12 =>
        (dn_Y_sooner x1 (z.1 19 0 j11) (z.1 20 0 j12)).bind fun v13 =>
        (aix 6 x3).bind fun j14 =>
        if (z.1 21 0 j14) = (-1 : Int32) then
          dn_Y_soonest_45 k113 n v13 (x3 + (1 : Int32)) z
        else
          (aix 6 x3).bind fun j15 =>
          (aix 6 x3).bind fun j16 =>
          (dn_Y_sooner v13 (z.1 21 0 j15) (z.1 22 0 j16)).bind fun v17 =>
          dn_Y_soonest_45 k113 n v17 (x3 + (1 : Int32)) z
def dn_Y_soonest (z : Mem) : Option (Int64 × Mem) :=
  dn_Y_soonest_4 (fun x1 z5 =>
      dn_Y_soonest_45 (fun x1 z18 =>
          some (x1, z18)) FU x1 (0 : Int32) z5) FU (0 : Int64) (0 : Int32) z
abbrev rm_Y_soonest : Room := { frames := 1, cells := 0, slots := 0, locals := 25 }
def dn_Y_moved (x1 : Int32) (z : Mem) : Option Mem :=
  (aix 64 x1).bind fun j1 =>
  if (z.1 27 0 j1) = 0 then
    (aix 64 x1).bind fun j2 =>
    (aix 64 x1).bind fun j3 =>
    (aix 64 x1).bind fun j4 =>
    if (z.1 24 0 j4) = (3 : Int32) then
      (dn_Y_leads (z.1 28 0 j3) z).bind fun r16 =>
      (dn_Y_note (3 : Int32) r16.1 (z.1 26 0 j2) r16.2).bind fun z17 =>
      (dn_Y_arrive x1 z17).bind fun z18 =>
      some z18
    else
      (dn_Y_note (2 : Int32) (z.1 28 0 j3) (z.1 26 0 j2) z).bind fun z5 =>
      (aix 64 x1).bind fun j6 =>
      stM (pI z5 24 0 j6 (3 : Int32)) fun z7 =>
      (aix 12 ((z.1 28 0 j3) / (2 : Int32))).bind fun j8 =>
      (aix 64 x1).bind fun j9 =>
      stM (pI z7 29 0 j9 ((z7.1 0 0 36) + (z7.1 5 0 j8))) fun z10 =>
      stM (pI z10 0 0 37 ((z10.1 0 0 37) + (1 : Int32))) fun z11 =>
      (aix 64 x1).bind fun j12 =>
      stM (pI z11 30 0 j12 ((z10.1 0 0 37) + (1 : Int32))) fun z13 =>
      (dn_Y_queued (z.1 28 0 j3) (-1 : Int32) z13).bind fun r14 =>
      if r14.1 ≤ 0 then
        some r14.2
      else
        (dn_Y_choose (z.1 28 0 j3) r14.2).bind fun z15 =>
        some z15
  else
    (aix 64 x1).bind fun j19 =>
    stV ((z.1 26 0 j19) + (128 : Int32)) fun v20 =>
    (aix 64 x1).bind fun j21 =>
    (aix 64 x1).bind fun j22 =>
    if (z.1 24 0 j22) = (3 : Int32) then
      (dn_Y_leads (z.1 28 0 j21) z).bind fun r34 =>
      (dn_Y_note (3 : Int32) r34.1 v20 r34.2).bind fun z35 =>
      (dn_Y_arrive x1 z35).bind fun z36 =>
      some z36
    else
      (dn_Y_note (2 : Int32) (z.1 28 0 j21) v20 z).bind fun z23 =>
      (aix 64 x1).bind fun j24 =>
      stM (pI z23 24 0 j24 (3 : Int32)) fun z25 =>
      (aix 12 ((z.1 28 0 j21) / (2 : Int32))).bind fun j26 =>
      (aix 64 x1).bind fun j27 =>
      stM (pI z25 29 0 j27 ((z25.1 0 0 36) + (z25.1 5 0 j26))) fun z28 =>
      stM (pI z28 0 0 37 ((z28.1 0 0 37) + (1 : Int32))) fun z29 =>
      (aix 64 x1).bind fun j30 =>
      stM (pI z29 30 0 j30 ((z28.1 0 0 37) + (1 : Int32))) fun z31 =>
      (dn_Y_queued (z.1 28 0 j21) (-1 : Int32) z31).bind fun r32 =>
      if r32.1 ≤ 0 then
        some r32.2
      else
        (dn_Y_choose (z.1 28 0 j21) r32.2).bind fun z33 =>
        some z33
abbrev rm_Y_moved : Room := { frames := 7, cells := 0, slots := 0, locals := 167 }
def dn_Y_step_37 (k68 : Int32 → Mem → Option (Int32 × Mem)) (k120 : Int32 → Mem → Option (Int32 × Mem)) (k185 : Int32 → Mem → Option (Int32 × Mem)) : Nat → Int32 → Int32 → Mem → Option (Int32 × Mem)
  | 0, _, _, _ => none
  | n + 1, x3, x4, z =>
    if (z.1 0 0 9) ≤ x4 then
      k185 x3 z
    else
      (aix 6 x4).bind fun j5 =>
      if (z.1 19 0 j5) = (-1 : Int32) then
        (aix 6 x4).bind fun j6 =>
        if (z.1 21 0 j6) = (-1 : Int32) then
          dn_Y_step_37 k68 k120 k185 n x3 (x4 + (1 : Int32)) z
        else
          (aix 6 x4).bind fun j7 =>
          if (z.1 22 0 j7) = x3 then
            k120 x4 z
          else
            dn_Y_step_37 k68 k120 k185 n x3 (x4 + (1 : Int32)) z
      else
        (aix 6 x4).bind fun j8 =>
        if (z.1 20 0 j8) = x3 then
          k68 x4 z
        else
          (aix 6 x4).bind fun j9 =>
          if (z.1 21 0 j9) = (-1 : Int32) then
            dn_Y_step_37 k68 k120 k185 n x3 (x4 + (1 : Int32)) z
          else
            (aix 6 x4).bind fun j10 =>
            if (z.1 22 0 j10) = x3 then
              k120 x4 z
            else
              dn_Y_step_37 k68 k120 k185 n x3 (x4 + (1 : Int32)) z
def dn_Y_step_188 (k217 : Int32 → Mem → Option (Int32 × Mem)) (k231 : Mem → Option (Int32 × Mem)) : Nat → Int32 → Int32 → Mem → Option (Int32 × Mem)
  | 0, _, _, _ => none
  | n + 1, x3, x4, z =>
    if (64 : Int32) ≤ x4 then
      k231 z
    else
      (aix 64 x4).bind fun j32 =>
      if (z.1 24 0 j32) < (2 : Int32) then
        dn_Y_step_188 k217 k231 n x3 (x4 + (1 : Int32)) z
      else
        (aix 64 x4).bind fun j33 =>
        if (z.1 30 0 j33) = x3 then
          k217 x4 z
        else
          dn_Y_step_188 k217 k231 n x3 (x4 + (1 : Int32)) z
def dn_Y_step (z : Mem) : Option (Int32 × Mem) :=
  (dn_Y_begin z).bind fun z1 =>
  (dn_Y_soonest z1).bind fun r2 =>
  if (lg_cmp r2.1 (0 : Int64)) = 0 then
    (bz (0 : Int32)).bind fun _ =>
    some ((0 : Int32), r2.2)
  else
    stV (((r2.1 - r2.1 / (4294967296 : Int64) * (4294967296 : Int64))).toInt32) fun v3 =>
    stM (pI r2.2 0 0 36 (((r2.1 / (4294967296 : Int64))).toInt32)) fun z4 =>
    dn_Y_step_37 (fun x4 z11 =>
        (aix 6 x4).bind fun j12 =>
        stM (pI z11 19 0 j12 (-1 : Int32)) fun z13 =>
        (aix 6 x4).bind fun j14 =>
        (dn_Y_note (1 : Int32) x4 (z13.1 17 0 j14) z13).bind fun z15 =>
        (dn_Y_fill x4 z15).bind fun z16 =>
        (bz (1 : Int32)).bind fun _ =>
        some ((1 : Int32), z16)) (fun x4 z18 =>
        (aix 6 x4).bind fun j19 =>
        stM (pI z18 21 0 j19 (-1 : Int32)) fun z20 =>
        (aix 24 (((4 : Int32) * x4) + (3 : Int32))).bind fun j21 =>
        (aix 24 (((4 : Int32) * x4) + (3 : Int32))).bind fun j22 =>
        stM (pI z20 23 0 j22 ((z20.1 23 0 j21) + (1 : Int32))) fun z23 =>
        (aix 6 x4).bind fun j24 =>
        (dn_Y_note (4 : Int32) x4 (z23.1 16 0 j24) z23).bind fun z25 =>
        (aix 6 x4).bind fun j26 =>
        (aix 6 x4).bind fun j27 =>
        stM (pI z25 17 0 j27 (z25.1 16 0 j26)) fun z28 =>
        (dn_Y_fill x4 z28).bind fun z29 =>
        (bz (1 : Int32)).bind fun _ =>
        some ((1 : Int32), z29)) (fun x3 z31 =>
        dn_Y_step_188 (fun x4 z34 =>
            (dn_Y_moved x4 z34).bind fun z35 =>
            (bz (1 : Int32)).bind fun _ =>
            some ((1 : Int32), z35)) (fun z37 =>
            (bz (1 : Int32)).bind fun _ =>
            some ((1 : Int32), z37)) FU x3 (0 : Int32) z31) FU v3 (0 : Int32) z4
abbrev rm_Y_step : Room := { frames := 8, cells := 0, slots := 0, locals := 190 }
def dn_Y_run_14 (k32 : Int32 → Mem → Option (Int32 × Mem)) : Nat → Int32 → Int32 → Mem → Option (Int32 × Mem)
  | 0, _, _, _ => none
  | n + 1, x1, x2, z =>
    if x1 ≤ x2 then
      k32 x2 z
    else
      (dn_Y_step z).bind fun r1 =>
      if r1.1 = 0 then
        k32 x2 r1.2
      else
        dn_Y_run_14 k32 n x1 (x2 + (1 : Int32)) r1.2
def dn_Y_run (x1 : Int32) (z : Mem) : Option (Int32 × Mem) :=
  if x1 < 0 then
    some ((-1 : Int32), z)
  else
    if x1 ≤ (50 : Int32) then
      dn_Y_run_14 (fun x2 z2 =>
          some (x2, z2)) FU x1 (0 : Int32) z
    else
      some ((-1 : Int32), z)
abbrev rm_Y_run : Room := { frames := 9, cells := 0, slots := 0, locals := 214 }
def dn_Y_now (z : Mem) : Option (Int32 × Mem) :=
  some ((z.1 0 0 36), z)
abbrev rm_Y_now : Room := { frames := 0, cells := 0, slots := 0, locals := 0 }
def dn_Y_trace (x1 : Int32) (z : Mem) : Option (Int64 × Mem) :=
  if x1 < 0 then
    some ((-1 : Int64), z)
  else
    if (15 : Int32) < x1 then
      some ((-1 : Int64), z)
    else
      if x1 < (z.1 0 0 38) then
        (aix 16 ((((z.1 0 0 38) - (1 : Int32)) - x1) - (((z.1 0 0 38) - (1 : Int32)) - x1) / (16 : Int32) * (16 : Int32))).bind fun j1 =>
        some ((z.2 j1), z)
      else
        some ((-1 : Int64), z)
abbrev rm_Y_trace : Room := { frames := 0, cells := 0, slots := 0, locals := 0 }
def dn_Y_waiting (x1 : Int32) (x2 : Int32) (z : Mem) : Option (Int32 × Mem) :=
  (dn_Y_isPort x1 z).bind fun r1 =>
  if r1.1 = 0 then
    some ((-1 : Int32), r1.2)
  else
    if x2 = (-1 : Int32) then
      (dn_Y_queued x1 x2 r1.2).bind fun r2 =>
      some (r2.1, r2.2)
    else
      (dn_Y_isFlow x2 r1.2).bind fun r3 =>
      if r3.1 = 0 then
        some ((-1 : Int32), r3.2)
      else
        (dn_Y_queued x1 x2 r3.2).bind fun r4 =>
        some (r4.1, r4.2)
abbrev rm_Y_waiting : Room := { frames := 1, cells := 0, slots := 0, locals := 24 }
def dn_Y_deficit (x1 : Int32) (x2 : Int32) (z : Mem) : Option (Int32 × Mem) :=
  (dn_Y_isPort x1 z).bind fun r1 =>
  if r1.1 = 0 then
    some ((-1 : Int32), r1.2)
  else
    (dn_Y_isFlow x2 r1.2).bind fun r2 =>
    if r2.1 = 0 then
      some ((-1 : Int32), r2.2)
    else
      (dn_Y_queued x1 x2 r2.2).bind fun r3 =>
      if r3.1 = 0 then
        some ((0 : Int32), r3.2)
      else
        (aix 144 (((6 : Int32) * x1) + x2)).bind fun j4 =>
        some ((r3.2.1 32 0 j4), r3.2)
abbrev rm_Y_deficit : Room := { frames := 1, cells := 0, slots := 0, locals := 24 }
def dn_Y_onPort (x1 : Int32) (z : Mem) : Option (Int32 × Mem) :=
  (dn_Y_isPort x1 z).bind fun r1 =>
  if r1.1 = 0 then
    if (-1 : Int32) = (-1 : Int32) then
      some ((-1 : Int32), r1.2)
    else
      (aix 64 (-1 : Int32)).bind fun j2 =>
      (aix 64 (-1 : Int32)).bind fun j3 =>
      (aix 64 (-1 : Int32)).bind fun j4 =>
      if (r1.2.1 27 0 j4) = 0 then
        some (((((256 : Int32) * (r1.2.1 25 0 j2)) + (r1.2.1 26 0 j3)) + (0 : Int32)), r1.2)
      else
        some (((((256 : Int32) * (r1.2.1 25 0 j2)) + (r1.2.1 26 0 j3)) + (128 : Int32)), r1.2)
  else
    (dn_Y_on x1 r1.2).bind fun r5 =>
    if r5.1 = (-1 : Int32) then
      some ((-1 : Int32), r5.2)
    else
      (aix 64 r5.1).bind fun j6 =>
      (aix 64 r5.1).bind fun j7 =>
      (aix 64 r5.1).bind fun j8 =>
      if (r5.2.1 27 0 j8) = 0 then
        some (((((256 : Int32) * (r5.2.1 25 0 j6)) + (r5.2.1 26 0 j7)) + (0 : Int32)), r5.2)
      else
        some (((((256 : Int32) * (r5.2.1 25 0 j6)) + (r5.2.1 26 0 j7)) + (128 : Int32)), r5.2)
abbrev rm_Y_onPort : Room := { frames := 1, cells := 0, slots := 0, locals := 23 }
def dn_Y_timer (x1 : Int32) (z : Mem) : Option (Int32 × Mem) :=
  (dn_Y_isFlow x1 z).bind fun r1 =>
  if r1.1 = 0 then
    some ((-1 : Int32), r1.2)
  else
    (aix 6 x1).bind fun j2 =>
    some ((r1.2.1 21 0 j2), r1.2)
abbrev rm_Y_timer : Room := { frames := 1, cells := 0, slots := 0, locals := 21 }
def dn_Y_count (x1 : Int32) (x2 : Int32) (z : Mem) : Option (Int32 × Mem) :=
  (dn_Y_isFlow x1 z).bind fun r1 =>
  if r1.1 = 0 then
    some ((-1 : Int32), r1.2)
  else
    if x2 < 0 then
      some ((-1 : Int32), r1.2)
    else
      if x2 ≤ (6 : Int32) then
        if (3 : Int32) ≤ x2 then
          (aix 24 ((((4 : Int32) * x1) + x2) - (3 : Int32))).bind fun j2 =>
          some ((r1.2.1 23 0 j2), r1.2)
        else
          if x2 = 0 then
            (aix 6 x1).bind fun j5 =>
            some ((r1.2.1 16 0 j5), r1.2)
          else
            if x2 = (1 : Int32) then
              (aix 6 x1).bind fun j4 =>
              some ((r1.2.1 17 0 j4), r1.2)
            else
              (aix 6 x1).bind fun j3 =>
              some ((r1.2.1 18 0 j3), r1.2)
      else
        some ((-1 : Int32), r1.2)
abbrev rm_Y_count : Room := { frames := 1, cells := 0, slots := 0, locals := 21 }
