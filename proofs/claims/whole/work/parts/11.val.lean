def f_X3_takeFrom (N : Nat)   (d : VD) (o : VD) : Option (VD) :=
  lt (v_set_weights d (va_cpy (v_weights o) (v_weights d) ((0 : Int32)).toNatClampNeg ((0 : Int32)).toNatClampNeg ((9 : Int32)).toNatClampNeg)) fun d1 =>
  lt (v_set_costs d1 (va_cpy (v_costs o) (v_costs d1) ((0 : Int32)).toNatClampNeg ((0 : Int32)).toNatClampNeg ((9 : Int32)).toNatClampNeg)) fun d2 =>
  lt (v_set_lowerSums d2 (va_cpy (v_lowerSums o) (v_lowerSums d2) ((0 : Int32)).toNatClampNeg ((0 : Int32)).toNatClampNeg ((32 : Int32)).toNatClampNeg)) fun d3 =>
  lt (v_set_upperSums d3 (va_cpy (v_upperSums o) (v_upperSums d3) ((0 : Int32)).toNatClampNeg ((0 : Int32)).toNatClampNeg ((16 : Int32)).toNatClampNeg)) fun d4 =>
  lt (v_set_kinds d4 (va_cpy (v_kinds o) (v_kinds d4) ((0 : Int32)).toNatClampNeg ((0 : Int32)).toNatClampNeg ((12 : Int32)).toNatClampNeg)) fun d5 =>
  lt (v_set_ages d5 (va_cpy (v_ages o) (v_ages d5) ((0 : Int32)).toNatClampNeg ((0 : Int32)).toNatClampNeg ((12 : Int32)).toNatClampNeg)) fun d6 =>
  lt (v_set_goods d6 (va_cpy (v_goods o) (v_goods d6) ((0 : Int32)).toNatClampNeg ((0 : Int32)).toNatClampNeg ((12 : Int32)).toNatClampNeg)) fun d7 =>
  lt (v_set_terms d7 (va_cpy (v_terms o) (v_terms d7) ((0 : Int32)).toNatClampNeg ((0 : Int32)).toNatClampNeg ((12 : Int32)).toNatClampNeg)) fun d8 =>
  lt (v_set_children d8 (va_cpy (v_children o) (v_children d8) ((0 : Int32)).toNatClampNeg ((0 : Int32)).toNatClampNeg ((12 : Int32)).toNatClampNeg)) fun d9 =>
  lt (v_set_looks d9 (va_cpy (v_looks o) (v_looks d9) ((0 : Int32)).toNatClampNeg ((0 : Int32)).toNatClampNeg ((12 : Int32)).toNatClampNeg)) fun d10 =>
  lt (v_set_people d10 (v_people o)) fun d11 =>
  lt (v_set_living d11 (v_living o)) fun d12 =>
  lt (v_set_law d12 (v_law o)) fun d13 =>
  lt (v_set_year d13 (v_year o)) fun d14 =>
  some d14
def f_X3_sumWeights_L2 (N : Nat) (na : Nat) (d : VD)  : Nat → Int32 → Int32 → (Nat → Int32) → Option ((Nat → Int32))
  | 0, _, _, _ => none
  | n2 + 1, a2, a3, f_ =>
  if (Int32.ofNat na) ≤ a3 then
    some f_
  else
    (f_X4_leastOf N a3).bind fun x2 =>
    lt (a2 + x2) fun x4 =>
    (rd f_ na (a3 &&& (a3 - (1 : Int32)))).bind fun x5 =>
    (f_X4_isWithin N x4 (0 : Int32) (8 : Int32)).bind fun x6 =>
    if x6 = 0 then
      (ck a3 na).bind fun _ =>
      lt (upd f_ (a3).toNatClampNeg (x5 + (0 : Int32))) fun f10 =>
      lt (a3 + 1) fun x11 =>
      f_X3_sumWeights_L2 N na d  n2 a2 x11 f10
    else
      (rd (v_weights d) 9 x4).bind fun x12 =>
      (ck a3 na).bind fun _ =>
      lt (upd f_ (a3).toNatClampNeg (x5 + x12)) fun f14 =>
      lt (a3 + 1) fun x15 =>
      f_X3_sumWeights_L2 N na d  n2 a2 x15 f14
def f_X3_sumWeights (N : Nat) (na : Nat) (p2 : Int32) (d : VD) (f : (Nat → Int32)) : Option ((Nat → Int32)) :=
  f_X3_sumWeights_L2 N na d  N p2 (1 : Int32) f
def f_X3_putWeight (N : Nat)  (p1 : Int32) (p2 : Int32) (d : VD) : Option (Int32 × VD) :=
  bd2 (f_X4_exchange N 9 p1 p2 (v_weights d)) fun x1 f2 =>
  lt (v_set_weights d f2) fun d4 =>
  (f_X3_sumWeights N 32 (0 : Int32) d4 (v_lowerSums d4)).bind fun f5 =>
  lt (v_set_lowerSums d4 f5) fun d7 =>
  (f_X3_sumWeights N 16 (5 : Int32) d7 (v_upperSums d7)).bind fun f8 =>
  lt (v_set_upperSums d7 f8) fun d10 =>
  some (x1, d10)
def f_X3_weightOfAll (N : Nat)   (d : VD) : Option (Int32) :=
  (rd (v_lowerSums d) 32 (31 : Int32)).bind fun x1 =>
  (rd (v_upperSums d) 16 (15 : Int32)).bind fun x2 =>
  some (x1 + x2)
def f_X3_addOne (N : Nat)  (p1 : Int32) (p2 : Int32) (d : VD) : Option (Int32 × VD) :=
  if (v_people d) < (12 : Int32) then
    lt (v_people d) fun x2 =>
    lt (v_set_people d ((v_people d) + (1 : Int32))) fun d3 =>
    (ck x2 12).bind fun _ =>
    lt (v_set_kinds d3 (upd (v_kinds d3) (x2).toNatClampNeg p1)) fun d5 =>
    (ck x2 12).bind fun _ =>
    lt (v_set_ages d5 (upd (v_ages d5) (x2).toNatClampNeg p2)) fun d7 =>
    (ck x2 12).bind fun _ =>
    lt (v_set_goods d7 (upd (v_goods d7) (x2).toNatClampNeg (10 : Int32))) fun d9 =>
    (ck x2 12).bind fun _ =>
    lt (v_set_terms d9 (upd (v_terms d9) (x2).toNatClampNeg (70 : Int32))) fun d11 =>
    (ck x2 13).bind fun _ =>
    lt (v_set_children d11 (upd (v_children d11) (x2).toNatClampNeg (-1 : Int32))) fun d13 =>
    (ck x2 13).bind fun _ =>
    lt (v_set_looks d13 (upd (v_looks d13) (x2).toNatClampNeg (0 : Int32))) fun d15 =>
    lt (v_set_living d15 ((v_living d15) ||| ((1 : Int32) <<< (x2 &&& 31)))) fun d16 =>
    some (x2, d16)
  else
    some ((-1 : Int32), d)
def f_X3_lives (N : Nat)  (p1 : Int32) (d : VD) : Option (Int32) :=
  if (((v_living d) >>> (p1 &&& 31)) &&& (1 : Int32)) = 0 then
    some (0 : Int32)
  else
    some (1 : Int32)
def f_X3_putLiving (N : Nat)  (p1 : Int32) (p2 : Int32) (d : VD) : Option (Int32 × VD) :=
  lt (((v_living d) >>> (p1 &&& 31)) &&& (1 : Int32)) fun x1 =>
  lt (v_set_living d (((v_living d) &&& (((1 : Int32) <<< (p1 &&& 31)) ^^^ (-1 : Int32))) ||| (p2 <<< (p1 &&& 31)))) fun d2 =>
  some (x1, d2)
def f_X3_sumOf_L5 (N : Nat) (na : Nat) (d : VD) (f : (Nat → Int32))  : Nat → Int32 → Int32 → Int32 → Option (Int32)
  | 0, _, _, _ => none
  | n5 + 1, a2, a3, a4 =>
  if (v_people d) ≤ a4 then
    some a3
  else
    if ((a2 >>> (a4 &&& 31)) &&& (1 : Int32)) = 0 then
      lt (a4 + 1) fun x3 =>
      f_X3_sumOf_L5 N na d f  n5 a2 a3 x3
    else
      (rd f na a4).bind fun x4 =>
      lt (a3 + x4) fun x5 =>
      lt (a4 + 1) fun x6 =>
      f_X3_sumOf_L5 N na d f  n5 a2 x5 x6
def f_X3_sumOf (N : Nat) (na : Nat) (p2 : Int32) (d : VD) (f : (Nat → Int32)) : Option (Int32) :=
  f_X3_sumOf_L5 N na d f  N p2 (0 : Int32) (0 : Int32)
def f_X3_likeness_J38 (N : Nat) (d : VD)  (a1 : Int32) (a2 : Int32) (a3 : Int32) : Option (Int32) :=
  (rd (v_lowerSums d) 32 (a3 &&& (31 : Int32))).bind fun x9 =>
  (rd (v_upperSums d) 16 (a3 >>> ((5 : Int32) &&& 31))).bind fun x10 =>
  lt (x9 + x10) fun x11 =>
  if (v_law d) = (1 : Int32) then
    (rd (v_children d) 13 a1).bind fun x13 =>
    if a2 = x13 then
      some (x11 + (5 : Int32))
    else
      some x11
  else
    some x11
def f_X3_likeness (N : Nat)  (p1 : Int32) (p2 : Int32) (d : VD) : Option (Int32) :=
  (rd (v_looks d) 13 p1).bind fun x1 =>
  (rd (v_looks d) 13 p2).bind fun x2 =>
  (f_X4_unlike N x1 x2).bind fun x3 =>
  lt ((511 : Int32) &&& (x3 ^^^ (-1 : Int32))) fun x5 =>
  (rd (v_kinds d) 12 p2).bind fun x6 =>
  if x6 = (4 : Int32) then
    lt (x5 ||| (256 : Int32)) fun x8 =>
    f_X3_likeness_J38 N d  p1 p2 x8
  else
    f_X3_likeness_J38 N d  p1 p2 x5
def f_X3_heirFor_J70 (N : Nat) (d : VD) (K10 : Int32 → Int32 → Int32 → Int32 → Int32 → Option (Int32)) (a1 : Int32) (a5 : Int32) (a6 : Int32) : Option (Int32) :=
  (rd (v_ages d) 12 a5).bind fun x16 =>
  lt (a5 + 1) fun x17 =>
  K10 a1 a5 a6 x16 x17
def f_X3_heirFor_L10 (N : Nat) (d : VD)  : Nat → Int32 → Int32 → Int32 → Int32 → Int32 → Option (Int32)
  | 0, _, _, _, _, _ => none
  | n10 + 1, a1, a2, a3, a4, a5 =>
  if (v_people d) ≤ a5 then
    some a2
  else
    if a5 = a1 then
      lt (a5 + 1) fun x3 =>
      f_X3_heirFor_L10 N d  n10 a1 a2 a3 a4 x3
    else
      (f_X3_lives N a5 d).bind fun x4 =>
      if x4 = 0 then
        lt (a5 + 1) fun x15 =>
        f_X3_heirFor_L10 N d  n10 a1 a2 a3 a4 x15
      else
        (f_X3_likeness N a1 a5 d).bind fun x7 =>
        if a3 < x7 then
          f_X3_heirFor_J70 N d (f_X3_heirFor_L10 N d  n10) a1 a5 x7
        else
          if x7 = a3 then
            (rd (v_ages d) 12 a5).bind fun x12 =>
            if x12 ≤ a4 then
              lt (a5 + 1) fun x14 =>
              f_X3_heirFor_L10 N d  n10 a1 a2 a3 a4 x14
            else
              f_X3_heirFor_J70 N d (f_X3_heirFor_L10 N d  n10) a1 a5 x7
          else
            lt (a5 + 1) fun x11 =>
            f_X3_heirFor_L10 N d  n10 a1 a2 a3 a4 x11
def f_X3_heirFor (N : Nat)  (p1 : Int32) (d : VD) : Option (Int32) :=
  f_X3_heirFor_L10 N d  N p1 (-1 : Int32) (-1 : Int32) (-1 : Int32) (0 : Int32)
def f_X3_heirOfStranger (N : Nat)  (p1 : Int32) (d : VD) : Option (Int32 × VD) :=
  (ck (12 : Int32) 13).bind fun _ =>
  lt (v_set_looks d (upd (v_looks d) ((12 : Int32)).toNatClampNeg p1)) fun d2 =>
  (f_X3_heirFor N (12 : Int32) d2).bind fun x3 =>
  some (x3, d2)
def f_X3_leaversTo_L4 (N : Nat) (d : VD)  : Nat → Int32 → Int32 → Int32 → Option (Int32)
  | 0, _, _, _ => none
  | n4 + 1, a1, a2, a3 =>
  if (v_people d) ≤ a3 then
    some a2
  else
    (f_X3_lives N a3 d).bind fun x2 =>
    if x2 = 0 then
      lt (a3 + 1) fun x5 =>
      f_X3_leaversTo_L4 N d  n4 a1 a2 x5
    else
      (f_X3_heirFor N a3 d).bind fun x6 =>
      if x6 = a1 then
        lt (a2 ||| ((1 : Int32) <<< (a3 &&& 31))) fun x10 =>
        lt (a3 + 1) fun x11 =>
        f_X3_leaversTo_L4 N d  n4 a1 x10 x11
      else
        lt (a3 + 1) fun x9 =>
        f_X3_leaversTo_L4 N d  n4 a1 a2 x9
def f_X3_leaversTo (N : Nat)  (p1 : Int32) (d : VD) : Option (Int32) :=
  f_X3_leaversTo_L4 N d  N p1 (0 : Int32) (0 : Int32)
def f_X3_expectedBy (N : Nat)  (p1 : Int32) (d : VD) : Option (Int32) :=
  (f_X3_leaversTo N p1 d).bind fun x1 =>
  (f_X3_sumOf N 12 x1 d (v_goods d)).bind fun x3 =>
  some x3
def f_X3_richestBut_L7 (N : Nat) (d : VD)  : Nat → Int32 → Int32 → Int32 → Int32 → Option (Int32)
  | 0, _, _, _, _ => none
  | n7 + 1, a1, a2, a3, a4 =>
  if (v_people d) ≤ a4 then
    some a2
  else
    if a4 = a1 then
      lt (a4 + 1) fun x3 =>
      f_X3_richestBut_L7 N d  n7 a1 a2 a3 x3
    else
      (f_X3_lives N a4 d).bind fun x4 =>
      if x4 = 0 then
        lt (a4 + 1) fun x7 =>
        f_X3_richestBut_L7 N d  n7 a1 a2 a3 x7
      else
        (rd (v_goods d) 12 a4).bind fun x8 =>
        if x8 ≤ a3 then
          lt (a4 + 1) fun x10 =>
          f_X3_richestBut_L7 N d  n7 a1 a2 a3 x10
        else
          (rd (v_goods d) 12 a4).bind fun x11 =>
          lt (a4 + 1) fun x12 =>
          f_X3_richestBut_L7 N d  n7 a1 a4 x11 x12
def f_X3_richestBut (N : Nat)  (p1 : Int32) (d : VD) : Option (Int32) :=
  f_X3_richestBut_L7 N d  N p1 (-1 : Int32) (-1 : Int32) (0 : Int32)
def f_X3_aimOf_J25 (N : Nat) (d : VD)  (a1 : Int32) (t0 : Int32) : Option (Int32) :=
  (rd (v_kinds d) 12 a1).bind fun x6 =>
  if x6 = 1 then
    (f_X3_richestBut N a1 d).bind fun x8 =>
    some x8
  else
    if x6 = 2 then
      some (-1 : Int32)
    else
      if x6 = 3 then
        some t0
      else
        if x6 = 4 then
          (f_X3_richestBut N a1 d).bind fun x13 =>
          some x13
        else
          if x6 = 5 then
            if t0 = (-1 : Int32) then
              (f_X3_heirFor N a1 d).bind fun x17 =>
              some x17
            else
              some t0
          else
            some (-1 : Int32)
def f_X3_aimOf_J24 (N : Nat) (d : VD)  (a1 : Int32) : Option (Int32) :=
  f_X3_aimOf_J25 N d  a1 (-1 : Int32)
def f_X3_aimOf (N : Nat)  (p1 : Int32) (d : VD) : Option (Int32) :=
  (rd (v_children d) 13 p1).bind fun x1 =>
  if x1 = (-1 : Int32) then
    f_X3_aimOf_J24 N d  p1
  else
    (f_X3_lives N x1 d).bind fun x3 =>
    if x3 = 0 then
      f_X3_aimOf_J24 N d  p1
    else
      f_X3_aimOf_J25 N d  p1 x1
def f_X3_watchersOf_L4 (N : Nat) (d : VD)  : Nat → Int32 → Int32 → Int32 → Option (Int32)
  | 0, _, _, _ => none
  | n4 + 1, a1, a2, a3 =>
  if (v_people d) ≤ a3 then
    some a2
  else
    (f_X3_lives N a3 d).bind fun x2 =>
    if x2 = 0 then
      lt (a3 + 1) fun x5 =>
      f_X3_watchersOf_L4 N d  n4 a1 a2 x5
    else
      (f_X3_aimOf N a3 d).bind fun x6 =>
      if x6 = a1 then
        lt (a2 ||| ((1 : Int32) <<< (a3 &&& 31))) fun x10 =>
        lt (a3 + 1) fun x11 =>
        f_X3_watchersOf_L4 N d  n4 a1 x10 x11
      else
        lt (a3 + 1) fun x9 =>
        f_X3_watchersOf_L4 N d  n4 a1 a2 x9
def f_X3_watchersOf (N : Nat)  (p1 : Int32) (d : VD) : Option (Int32) :=
  f_X3_watchersOf_L4 N d  N p1 (0 : Int32) (0 : Int32)
def f_X3_planOf_J90 (N : Nat) (d : VD)  (a1 : Int32) (a2 : Int32) (a3 : Int32) (a4 : Int32) : Option (Int32) :=
  (f_X4_leastOf N a4).bind fun x18 =>
  if x18 = (-1 : Int32) then
    some (-1 : Int32)
  else
    (rd (v_goods d) 12 a1).bind fun x21 =>
    (rd (v_costs d) 9 x18).bind fun x22 =>
    if x22 ≤ x21 then
      if a2 = 0 then
        (rd (v_looks d) 13 a3).bind fun x25 =>
        (f_X4_wayIn N x25 x18).bind fun x26 =>
        some (((10 : Int32) * x18) + x26)
      else
        (rd (v_looks d) 13 a1).bind fun x28 =>
        (f_X4_wayIn N x28 x18).bind fun x29 =>
        (f_X4_nextWay N x29).bind fun x31 =>
        some (((10 : Int32) * x18) + x31)
    else
      some (-1 : Int32)
def f_X3_planOf_J72 (N : Nat) (d : VD)  (a1 : Int32) (a2 : Int32) (a3 : Int32) (a4 : Int32) : Option (Int32) :=
  (rd (v_kinds d) 12 a1).bind fun x15 =>
  if x15 = (4 : Int32) then
    lt (a4 &&& (-257 : Int32)) fun x17 =>
    f_X3_planOf_J90 N d  a1 a2 a3 x17
  else
    f_X3_planOf_J90 N d  a1 a2 a3 a4
def f_X3_planOf_J33 (N : Nat) (d : VD)  (a1 : Int32) (a2 : Int32) (t0 : Int32) : Option (Int32) :=
  if t0 = (-1 : Int32) then
    some (-1 : Int32)
  else
    (rd (v_looks d) 13 a1).bind fun x9 =>
    (rd (v_looks d) 13 t0).bind fun x10 =>
    (f_X4_unlike N x9 x10).bind fun x11 =>
    if a2 = 0 then
      f_X3_planOf_J72 N d  a1 a2 t0 x11
    else
      lt ((511 : Int32) &&& (x11 ^^^ (-1 : Int32))) fun x14 =>
      f_X3_planOf_J72 N d  a1 a2 t0 x14
def f_X3_planOf_J15 (N : Nat) (d : VD)  (a1 : Int32) (t0 : Int32) : Option (Int32) :=
  if t0 = 0 then
    (f_X3_aimOf N a1 d).bind fun x4 =>
    f_X3_planOf_J33 N d  a1 t0 x4
  else
    (f_X3_heirFor N a1 d).bind fun x6 =>
    f_X3_planOf_J33 N d  a1 t0 x6
def f_X3_planOf (N : Nat)  (p1 : Int32) (d : VD) : Option (Int32) :=
  (rd (v_kinds d) 12 p1).bind fun x1 =>
  if x1 = (2 : Int32) then
    f_X3_planOf_J15 N d  p1 (1 : Int32)
  else
    f_X3_planOf_J15 N d  p1 (0 : Int32)
def f_X3_carryOut (N : Nat)  (p1 : Int32) (p2 : Int32) (d : VD) : Option (VD) :=
  lt (p2 / (10 : Int32)) fun x1 =>
  if p2 = (-1 : Int32) then
    some d
  else
    (f_X4_isWithin N x1 (0 : Int32) (8 : Int32)).bind fun x3 =>
    if x3 = 0 then
      some d
    else
      (rd (v_looks d) 13 p1).bind fun x6 =>
      (f_X4_withWay N x6 x1 (p2 - p2 / (10 : Int32) * (10 : Int32))).bind fun x7 =>
      (ck p1 13).bind fun _ =>
      lt (v_set_looks d (upd (v_looks d) (p1).toNatClampNeg x7)) fun d10 =>
      (rd (v_goods d10) 12 p1).bind fun x11 =>
      (rd (v_costs d10) 9 x1).bind fun x12 =>
      (ck p1 12).bind fun _ =>
      lt (v_set_goods d10 (upd (v_goods d10) (p1).toNatClampNeg (x11 - x12))) fun d14 =>
      some d14
def f_X3_heirWithout (N : Nat)  (p1 : Int32) (p2 : Int32) (d : VD) : Option (Int32 × VD) :=
  lt (v_set_living d ((v_living d) &&& (((1 : Int32) <<< (p2 &&& 31)) ^^^ (-1 : Int32)))) fun d1 =>
  (f_X3_heirFor N p1 d1).bind fun x2 =>
  lt (v_set_living d1 ((v_living d1) ||| ((1 : Int32) <<< (p2 &&& 31)))) fun d4 =>
  some (x2, d4)
def f_X3_give (N : Nat)  (p1 : Int32) (p2 : Int32) (d : VD) : Option (VD) :=
  (rd (v_goods d) 12 p1).bind fun x1 =>
  (ck p1 12).bind fun _ =>
  lt (v_set_goods d (upd (v_goods d) (p1).toNatClampNeg (if (x1 + p2) < (999999 : Int32) then (x1 + p2) else (999999 : Int32)))) fun d3 =>
  some d3
def f_X3_letDie_J90 (N : Nat)   (a2 : Int32) (a3 : Int32) (a5 : Int32) (d_ : VD) : Option (Int32 × VD) :=
  (f_X3_give N a2 (a3 - a5) d_).bind fun d18 =>
  some (a2, d18)
def f_X3_letDie_J66 (N : Nat)   (a2 : Int32) (a3 : Int32) (t0 : Int32) (d_ : VD) : Option (Int32 × VD) :=
  if t0 = (-1 : Int32) then
    f_X3_letDie_J90 N   a2 a3 (0 : Int32) d_
  else
    lt (a3 / (2 : Int32)) fun x15 =>
    (f_X3_give N t0 x15 d_).bind fun d16 =>
    f_X3_letDie_J90 N   a2 a3 x15 d16
def f_X3_letDie (N : Nat)  (p1 : Int32) (d : VD) : Option (Int32 × VD) :=
  lt (v_set_living d ((v_living d) &&& (((1 : Int32) <<< (p1 &&& 31)) ^^^ (-1 : Int32)))) fun d1 =>
  (f_X3_heirFor N p1 d1).bind fun x2 =>
  (rd (v_goods d1) 12 p1).bind fun x4 =>
  (ck p1 12).bind fun _ =>
  lt (v_set_goods d1 (upd (v_goods d1) (p1).toNatClampNeg (0 : Int32))) fun d6 =>
  (ck p1 12).bind fun _ =>
  lt (v_set_gotBy d6 (upd (v_gotBy d6) (p1).toNatClampNeg x2)) fun d8 =>
  if x2 = (-1 : Int32) then
    some ((-1 : Int32), d8)
  else
    if (v_law d8) = (2 : Int32) then
      bd2 (f_X3_heirWithout N p1 x2 d8) fun x11 d12 =>
      f_X3_letDie_J66 N   x2 x4 x11 d12
    else
      f_X3_letDie_J66 N   x2 x4 (-1 : Int32) d8
def f_X3_goYears_L99 (N : Nat)  (K4 : Int32 → Int32 → Int32 → VD → Option (Int32 × VD)) : Nat → Int32 → Int32 → Int32 → Int32 → VD → Option (Int32 × VD)
  | 0, _, _, _, _, _ => none
  | n99 + 1, a1, a2, a3, a4, d_ =>
  if (v_people d_) ≤ a4 then
    lt (v_set_year d_ ((v_year d_) + (1 : Int32))) fun d22 =>
    lt (a3 + 1) fun x23 =>
    K4 a1 a2 x23 d22
  else
    (f_X3_lives N a4 d_).bind fun x24 =>
    if x24 = 0 then
      lt (a4 + 1) fun x27 =>
      f_X3_goYears_L99 N  K4 n99 a1 a2 a3 x27 d_
    else
      (rd (v_ages d_) 12 a4).bind fun x28 =>
      (rd (v_terms d_) 12 a4).bind fun x29 =>
      if x28 < x29 then
        lt (a4 + 1) fun x31 =>
        f_X3_goYears_L99 N  K4 n99 a1 a2 a3 x31 d_
      else
        bd2 (f_X3_letDie N a4 d_) fun x32 d33 =>
        (ck a4 12).bind fun _ =>
        lt (v_set_deathYears d33 (upd (v_deathYears d33) (a4).toNatClampNeg ((v_year d33) + (1 : Int32)))) fun d36 =>
        lt (a2 + 1) fun x37 =>
        lt (a4 + 1) fun x38 =>
        f_X3_goYears_L99 N  K4 n99 a1 x37 a3 x38 d36
def f_X3_goYears_L51 (N : Nat)  (K4 : Int32 → Int32 → Int32 → VD → Option (Int32 × VD)) : Nat → Int32 → Int32 → Int32 → Int32 → VD → Option (Int32 × VD)
  | 0, _, _, _, _, _ => none
  | n51 + 1, a1, a2, a3, a4, d_ =>
  if (v_people d_) ≤ a4 then
    f_X3_goYears_L99 N  K4 N a1 a2 a3 (0 : Int32) d_
  else
    (f_X3_lives N a4 d_).bind fun x13 =>
    if x13 = 0 then
      lt (a4 + 1) fun x16 =>
      f_X3_goYears_L51 N  K4 n51 a1 a2 a3 x16 d_
    else
      (rd (v_ages d_) 12 a4).bind fun x17 =>
      (ck a4 12).bind fun _ =>
      lt (v_set_ages d_ (upd (v_ages d_) (a4).toNatClampNeg (if (x17 + (1 : Int32)) < (120 : Int32) then (x17 + (1 : Int32)) else (120 : Int32)))) fun d19 =>
      lt (a4 + 1) fun x20 =>
      f_X3_goYears_L51 N  K4 n51 a1 a2 a3 x20 d19
def f_X3_goYears_L12 (N : Nat)  (K4 : Int32 → Int32 → Int32 → VD → Option (Int32 × VD)) : Nat → Int32 → Int32 → Int32 → Int32 → VD → Option (Int32 × VD)
  | 0, _, _, _, _, _ => none
  | n12 + 1, a1, a2, a3, a4, d_ =>
  if (v_people d_) ≤ a4 then
    f_X3_goYears_L51 N  K4 N a1 a2 a3 (0 : Int32) d_
  else
    (f_X3_lives N a4 d_).bind fun x3 =>
    if x3 = 0 then
      lt (a4 + 1) fun x6 =>
      f_X3_goYears_L12 N  K4 n12 a1 a2 a3 x6 d_
    else
      (f_X3_planOf N a4 d_).bind fun x7 =>
      (f_X3_carryOut N a4 x7 d_).bind fun d9 =>
      lt (a4 + 1) fun x11 =>
      f_X3_goYears_L12 N  K4 n12 a1 a2 a3 x11 d9
def f_X3_goYears_L4 (N : Nat)   : Nat → Int32 → Int32 → Int32 → VD → Option (Int32 × VD)
  | 0, _, _, _, _ => none
  | n4 + 1, a1, a2, a3, d_ =>
  if a1 ≤ a3 then
    some (a2, d_)
  else
    f_X3_goYears_L12 N  (f_X3_goYears_L4 N   n4) N a1 a2 a3 (0 : Int32) d_
def f_X3_goYears (N : Nat)  (p1 : Int32) (d : VD) : Option (Int32 × VD) :=
  f_X3_goYears_L4 N   N p1 (0 : Int32) (0 : Int32) d
theorem ct_V__0_1_3__VW_A_1 (g : gE) (q : Nat → Nat) (d : VD) (u0 : (Nat → Int32)) : Ct ((VC g q d)) ((VW g q d) ++ (ACI g (q 3) 32 (v_lowerSums d))) ((VC g q (v_set_lowerSums d u0))) ((VW g q d) ++ (ACI g (q 3) 32 u0)) := ⟨[0, 1, 3], [2, 4, 5, 6, 7, 8, 9, 10, 11, 12], rfl, rfl, rfl, by decide, fun k hk => ct_cov (n := 13) (by decide) k hk, by decide⟩
theorem ct_V__0_1_4__VW_A_1 (g : gE) (q : Nat → Nat) (d : VD) (u0 : (Nat → Int32)) : Ct ((VC g q d)) ((VW g q d) ++ (ACI g (q 4) 16 (v_upperSums d))) ((VC g q (v_set_upperSums d u0))) ((VW g q d) ++ (ACI g (q 4) 16 u0)) := ⟨[0, 1, 4], [2, 3, 5, 6, 7, 8, 9, 10, 11, 12], rfl, rfl, rfl, by decide, fun k hk => ct_cov (n := 13) (by decide) k hk, by decide⟩
set_option maxHeartbeats 4000000 in
set_option maxRecDepth 100000 in
theorem c_X3_takeFrom (l : Launch) (g : gE) (q : Nat → Nat) (q2 : Nat → Nat) (N : Nat)  (d : VD) (o : VD) (d' : VD) (h : f_X3_takeFrom N  d o = some d') : MO l yX3_takeFrom (Cond.code yX3_takeFrom cX3_takeFrom 2 none :: TB) rm_X3_takeFrom [.ref (q 0), .ref (q2 0)] g ((VC g q d) ++ (VC g q2 o)) ((VC g q d') ++ (VC g q2 o)) none 0 0 := by
  refine MO.of (cc := cX3_takeFrom) (maxL := 2) (ret := none) (by decide) ?_
  intro p e s m below meth c cx hw hr hlocks _
  have hx := cx.1.1
  have hb := cx.1.2.1
  refine en_go (lv := [(0, .ref (q 0)), (1, .ref (q2 0))]) (Nat.le_of_ble_eq_true rfl) rfl (fun ls hl => ?_)
  unfold f_X3_takeFrom at h
  refine lv_aload_n hx hb dX3_takeFrom_0 rfl (lv_at hl 1 rfl) ?_
  refine gf_X3_11 cx hw 13 rfl rfl dX3_takeFrom_1 ?_
  refine lv_iconst (v := 0) hx hb dX3_takeFrom_4 (by decide) ?_
  refine lv_aload_n hx hb dX3_takeFrom_5 rfl (lv_at hl 0 rfl) ?_
  refine gf_X3_11 cx hw 0 rfl rfl dX3_takeFrom_6 ?_
  refine lv_iconst (v := 0) hx hb dX3_takeFrom_9 (by decide) ?_
  refine lv_bipush (v := 9) hx hb dX3_takeFrom_10 (by decide) ?_
  refine va_copyi hx hb (cx.1.2.2.1.trans hl.1.symm) cx.1.2.2.2.1 (cx.1.2.2.2.2 _ tw_2_178) (cx.1.2.2.2.2 _ tw_2_180) (cx.1.2.2.2.2 _ tw_2_179) (cx.1.2.2.2.2 _ tw_1_10) cx.2.1 hw.1 hw.2.1 hw.2.2 14 1 0 0 rfl rfl rfl rfl rfl (by decide) (by decide) (by decide) (by decide) (by decide) (fun _ _ => rfl) (Nat.le_of_ble_eq_true rfl) (Nat.le_of_ble_eq_true rfl) dX3_takeFrom_12 (fun H locs hP hD hS => ?_)
  have hw : Wd g _ _ s H locs := ⟨hP, hD, hS⟩
  obtain ⟨d1, ed1, h⟩ := lt_ex h
  have hw : Wd g (va_A ((VC g q d) ++ (VC g q2 o)) s.heap.size) ((VC g q d1) ++ (VC g q2 o)) s H locs := by rw [ed1]; exact hw
  refine lv_aload_n hx hb dX3_takeFrom_15 rfl (lv_at hl 1 rfl) ?_
  refine gf_X3_15 cx hw 13 rfl rfl dX3_takeFrom_16 ?_
  refine lv_iconst (v := 0) hx hb dX3_takeFrom_19 (by decide) ?_
  refine lv_aload_n hx hb dX3_takeFrom_20 rfl (lv_at hl 0 rfl) ?_
  refine gf_X3_15 cx hw 0 rfl rfl dX3_takeFrom_21 ?_
  refine lv_iconst (v := 0) hx hb dX3_takeFrom_24 (by decide) ?_
  refine lv_bipush (v := 9) hx hb dX3_takeFrom_25 (by decide) ?_
  refine va_copyi hx hb (cx.1.2.2.1.trans hl.1.symm) cx.1.2.2.2.1 (cx.1.2.2.2.2 _ tw_2_178) (cx.1.2.2.2.2 _ tw_2_180) (cx.1.2.2.2.2 _ tw_2_179) (cx.1.2.2.2.2 _ tw_1_10) cx.2.1 hw.1 hw.2.1 hw.2.2 15 2 0 0 rfl rfl rfl rfl rfl (by decide) (by decide) (by decide) (by decide) (by decide) (fun _ _ => rfl) (Nat.le_of_ble_eq_true rfl) (Nat.le_of_ble_eq_true rfl) dX3_takeFrom_27 (fun H locs hP hD hS => ?_)
  have hw : Wd g _ _ s H locs := ⟨hP, hD, hS⟩
  obtain ⟨d2, ed2, h⟩ := lt_ex h
  have hw : Wd g (va_A ((VC g q d) ++ (VC g q2 o)) s.heap.size) ((VC g q d2) ++ (VC g q2 o)) s H locs := by rw [ed2]; exact hw
  refine lv_aload_n hx hb dX3_takeFrom_30 rfl (lv_at hl 1 rfl) ?_
  refine gf_X3_18 cx hw 13 rfl rfl dX3_takeFrom_31 ?_
  refine lv_iconst (v := 0) hx hb dX3_takeFrom_34 (by decide) ?_
  refine lv_aload_n hx hb dX3_takeFrom_35 rfl (lv_at hl 0 rfl) ?_
  refine gf_X3_18 cx hw 0 rfl rfl dX3_takeFrom_36 ?_
  refine lv_iconst (v := 0) hx hb dX3_takeFrom_39 (by decide) ?_
  refine lv_bipush (v := 32) hx hb dX3_takeFrom_40 (by decide) ?_
  refine va_copyi hx hb (cx.1.2.2.1.trans hl.1.symm) cx.1.2.2.2.1 (cx.1.2.2.2.2 _ tw_2_178) (cx.1.2.2.2.2 _ tw_2_180) (cx.1.2.2.2.2 _ tw_2_179) (cx.1.2.2.2.2 _ tw_1_10) cx.2.1 hw.1 hw.2.1 hw.2.2 16 3 0 0 rfl rfl rfl rfl rfl (by decide) (by decide) (by decide) (by decide) (by decide) (fun _ _ => rfl) (Nat.le_of_ble_eq_true rfl) (Nat.le_of_ble_eq_true rfl) dX3_takeFrom_42 (fun H locs hP hD hS => ?_)
  have hw : Wd g _ _ s H locs := ⟨hP, hD, hS⟩
  obtain ⟨d3, ed3, h⟩ := lt_ex h
  have hw : Wd g (va_A ((VC g q d) ++ (VC g q2 o)) s.heap.size) ((VC g q d3) ++ (VC g q2 o)) s H locs := by rw [ed3]; exact hw
  refine lv_aload_n hx hb dX3_takeFrom_45 rfl (lv_at hl 1 rfl) ?_
  refine gf_X3_21 cx hw 13 rfl rfl dX3_takeFrom_46 ?_
  refine lv_iconst (v := 0) hx hb dX3_takeFrom_49 (by decide) ?_
  refine lv_aload_n hx hb dX3_takeFrom_50 rfl (lv_at hl 0 rfl) ?_
  refine gf_X3_21 cx hw 0 rfl rfl dX3_takeFrom_51 ?_
  refine lv_iconst (v := 0) hx hb dX3_takeFrom_54 (by decide) ?_
  refine lv_bipush (v := 16) hx hb dX3_takeFrom_55 (by decide) ?_
  refine va_copyi hx hb (cx.1.2.2.1.trans hl.1.symm) cx.1.2.2.2.1 (cx.1.2.2.2.2 _ tw_2_178) (cx.1.2.2.2.2 _ tw_2_180) (cx.1.2.2.2.2 _ tw_2_179) (cx.1.2.2.2.2 _ tw_1_10) cx.2.1 hw.1 hw.2.1 hw.2.2 17 4 0 0 rfl rfl rfl rfl rfl (by decide) (by decide) (by decide) (by decide) (by decide) (fun _ _ => rfl) (Nat.le_of_ble_eq_true rfl) (Nat.le_of_ble_eq_true rfl) dX3_takeFrom_57 (fun H locs hP hD hS => ?_)
  have hw : Wd g _ _ s H locs := ⟨hP, hD, hS⟩
  obtain ⟨d4, ed4, h⟩ := lt_ex h
  have hw : Wd g (va_A ((VC g q d) ++ (VC g q2 o)) s.heap.size) ((VC g q d4) ++ (VC g q2 o)) s H locs := by rw [ed4]; exact hw
  refine lv_aload_n hx hb dX3_takeFrom_60 rfl (lv_at hl 1 rfl) ?_
  refine gf_X3_24 cx hw 13 rfl rfl dX3_takeFrom_61 ?_
  refine lv_iconst (v := 0) hx hb dX3_takeFrom_64 (by decide) ?_
  refine lv_aload_n hx hb dX3_takeFrom_65 rfl (lv_at hl 0 rfl) ?_
  refine gf_X3_24 cx hw 0 rfl rfl dX3_takeFrom_66 ?_
  refine lv_iconst (v := 0) hx hb dX3_takeFrom_69 (by decide) ?_
  refine lv_bipush (v := 12) hx hb dX3_takeFrom_70 (by decide) ?_
  refine va_copyi hx hb (cx.1.2.2.1.trans hl.1.symm) cx.1.2.2.2.1 (cx.1.2.2.2.2 _ tw_2_178) (cx.1.2.2.2.2 _ tw_2_180) (cx.1.2.2.2.2 _ tw_2_179) (cx.1.2.2.2.2 _ tw_1_10) cx.2.1 hw.1 hw.2.1 hw.2.2 18 5 0 0 rfl rfl rfl rfl rfl (by decide) (by decide) (by decide) (by decide) (by decide) (fun _ _ => rfl) (Nat.le_of_ble_eq_true rfl) (Nat.le_of_ble_eq_true rfl) dX3_takeFrom_72 (fun H locs hP hD hS => ?_)
  have hw : Wd g _ _ s H locs := ⟨hP, hD, hS⟩
  obtain ⟨d5, ed5, h⟩ := lt_ex h
  have hw : Wd g (va_A ((VC g q d) ++ (VC g q2 o)) s.heap.size) ((VC g q d5) ++ (VC g q2 o)) s H locs := by rw [ed5]; exact hw
  refine lv_aload_n hx hb dX3_takeFrom_75 rfl (lv_at hl 1 rfl) ?_
  refine gf_X3_27 cx hw 13 rfl rfl dX3_takeFrom_76 ?_
  refine lv_iconst (v := 0) hx hb dX3_takeFrom_79 (by decide) ?_
  refine lv_aload_n hx hb dX3_takeFrom_80 rfl (lv_at hl 0 rfl) ?_
  refine gf_X3_27 cx hw 0 rfl rfl dX3_takeFrom_81 ?_
  refine lv_iconst (v := 0) hx hb dX3_takeFrom_84 (by decide) ?_
  refine lv_bipush (v := 12) hx hb dX3_takeFrom_85 (by decide) ?_
  refine va_copyi hx hb (cx.1.2.2.1.trans hl.1.symm) cx.1.2.2.2.1 (cx.1.2.2.2.2 _ tw_2_178) (cx.1.2.2.2.2 _ tw_2_180) (cx.1.2.2.2.2 _ tw_2_179) (cx.1.2.2.2.2 _ tw_1_10) cx.2.1 hw.1 hw.2.1 hw.2.2 19 6 0 0 rfl rfl rfl rfl rfl (by decide) (by decide) (by decide) (by decide) (by decide) (fun _ _ => rfl) (Nat.le_of_ble_eq_true rfl) (Nat.le_of_ble_eq_true rfl) dX3_takeFrom_87 (fun H locs hP hD hS => ?_)
  have hw : Wd g _ _ s H locs := ⟨hP, hD, hS⟩
  obtain ⟨d6, ed6, h⟩ := lt_ex h
  have hw : Wd g (va_A ((VC g q d) ++ (VC g q2 o)) s.heap.size) ((VC g q d6) ++ (VC g q2 o)) s H locs := by rw [ed6]; exact hw
  refine lv_aload_n hx hb dX3_takeFrom_90 rfl (lv_at hl 1 rfl) ?_
  refine gf_X3_30 cx hw 13 rfl rfl dX3_takeFrom_91 ?_
  refine lv_iconst (v := 0) hx hb dX3_takeFrom_94 (by decide) ?_
  refine lv_aload_n hx hb dX3_takeFrom_95 rfl (lv_at hl 0 rfl) ?_
  refine gf_X3_30 cx hw 0 rfl rfl dX3_takeFrom_96 ?_
  refine lv_iconst (v := 0) hx hb dX3_takeFrom_99 (by decide) ?_
  refine lv_bipush (v := 12) hx hb dX3_takeFrom_100 (by decide) ?_
  refine va_copyi hx hb (cx.1.2.2.1.trans hl.1.symm) cx.1.2.2.2.1 (cx.1.2.2.2.2 _ tw_2_178) (cx.1.2.2.2.2 _ tw_2_180) (cx.1.2.2.2.2 _ tw_2_179) (cx.1.2.2.2.2 _ tw_1_10) cx.2.1 hw.1 hw.2.1 hw.2.2 20 7 0 0 rfl rfl rfl rfl rfl (by decide) (by decide) (by decide) (by decide) (by decide) (fun _ _ => rfl) (Nat.le_of_ble_eq_true rfl) (Nat.le_of_ble_eq_true rfl) dX3_takeFrom_102 (fun H locs hP hD hS => ?_)
  have hw : Wd g _ _ s H locs := ⟨hP, hD, hS⟩
  obtain ⟨d7, ed7, h⟩ := lt_ex h
  have hw : Wd g (va_A ((VC g q d) ++ (VC g q2 o)) s.heap.size) ((VC g q d7) ++ (VC g q2 o)) s H locs := by rw [ed7]; exact hw
  refine lv_aload_n hx hb dX3_takeFrom_105 rfl (lv_at hl 1 rfl) ?_
  refine gf_X3_33 cx hw 13 rfl rfl dX3_takeFrom_106 ?_
  refine lv_iconst (v := 0) hx hb dX3_takeFrom_109 (by decide) ?_
  refine lv_aload_n hx hb dX3_takeFrom_110 rfl (lv_at hl 0 rfl) ?_
  refine gf_X3_33 cx hw 0 rfl rfl dX3_takeFrom_111 ?_
  refine lv_iconst (v := 0) hx hb dX3_takeFrom_114 (by decide) ?_
  refine lv_bipush (v := 12) hx hb dX3_takeFrom_115 (by decide) ?_
  refine va_copyi hx hb (cx.1.2.2.1.trans hl.1.symm) cx.1.2.2.2.1 (cx.1.2.2.2.2 _ tw_2_178) (cx.1.2.2.2.2 _ tw_2_180) (cx.1.2.2.2.2 _ tw_2_179) (cx.1.2.2.2.2 _ tw_1_10) cx.2.1 hw.1 hw.2.1 hw.2.2 21 8 0 0 rfl rfl rfl rfl rfl (by decide) (by decide) (by decide) (by decide) (by decide) (fun _ _ => rfl) (Nat.le_of_ble_eq_true rfl) (Nat.le_of_ble_eq_true rfl) dX3_takeFrom_117 (fun H locs hP hD hS => ?_)
  have hw : Wd g _ _ s H locs := ⟨hP, hD, hS⟩
  obtain ⟨d8, ed8, h⟩ := lt_ex h
  have hw : Wd g (va_A ((VC g q d) ++ (VC g q2 o)) s.heap.size) ((VC g q d8) ++ (VC g q2 o)) s H locs := by rw [ed8]; exact hw
  refine lv_aload_n hx hb dX3_takeFrom_120 rfl (lv_at hl 1 rfl) ?_
  refine gf_X3_36 cx hw 13 rfl rfl dX3_takeFrom_121 ?_
  refine lv_iconst (v := 0) hx hb dX3_takeFrom_124 (by decide) ?_
  refine lv_aload_n hx hb dX3_takeFrom_125 rfl (lv_at hl 0 rfl) ?_
  refine gf_X3_36 cx hw 0 rfl rfl dX3_takeFrom_126 ?_
  refine lv_iconst (v := 0) hx hb dX3_takeFrom_129 (by decide) ?_
  refine lv_bipush (v := 12) hx hb dX3_takeFrom_130 (by decide) ?_
  refine va_copyi hx hb (cx.1.2.2.1.trans hl.1.symm) cx.1.2.2.2.1 (cx.1.2.2.2.2 _ tw_2_178) (cx.1.2.2.2.2 _ tw_2_180) (cx.1.2.2.2.2 _ tw_2_179) (cx.1.2.2.2.2 _ tw_1_10) cx.2.1 hw.1 hw.2.1 hw.2.2 22 9 0 0 rfl rfl rfl rfl rfl (by decide) (by decide) (by decide) (by decide) (by decide) (fun _ _ => rfl) (Nat.le_of_ble_eq_true rfl) (Nat.le_of_ble_eq_true rfl) dX3_takeFrom_132 (fun H locs hP hD hS => ?_)
  have hw : Wd g _ _ s H locs := ⟨hP, hD, hS⟩
  obtain ⟨d9, ed9, h⟩ := lt_ex h
  have hw : Wd g (va_A ((VC g q d) ++ (VC g q2 o)) s.heap.size) ((VC g q d9) ++ (VC g q2 o)) s H locs := by rw [ed9]; exact hw
  refine lv_aload_n hx hb dX3_takeFrom_135 rfl (lv_at hl 1 rfl) ?_
  refine gf_X3_39 cx hw 13 rfl rfl dX3_takeFrom_136 ?_
  refine lv_iconst (v := 0) hx hb dX3_takeFrom_139 (by decide) ?_
  refine lv_aload_n hx hb dX3_takeFrom_140 rfl (lv_at hl 0 rfl) ?_
  refine gf_X3_39 cx hw 0 rfl rfl dX3_takeFrom_141 ?_
  refine lv_iconst (v := 0) hx hb dX3_takeFrom_144 (by decide) ?_
  refine lv_bipush (v := 12) hx hb dX3_takeFrom_145 (by decide) ?_
  refine va_copyi hx hb (cx.1.2.2.1.trans hl.1.symm) cx.1.2.2.2.1 (cx.1.2.2.2.2 _ tw_2_178) (cx.1.2.2.2.2 _ tw_2_180) (cx.1.2.2.2.2 _ tw_2_179) (cx.1.2.2.2.2 _ tw_1_10) cx.2.1 hw.1 hw.2.1 hw.2.2 23 10 0 0 rfl rfl rfl rfl rfl (by decide) (by decide) (by decide) (by decide) (by decide) (fun _ _ => rfl) (Nat.le_of_ble_eq_true rfl) (Nat.le_of_ble_eq_true rfl) dX3_takeFrom_147 (fun H locs hP hD hS => ?_)
  have hw : Wd g _ _ s H locs := ⟨hP, hD, hS⟩
  obtain ⟨d10, ed10, h⟩ := lt_ex h
  have hw : Wd g (va_A ((VC g q d) ++ (VC g q2 o)) s.heap.size) ((VC g q d10) ++ (VC g q2 o)) s H locs := by rw [ed10]; exact hw
  refine lv_aload_n hx hb dX3_takeFrom_150 rfl (lv_at hl 0 rfl) ?_
  refine lv_aload_n hx hb dX3_takeFrom_151 rfl (lv_at hl 1 rfl) ?_
  refine gf_X3_63 cx hw 13 rfl rfl dX3_takeFrom_152 ?_
  refine pf_X3_63 cx hw 0 rfl rfl rfl (Nat.le_of_ble_eq_true rfl) dX3_takeFrom_155 (fun H locs hw => ?_)
  obtain ⟨d11, ed11, h⟩ := lt_ex h
  have hw : Wd g (va_A ((VC g q d) ++ (VC g q2 o)) s.heap.size) ((VC g q d11) ++ (VC g q2 o)) s H locs := by rw [ed11]; exact hw
  refine lv_aload_n hx hb dX3_takeFrom_158 rfl (lv_at hl 0 rfl) ?_
  refine lv_aload_n hx hb dX3_takeFrom_159 rfl (lv_at hl 1 rfl) ?_
  refine gf_X3_67 cx hw 13 rfl rfl dX3_takeFrom_160 ?_
  refine pf_X3_67 cx hw 0 rfl rfl rfl (Nat.le_of_ble_eq_true rfl) dX3_takeFrom_163 (fun H locs hw => ?_)
  obtain ⟨d12, ed12, h⟩ := lt_ex h
  have hw : Wd g (va_A ((VC g q d) ++ (VC g q2 o)) s.heap.size) ((VC g q d12) ++ (VC g q2 o)) s H locs := by rw [ed12]; exact hw
  refine lv_aload_n hx hb dX3_takeFrom_166 rfl (lv_at hl 0 rfl) ?_
  refine lv_aload_n hx hb dX3_takeFrom_167 rfl (lv_at hl 1 rfl) ?_
  refine gf_X3_70 cx hw 13 rfl rfl dX3_takeFrom_168 ?_
  refine pf_X3_70 cx hw 0 rfl rfl rfl (Nat.le_of_ble_eq_true rfl) dX3_takeFrom_171 (fun H locs hw => ?_)
  obtain ⟨d13, ed13, h⟩ := lt_ex h
  have hw : Wd g (va_A ((VC g q d) ++ (VC g q2 o)) s.heap.size) ((VC g q d13) ++ (VC g q2 o)) s H locs := by rw [ed13]; exact hw
  refine lv_aload_n hx hb dX3_takeFrom_174 rfl (lv_at hl 0 rfl) ?_
  refine lv_aload_n hx hb dX3_takeFrom_175 rfl (lv_at hl 1 rfl) ?_
  refine gf_X3_73 cx hw 13 rfl rfl dX3_takeFrom_176 ?_
  refine pf_X3_73 cx hw 0 rfl rfl rfl (Nat.le_of_ble_eq_true rfl) dX3_takeFrom_179 (fun H locs hw => ?_)
  obtain ⟨d14, ed14, h⟩ := lt_ex h
  have hw : Wd g (va_A ((VC g q d) ++ (VC g q2 o)) s.heap.size) ((VC g q d14) ++ (VC g q2 o)) s H locs := by rw [ed14]; exact hw
  exact r_v cx hr hlocks hw (congrArg (fun z0 => (VC g q z0) ++ (VC g q2 o)) (sm_eq h)) dX3_takeFrom_182
set_option maxHeartbeats 4000000 in
set_option maxRecDepth 100000 in
theorem c_X3_sumWeights (l : Launch) (g : gE) (q : Nat → Nat) (a : Nat) (na : Nat) (N : Nat) (p2 : Int32) (d : VD) (f : (Nat → Int32)) (f' : (Nat → Int32)) (h : f_X3_sumWeights N na p2 d f = some f') : MO l yX3_sumWeights (Cond.code yX3_sumWeights cX3_sumWeights 5 none :: TB) rm_X3_sumWeights [.ref (q 0), .ref a, .int p2] g ((VW g q d) ++ (ACI g a na f)) ((VW g q d) ++ (ACI g a na f')) none 0 0 := by
  refine MO.of (cc := cX3_sumWeights) (maxL := 5) (ret := none) (by decide) ?_
  intro p e s m below meth c cx hw hr hlocks _
  have hx := cx.1.1
  have hb := cx.1.2.1
  refine en_go (lv := [(0, .ref (q 0)), (1, .ref a), (2, .int p2)]) (Nat.le_of_ble_eq_true rfl) rfl (fun ls hl => ?_)
  have L2 : ∀ (n2 : Nat) (a2 : Int32) (a3 : Int32) (f_ : (Nat → Int32)) (H : Heap) (locs : List Loc) (ls : Array Slot), Wd g (va_A ((VW g q d) ++ (ACI g a na f)) s.heap.size) ((VW g q d) ++ (ACI g a na f_)) s H locs → lv_has ls 5 [(0, .ref (q 0)), (1, .ref a), (2, .int a2), (3, .int a3)] → f_X3_sumWeights_L2 N na d  n2 a2 a3 f_ = some f' → W p l e rm_X3_sumWeights s m ([.ref (q 0), .ref a, .int p2] : List Value).toArray below meth c H locs 0 0 (MQ below (QO none g ((VW g q d) ++ (ACI g a na f')) (va_A ((VW g q d) ++ (ACI g a na f)) s.heap.size)) ([.ref (q 0), .ref a, .int p2] : List Value).toArray s 0 0 (va_A ((VW g q d) ++ (ACI g a na f)) s.heap.size)) (F0 m 2 ls []) := by
    intro n2
    induction n2 with
    | zero => intro a2 a3 f_ H locs ls hw hl h; exact (Option.some_ne_none _ h.symm).elim
    | succ n2 ih2 =>
      intro a2 a3 f_ H locs ls hw hl h
      rw [f_X3_sumWeights_L2] at h
      refine lv_iload_n hx hb dX3_sumWeights_2 rfl (lv_at hl 3 rfl) ?_
      refine lv_aload_n hx hb dX3_sumWeights_3 rfl (lv_at hl 1 rfl) ?_
      refine x_alen cx hw 2 0 rfl rfl rfl dX3_sumWeights_4 ?_
      refine lv_icmp_ge (tgt := 55) hx hb dX3_sumWeights_5 (by decide) (fun c16 => ?_) (fun c16 => ?_)
      · replace h := ite_t c16 h
        exact r_v cx hr hlocks hw (congrArg (fun z1 => (VW g q d) ++ (ACI g a na z1)) (sm_eq h)) dX3_sumWeights_55
      · replace h := ite_f c16 h
        refine lv_iload_n hx hb dX3_sumWeights_8 rfl (lv_at hl 2 rfl) ?_
        refine lv_iload_n hx hb dX3_sumWeights_9 rfl (lv_at hl 3 rfl) ?_
        obtain ⟨x17, g18, h⟩ := bd_ex h
        refine c_SN (As := [.int a3]) (rest := [.int a2]) (w' := (VW g q d) ++ (ACI g a na f_)) cx hw (c_X4_leastOf l g  N a3  x17 g18) (cl_X3_80 cx.1.2.2.2.2 cx.2.2.1 ⟨Nat.le_of_ble_eq_true rfl, Nat.le_of_ble_eq_true rfl⟩) Ct.nil hl.1 rfl rfl (Nat.le_of_ble_eq_true rfl) dX3_sumWeights_10 ⟨Nat.le_of_ble_eq_true rfl, Nat.le_of_ble_eq_true rfl⟩ (st1 := [.int x17, .int a2]) rfl (fun H locs hw => ?_)
        refine lv_iadd hx hb dX3_sumWeights_13 ?_
        refine lv_topi (fun x19 ex19 => ?_)
        replace h := lt_nx ex19 h
        refine lv_istore (lv' := [(4, .int x19), (0, .ref (q 0)), (1, .ref a), (2, .int a2), (3, .int a3)]) hx hb dX3_sumWeights_14 hl (by decide) rfl (fun ls hl => ?_)
        refine lv_aload_n hx hb dX3_sumWeights_16 rfl (lv_at hl 2 rfl) ?_
        refine lv_iload_n hx hb dX3_sumWeights_17 rfl (lv_at hl 4 rfl) ?_
        refine lv_aload_n hx hb dX3_sumWeights_18 rfl (lv_at hl 2 rfl) ?_
        refine lv_iload_n hx hb dX3_sumWeights_19 rfl (lv_at hl 4 rfl) ?_
        refine lv_iload_n hx hb dX3_sumWeights_20 rfl (lv_at hl 4 rfl) ?_
        refine lv_iconst (v := 1) hx hb dX3_sumWeights_21 (by decide) ?_
        refine lv_isub hx hb dX3_sumWeights_22 ?_
        refine lv_iand hx hb dX3_sumWeights_23 ?_
        have ix20 := rd_in h
        refine x_iald cx hw 2 rfl ix20 dX3_sumWeights_24 ?_
        refine lv_topi (fun x20 ex20 => ?_)
        replace h := rd_nx ex20 h
        refine lv_iload hx hb dX3_sumWeights_25 (lv_at hl 0 rfl) ?_
        refine lv_iconst (v := 0) hx hb dX3_sumWeights_27 (by decide) ?_
        refine lv_bipush (v := 8) hx hb dX3_sumWeights_28 (by decide) ?_
        obtain ⟨x21, g22, h⟩ := bd_ex h
        refine c_SN (As := [.int x19, .int (0 : Int32), .int (8 : Int32)]) (rest := [.int x20, .int a3, .ref a]) (w' := (VW g q d) ++ (ACI g a na f_)) cx hw (c_X4_isWithin l g  N x19 (0 : Int32) (8 : Int32)  x21 g22) (cl_X3_84 cx.1.2.2.2.2 cx.2.2.1 ⟨Nat.le_of_ble_eq_true rfl, Nat.le_of_ble_eq_true rfl⟩) Ct.nil hl.1 rfl rfl (Nat.le_of_ble_eq_true rfl) dX3_sumWeights_30 ⟨Nat.le_of_ble_eq_true rfl, Nat.le_of_ble_eq_true rfl⟩ (st1 := [.int x21, .int x20, .int a3, .ref a]) rfl (fun H locs hw => ?_)
        refine lv_if_eq (tgt := 46) hx hb dX3_sumWeights_33 (by decide) (fun c23 => ?_) (fun c23 => ?_)
        · replace h := ite_t c23 h
          refine lv_iconst (v := 0) hx hb dX3_sumWeights_46 (by decide) ?_
          refine lv_iadd hx hb dX3_sumWeights_47 ?_
          have i24 := ck_in h
          replace h := ck_nx h
          refine x_iast cx hw 2 rfl i24 dX3_sumWeights_48 (fun H locs hw => ?_)
          obtain ⟨f25, ef25, h⟩ := lt_ex h
          have hw : Wd g (va_A ((VW g q d) ++ (ACI g a na f)) s.heap.size) ((VW g q d) ++ (ACI g a na f25)) s H locs := by rw [ef25]; exact hw
          obtain ⟨x26, ex26⟩ : ∃ y : Int32, y = (a3 + 1) := ⟨_, rfl⟩
          replace h := lt_nx ex26 h
          refine lv_iinc (v := x26) (lv' := [(3, .int x26), (4, .int x19), (0, .ref (q 0)), (1, .ref a), (2, .int a2)]) hx hb dX3_sumWeights_49 hl (k := 4) rfl (by rw [ex26]; rfl) (by decide) rfl (fun ls hl => ?_)
          refine lv_goto (tgt := 2) hx hb dX3_sumWeights_52 (by decide) ?_
          exact ih2 a2 x26 f25 _ _ _ hw (lv_sub hl [2, 3, 4, 0] rfl) h
        · replace h := ite_f c23 h
          refine lv_aload_n hx hb dX3_sumWeights_36 rfl (lv_at hl 1 rfl) ?_
          refine gf_X3_11 cx hw 0 rfl rfl dX3_sumWeights_37 ?_
          refine lv_iload hx hb dX3_sumWeights_40 (lv_at hl 0 rfl) ?_
          have ix27 := rd_in h
          refine x_iald cx hw 1 rfl ix27 dX3_sumWeights_42 ?_
          refine lv_topi (fun x27 ex27 => ?_)
          replace h := rd_nx ex27 h
          refine lv_goto (tgt := 47) hx hb dX3_sumWeights_43 (by decide) ?_
          refine lv_iadd hx hb dX3_sumWeights_47 ?_
          have i28 := ck_in h
          replace h := ck_nx h
          refine x_iast cx hw 2 rfl i28 dX3_sumWeights_48 (fun H locs hw => ?_)
          obtain ⟨f29, ef29, h⟩ := lt_ex h
          have hw : Wd g (va_A ((VW g q d) ++ (ACI g a na f)) s.heap.size) ((VW g q d) ++ (ACI g a na f29)) s H locs := by rw [ef29]; exact hw
          obtain ⟨x30, ex30⟩ : ∃ y : Int32, y = (a3 + 1) := ⟨_, rfl⟩
          replace h := lt_nx ex30 h
          refine lv_iinc (v := x30) (lv' := [(3, .int x30), (4, .int x19), (0, .ref (q 0)), (1, .ref a), (2, .int a2)]) hx hb dX3_sumWeights_49 hl (k := 4) rfl (by rw [ex30]; rfl) (by decide) rfl (fun ls hl => ?_)
          refine lv_goto (tgt := 2) hx hb dX3_sumWeights_52 (by decide) ?_
          exact ih2 a2 x30 f29 _ _ _ hw (lv_sub hl [2, 3, 4, 0] rfl) h
  unfold f_X3_sumWeights at h
  refine lv_iconst (v := 1) hx hb dX3_sumWeights_0 (by decide) ?_
  refine lv_istore_n (lv' := [(3, .int (1 : Int32)), (0, .ref (q 0)), (1, .ref a), (2, .int p2)]) hx hb dX3_sumWeights_1 rfl hl (by decide) rfl (fun ls hl => ?_)
  exact L2 N p2 (1 : Int32) f _ _ _ hw (lv_sub hl [1, 2, 3, 0] rfl) h
set_option maxHeartbeats 4000000 in
set_option maxRecDepth 100000 in
theorem c_X3_putWeight (l : Launch) (g : gE) (q : Nat → Nat) (N : Nat) (p1 : Int32) (p2 : Int32) (d : VD) (r : Int32) (d' : VD) (h : f_X3_putWeight N  p1 p2 d = some (r, d')) : MO l yX3_putWeight (Cond.code yX3_putWeight cX3_putWeight 4 (some .int) :: TB) rm_X3_putWeight [.ref (q 0), .int p1, .int p2] g ((VC g q d)) ((VC g q d')) (some (.int r)) 0 0 := by
  refine MO.of (cc := cX3_putWeight) (maxL := 4) (ret := (some .int)) (by decide) ?_
  intro p e s m below meth c cx hw hr hlocks _
  have hx := cx.1.1
  have hb := cx.1.2.1
  refine en_go (lv := [(0, .ref (q 0)), (1, .int p1), (2, .int p2)]) (Nat.le_of_ble_eq_true rfl) rfl (fun ls hl => ?_)
  unfold f_X3_putWeight at h
  refine lv_aload_n hx hb dX3_putWeight_0 rfl (lv_at hl 0 rfl) ?_
  refine gf_X3_11 cx hw 0 rfl rfl dX3_putWeight_1 ?_
  refine lv_iload_n hx hb dX3_putWeight_4 rfl (lv_at hl 1 rfl) ?_
  refine lv_iload_n hx hb dX3_putWeight_5 rfl (lv_at hl 2 rfl) ?_
  obtain ⟨x1, f2, g3, h⟩ := bd2_ex h
  refine c_SN (As := [.ref (q 1), .int p1, .int p2]) (rest := []) (w' := (VC g q (v_set_weights d f2))) cx hw (c_X4_exchange l g (q 1) 9 N p1 p2 (v_weights d) x1 f2 g3) (cl_X3_76 cx.1.2.2.2.2 cx.2.2.1 ⟨Nat.le_of_ble_eq_true rfl, Nat.le_of_ble_eq_true rfl⟩) (ctV_A_1 ..) hl.1 rfl rfl (Nat.le_of_ble_eq_true rfl) dX3_putWeight_6 ⟨Nat.le_of_ble_eq_true rfl, Nat.le_of_ble_eq_true rfl⟩ (st1 := [.int x1]) rfl (fun H locs hw => ?_)
  obtain ⟨d4, ed4, h⟩ := lt_ex h
  have hw : Wd g (va_A ((VC g q d)) s.heap.size) ((VC g q d4)) s H locs := by rw [ed4]; exact hw
  refine lv_istore_n (lv' := [(3, .int x1), (0, .ref (q 0)), (1, .int p1), (2, .int p2)]) hx hb dX3_putWeight_9 rfl hl (by decide) rfl (fun ls hl => ?_)
  refine lv_aload_n hx hb dX3_putWeight_10 rfl (lv_at hl 1 rfl) ?_
  refine lv_aload_n hx hb dX3_putWeight_11 rfl (lv_at hl 1 rfl) ?_
  refine gf_X3_18 cx hw 0 rfl rfl dX3_putWeight_12 ?_
  refine lv_iconst (v := 0) hx hb dX3_putWeight_15 (by decide) ?_
  obtain ⟨f5, g6, h⟩ := bd_ex h
  refine c_V (As := [.ref (q 3), .int (0 : Int32)]) (rest := []) (w' := (VC g q (v_set_lowerSums d4 f5))) cx hw (c_X3_sumWeights l g q (q 3) 32 N (0 : Int32) d4 (v_lowerSums d4) f5 g6) (cl_X3_54 cx.1.2.2.2.2 ⟨Nat.le_of_ble_eq_true rfl, Nat.le_of_ble_eq_true rfl⟩) (x_recv cx hw (ci := 3) rfl 0 rfl) (ct_V__0_1_3__VW_A_1 g q d4 f5) hl.1 rfl rfl (Nat.le_of_ble_eq_true rfl) dX3_putWeight_16 ⟨Nat.le_of_ble_eq_true rfl, Nat.le_of_ble_eq_true rfl⟩ (st1 := []) rfl (fun H locs hw => ?_)
  obtain ⟨d7, ed7, h⟩ := lt_ex h
  have hw : Wd g (va_A ((VC g q d)) s.heap.size) ((VC g q d7)) s H locs := by rw [ed7]; exact hw
  refine lv_aload_n hx hb dX3_putWeight_19 rfl (lv_at hl 1 rfl) ?_
  refine lv_aload_n hx hb dX3_putWeight_20 rfl (lv_at hl 1 rfl) ?_
  refine gf_X3_21 cx hw 0 rfl rfl dX3_putWeight_21 ?_
  refine lv_iconst (v := 5) hx hb dX3_putWeight_24 (by decide) ?_
  obtain ⟨f8, g9, h⟩ := bd_ex h
  refine c_V (As := [.ref (q 4), .int (5 : Int32)]) (rest := []) (w' := (VC g q (v_set_upperSums d7 f8))) cx hw (c_X3_sumWeights l g q (q 4) 16 N (5 : Int32) d7 (v_upperSums d7) f8 g9) (cl_X3_54 cx.1.2.2.2.2 ⟨Nat.le_of_ble_eq_true rfl, Nat.le_of_ble_eq_true rfl⟩) (x_recv cx hw (ci := 3) rfl 0 rfl) (ct_V__0_1_4__VW_A_1 g q d7 f8) hl.1 rfl rfl (Nat.le_of_ble_eq_true rfl) dX3_putWeight_25 ⟨Nat.le_of_ble_eq_true rfl, Nat.le_of_ble_eq_true rfl⟩ (st1 := []) rfl (fun H locs hw => ?_)
  obtain ⟨d10, ed10, h⟩ := lt_ex h
  have hw : Wd g (va_A ((VC g q d)) s.heap.size) ((VC g q d10)) s H locs := by rw [ed10]; exact hw
  refine lv_iload_n hx hb dX3_putWeight_28 rfl (lv_at hl 0 rfl) ?_
  exact r_i cx hr hlocks hw (pr1 h) (congrArg (fun z0 => (VC g q z0)) (pr2 h)) dX3_putWeight_29
set_option maxHeartbeats 4000000 in
set_option maxRecDepth 100000 in
theorem c_X3_weightOfAll (l : Launch) (g : gE) (q : Nat → Nat) (N : Nat)  (d : VD) (r : Int32) (h : f_X3_weightOfAll N  d = some r) : MO l yX3_weightOfAll (Cond.code yX3_weightOfAll cX3_weightOfAll 1 (some .int) :: TB) rm_X3_weightOfAll [.ref (q 0)] g ((VC g q d)) ((VC g q d)) (some (.int r)) 0 0 := by
  refine MO.of (cc := cX3_weightOfAll) (maxL := 1) (ret := (some .int)) (by decide) ?_
  intro p e s m below meth c cx hw hr hlocks _
  have hx := cx.1.1
  have hb := cx.1.2.1
  refine en_go (lv := [(0, .ref (q 0))]) (Nat.le_of_ble_eq_true rfl) rfl (fun ls hl => ?_)
  unfold f_X3_weightOfAll at h
  refine lv_aload_n hx hb dX3_weightOfAll_0 rfl (lv_at hl 0 rfl) ?_
  refine gf_X3_18 cx hw 0 rfl rfl dX3_weightOfAll_1 ?_
  refine lv_bipush (v := 31) hx hb dX3_weightOfAll_4 (by decide) ?_
  have ix1 := rd_in h
  refine x_iald cx hw 3 rfl ix1 dX3_weightOfAll_6 ?_
  refine lv_topi (fun x1 ex1 => ?_)
  replace h := rd_nx ex1 h
  refine lv_aload_n hx hb dX3_weightOfAll_7 rfl (lv_at hl 0 rfl) ?_
  refine gf_X3_21 cx hw 0 rfl rfl dX3_weightOfAll_8 ?_
  refine lv_bipush (v := 15) hx hb dX3_weightOfAll_11 (by decide) ?_
  have ix2 := rd_in h
  refine x_iald cx hw 4 rfl ix2 dX3_weightOfAll_13 ?_
  refine lv_topi (fun x2 ex2 => ?_)
  replace h := rd_nx ex2 h
  refine lv_iadd hx hb dX3_weightOfAll_14 ?_
  exact r_i cx hr hlocks hw (sm_eq h) rfl dX3_weightOfAll_15
set_option maxHeartbeats 4000000 in
set_option maxRecDepth 100000 in
theorem c_X3_addOne (l : Launch) (g : gE) (q : Nat → Nat) (N : Nat) (p1 : Int32) (p2 : Int32) (d : VD) (r : Int32) (d' : VD) (h : f_X3_addOne N  p1 p2 d = some (r, d')) : MO l yX3_addOne (Cond.code yX3_addOne cX3_addOne 4 (some .int) :: TB) rm_X3_addOne [.ref (q 0), .int p1, .int p2] g ((VC g q d)) ((VC g q d')) (some (.int r)) 0 0 := by
  refine MO.of (cc := cX3_addOne) (maxL := 4) (ret := (some .int)) (by decide) ?_
  intro p e s m below meth c cx hw hr hlocks _
  have hx := cx.1.1
  have hb := cx.1.2.1
  refine en_go (lv := [(0, .ref (q 0)), (1, .int p1), (2, .int p2)]) (Nat.le_of_ble_eq_true rfl) rfl (fun ls hl => ?_)
  unfold f_X3_addOne at h
  refine lv_aload_n hx hb dX3_addOne_0 rfl (lv_at hl 0 rfl) ?_
  refine gf_X3_63 cx hw 0 rfl rfl dX3_addOne_1 ?_
  refine lv_bipush (v := 12) hx hb dX3_addOne_4 (by decide) ?_
  refine lv_icmp_lt (tgt := 11) hx hb dX3_addOne_6 (by decide) (fun c1 => ?_) (fun c1 => ?_)
  · replace h := ite_t c1 h
    refine lv_aload_n hx hb dX3_addOne_11 rfl (lv_at hl 0 rfl) ?_
    refine gf_X3_63 cx hw 0 rfl rfl dX3_addOne_12 ?_
    refine lv_topi (fun x2 ex2 => ?_)
    replace h := lt_nx ex2 h
    refine lv_istore_n (lv' := [(3, .int x2), (0, .ref (q 0)), (1, .int p1), (2, .int p2)]) hx hb dX3_addOne_15 rfl hl (by decide) rfl (fun ls hl => ?_)
    refine lv_aload_n hx hb dX3_addOne_16 rfl (lv_at hl 1 rfl) ?_
    refine lv_dup hx hb dX3_addOne_17 rfl ?_
    refine gf_X3_63 cx hw 0 rfl rfl dX3_addOne_18 ?_
    refine lv_iconst (v := 1) hx hb dX3_addOne_21 (by decide) ?_
    refine lv_iadd hx hb dX3_addOne_22 ?_
    refine pf_X3_63 cx hw 0 rfl rfl rfl (Nat.le_of_ble_eq_true rfl) dX3_addOne_23 (fun H locs hw => ?_)
    obtain ⟨d3, ed3, h⟩ := lt_ex h
    have hw : Wd g (va_A ((VC g q d)) s.heap.size) ((VC g q d3)) s H locs := by rw [ed3]; exact hw
    refine lv_aload_n hx hb dX3_addOne_26 rfl (lv_at hl 1 rfl) ?_
    refine gf_X3_24 cx hw 0 rfl rfl dX3_addOne_27 ?_
    refine lv_iload_n hx hb dX3_addOne_30 rfl (lv_at hl 0 rfl) ?_
    refine lv_iload_n hx hb dX3_addOne_31 rfl (lv_at hl 2 rfl) ?_
    have i4 := ck_in h
    replace h := ck_nx h
    refine x_iast cx hw 5 rfl i4 dX3_addOne_32 (fun H locs hw => ?_)
    obtain ⟨d5, ed5, h⟩ := lt_ex h
    have hw : Wd g (va_A ((VC g q d)) s.heap.size) ((VC g q d5)) s H locs := by rw [ed5]; exact hw
    refine lv_aload_n hx hb dX3_addOne_33 rfl (lv_at hl 1 rfl) ?_
    refine gf_X3_27 cx hw 0 rfl rfl dX3_addOne_34 ?_
    refine lv_iload_n hx hb dX3_addOne_37 rfl (lv_at hl 0 rfl) ?_
    refine lv_iload_n hx hb dX3_addOne_38 rfl (lv_at hl 3 rfl) ?_
    have i6 := ck_in h
    replace h := ck_nx h
    refine x_iast cx hw 6 rfl i6 dX3_addOne_39 (fun H locs hw => ?_)
    obtain ⟨d7, ed7, h⟩ := lt_ex h
    have hw : Wd g (va_A ((VC g q d)) s.heap.size) ((VC g q d7)) s H locs := by rw [ed7]; exact hw
    refine lv_aload_n hx hb dX3_addOne_40 rfl (lv_at hl 1 rfl) ?_
    refine gf_X3_30 cx hw 0 rfl rfl dX3_addOne_41 ?_
    refine lv_iload_n hx hb dX3_addOne_44 rfl (lv_at hl 0 rfl) ?_
    refine lv_bipush (v := 10) hx hb dX3_addOne_45 (by decide) ?_
    have i8 := ck_in h
    replace h := ck_nx h
    refine x_iast cx hw 7 rfl i8 dX3_addOne_47 (fun H locs hw => ?_)
    obtain ⟨d9, ed9, h⟩ := lt_ex h
    have hw : Wd g (va_A ((VC g q d)) s.heap.size) ((VC g q d9)) s H locs := by rw [ed9]; exact hw
    refine lv_aload_n hx hb dX3_addOne_48 rfl (lv_at hl 1 rfl) ?_
    refine gf_X3_33 cx hw 0 rfl rfl dX3_addOne_49 ?_
    refine lv_iload_n hx hb dX3_addOne_52 rfl (lv_at hl 0 rfl) ?_
    refine lv_bipush (v := 70) hx hb dX3_addOne_53 (by decide) ?_
    have i10 := ck_in h
    replace h := ck_nx h
    refine x_iast cx hw 8 rfl i10 dX3_addOne_55 (fun H locs hw => ?_)
    obtain ⟨d11, ed11, h⟩ := lt_ex h
    have hw : Wd g (va_A ((VC g q d)) s.heap.size) ((VC g q d11)) s H locs := by rw [ed11]; exact hw
    refine lv_aload_n hx hb dX3_addOne_56 rfl (lv_at hl 1 rfl) ?_
    refine gf_X3_36 cx hw 0 rfl rfl dX3_addOne_57 ?_
    refine lv_iload_n hx hb dX3_addOne_60 rfl (lv_at hl 0 rfl) ?_
    refine lv_iconst (v := -1) hx hb dX3_addOne_61 (by decide) ?_
    have i12 := ck_in h
    replace h := ck_nx h
    refine x_iast cx hw 9 rfl i12 dX3_addOne_62 (fun H locs hw => ?_)
    obtain ⟨d13, ed13, h⟩ := lt_ex h
    have hw : Wd g (va_A ((VC g q d)) s.heap.size) ((VC g q d13)) s H locs := by rw [ed13]; exact hw
    refine lv_aload_n hx hb dX3_addOne_63 rfl (lv_at hl 1 rfl) ?_
    refine gf_X3_39 cx hw 0 rfl rfl dX3_addOne_64 ?_
    refine lv_iload_n hx hb dX3_addOne_67 rfl (lv_at hl 0 rfl) ?_
    refine lv_iconst (v := 0) hx hb dX3_addOne_68 (by decide) ?_
    have i14 := ck_in h
    replace h := ck_nx h
    refine x_iast cx hw 10 rfl i14 dX3_addOne_69 (fun H locs hw => ?_)
    obtain ⟨d15, ed15, h⟩ := lt_ex h
    have hw : Wd g (va_A ((VC g q d)) s.heap.size) ((VC g q d15)) s H locs := by rw [ed15]; exact hw
    refine lv_aload_n hx hb dX3_addOne_70 rfl (lv_at hl 1 rfl) ?_
    refine lv_dup hx hb dX3_addOne_71 rfl ?_
    refine gf_X3_67 cx hw 0 rfl rfl dX3_addOne_72 ?_
    refine lv_iconst (v := 1) hx hb dX3_addOne_75 (by decide) ?_
    refine lv_iload_n hx hb dX3_addOne_76 rfl (lv_at hl 0 rfl) ?_
    refine lv_ishl hx hb dX3_addOne_77 ?_
    refine lv_ior hx hb dX3_addOne_78 ?_
    refine pf_X3_67 cx hw 0 rfl rfl rfl (Nat.le_of_ble_eq_true rfl) dX3_addOne_79 (fun H locs hw => ?_)
    obtain ⟨d16, ed16, h⟩ := lt_ex h
    have hw : Wd g (va_A ((VC g q d)) s.heap.size) ((VC g q d16)) s H locs := by rw [ed16]; exact hw
    refine lv_iload_n hx hb dX3_addOne_82 rfl (lv_at hl 0 rfl) ?_
    exact r_i cx hr hlocks hw (pr1 h) (congrArg (fun z0 => (VC g q z0)) (pr2 h)) dX3_addOne_83
  · replace h := ite_f c1 h
    refine lv_iconst (v := -1) hx hb dX3_addOne_9 (by decide) ?_
    exact r_i cx hr hlocks hw (pr1 h) (congrArg (fun z0 => (VC g q z0)) (pr2 h)) dX3_addOne_10
set_option maxHeartbeats 4000000 in
set_option maxRecDepth 100000 in
theorem c_X3_lives (l : Launch) (g : gE) (q : Nat → Nat) (N : Nat) (p1 : Int32) (d : VD) (r : Int32) (h : f_X3_lives N  p1 d = some r) : MO l yX3_lives (Cond.code yX3_lives cX3_lives 2 (some .boolean) :: TB) rm_X3_lives [.ref (q 0), .int p1] g ((VC g q d)) ((VC g q d)) (some (.int r)) 0 0 := by
  refine MO.of (cc := cX3_lives) (maxL := 2) (ret := (some .boolean)) (by decide) ?_
  intro p e s m below meth c cx hw hr hlocks _
  have hx := cx.1.1
  have hb := cx.1.2.1
  refine en_go (lv := [(0, .ref (q 0)), (1, .int p1)]) (Nat.le_of_ble_eq_true rfl) rfl (fun ls hl => ?_)
  unfold f_X3_lives at h
  refine lv_aload_n hx hb dX3_lives_0 rfl (lv_at hl 0 rfl) ?_
  refine gf_X3_67 cx hw 0 rfl rfl dX3_lives_1 ?_
  refine lv_iload_n hx hb dX3_lives_4 rfl (lv_at hl 1 rfl) ?_
  refine lv_ishr hx hb dX3_lives_5 ?_
  refine lv_iconst (v := 1) hx hb dX3_lives_6 (by decide) ?_
  refine lv_iand hx hb dX3_lives_7 ?_
  refine lv_if_eq (tgt := 15) hx hb dX3_lives_8 (by decide) (fun c1 => ?_) (fun c1 => ?_)
  · replace h := ite_t c1 h
    refine lv_iconst (v := 0) hx hb dX3_lives_15 (by decide) ?_
    exact r_z cx hr hlocks rfl hw (sm_eq h) rfl dX3_lives_16
  · replace h := ite_f c1 h
    refine lv_iconst (v := 1) hx hb dX3_lives_11 (by decide) ?_
    refine lv_goto (tgt := 16) hx hb dX3_lives_12 (by decide) ?_
    exact r_z cx hr hlocks rfl hw (sm_eq h) rfl dX3_lives_16
set_option maxHeartbeats 4000000 in
set_option maxRecDepth 100000 in
theorem c_X3_putLiving (l : Launch) (g : gE) (q : Nat → Nat) (N : Nat) (p1 : Int32) (p2 : Int32) (d : VD) (r : Int32) (d' : VD) (h : f_X3_putLiving N  p1 p2 d = some (r, d')) : MO l yX3_putLiving (Cond.code yX3_putLiving cX3_putLiving 4 (some .int) :: TB) rm_X3_putLiving [.ref (q 0), .int p1, .int p2] g ((VC g q d)) ((VC g q d')) (some (.int r)) 0 0 := by
  refine MO.of (cc := cX3_putLiving) (maxL := 4) (ret := (some .int)) (by decide) ?_
  intro p e s m below meth c cx hw hr hlocks _
  have hx := cx.1.1
  have hb := cx.1.2.1
  refine en_go (lv := [(0, .ref (q 0)), (1, .int p1), (2, .int p2)]) (Nat.le_of_ble_eq_true rfl) rfl (fun ls hl => ?_)
  unfold f_X3_putLiving at h
  refine lv_aload_n hx hb dX3_putLiving_0 rfl (lv_at hl 0 rfl) ?_
  refine gf_X3_67 cx hw 0 rfl rfl dX3_putLiving_1 ?_
  refine lv_iload_n hx hb dX3_putLiving_4 rfl (lv_at hl 1 rfl) ?_
  refine lv_ishr hx hb dX3_putLiving_5 ?_
  refine lv_iconst (v := 1) hx hb dX3_putLiving_6 (by decide) ?_
  refine lv_iand hx hb dX3_putLiving_7 ?_
  refine lv_topi (fun x1 ex1 => ?_)
  replace h := lt_nx ex1 h
  refine lv_istore_n (lv' := [(3, .int x1), (0, .ref (q 0)), (1, .int p1), (2, .int p2)]) hx hb dX3_putLiving_8 rfl hl (by decide) rfl (fun ls hl => ?_)
  refine lv_aload_n hx hb dX3_putLiving_9 rfl (lv_at hl 1 rfl) ?_
  refine lv_aload_n hx hb dX3_putLiving_10 rfl (lv_at hl 1 rfl) ?_
  refine gf_X3_67 cx hw 0 rfl rfl dX3_putLiving_11 ?_
  refine lv_iconst (v := 1) hx hb dX3_putLiving_14 (by decide) ?_
  refine lv_iload_n hx hb dX3_putLiving_15 rfl (lv_at hl 2 rfl) ?_
  refine lv_ishl hx hb dX3_putLiving_16 ?_
  refine lv_iconst (v := -1) hx hb dX3_putLiving_17 (by decide) ?_
  refine lv_ixor hx hb dX3_putLiving_18 ?_
  refine lv_iand hx hb dX3_putLiving_19 ?_
  refine lv_iload_n hx hb dX3_putLiving_20 rfl (lv_at hl 3 rfl) ?_
  refine lv_iload_n hx hb dX3_putLiving_21 rfl (lv_at hl 2 rfl) ?_
  refine lv_ishl hx hb dX3_putLiving_22 ?_
  refine lv_ior hx hb dX3_putLiving_23 ?_
  refine pf_X3_67 cx hw 0 rfl rfl rfl (Nat.le_of_ble_eq_true rfl) dX3_putLiving_24 (fun H locs hw => ?_)
  obtain ⟨d2, ed2, h⟩ := lt_ex h
  have hw : Wd g (va_A ((VC g q d)) s.heap.size) ((VC g q d2)) s H locs := by rw [ed2]; exact hw
  refine lv_iload_n hx hb dX3_putLiving_27 rfl (lv_at hl 0 rfl) ?_
  exact r_i cx hr hlocks hw (pr1 h) (congrArg (fun z0 => (VC g q z0)) (pr2 h)) dX3_putLiving_28
set_option maxHeartbeats 4000000 in
set_option maxRecDepth 100000 in
theorem c_X3_sumOf (l : Launch) (g : gE) (q : Nat → Nat) (a : Nat) (na : Nat) (N : Nat) (p2 : Int32) (d : VD) (f : (Nat → Int32)) (r : Int32) (h : f_X3_sumOf N na p2 d f = some r) : MO l yX3_sumOf (Cond.code yX3_sumOf cX3_sumOf 5 (some .int) :: TB) rm_X3_sumOf [.ref (q 0), .ref a, .int p2] g ((VO g q d) ++ (ACI g a na f)) ((VO g q d) ++ (ACI g a na f)) (some (.int r)) 0 0 := by
  refine MO.of (cc := cX3_sumOf) (maxL := 5) (ret := (some .int)) (by decide) ?_
  intro p e s m below meth c cx hw hr hlocks _
  have hx := cx.1.1
  have hb := cx.1.2.1
  refine en_go (lv := [(0, .ref (q 0)), (1, .ref a), (2, .int p2)]) (Nat.le_of_ble_eq_true rfl) rfl (fun ls hl => ?_)
  have L5 : ∀ (n5 : Nat) (a2 : Int32) (a3 : Int32) (a4 : Int32) (H : Heap) (locs : List Loc) (ls : Array Slot), Wd g (va_A ((VO g q d) ++ (ACI g a na f)) s.heap.size) ((VO g q d) ++ (ACI g a na f)) s H locs → lv_has ls 5 [(0, .ref (q 0)), (1, .ref a), (2, .int a2), (3, .int a3), (4, .int a4)] → f_X3_sumOf_L5 N na d f  n5 a2 a3 a4 = some r → W p l e rm_X3_sumOf s m ([.ref (q 0), .ref a, .int p2] : List Value).toArray below meth c H locs 0 0 (MQ below (QO (some (.int r)) g ((VO g q d) ++ (ACI g a na f)) (va_A ((VO g q d) ++ (ACI g a na f)) s.heap.size)) ([.ref (q 0), .ref a, .int p2] : List Value).toArray s 0 0 (va_A ((VO g q d) ++ (ACI g a na f)) s.heap.size)) (F0 m 5 ls []) := by
    intro n5
    induction n5 with
    | zero => intro a2 a3 a4 H locs ls hw hl h; exact (Option.some_ne_none _ h.symm).elim
    | succ n5 ih5 =>
      intro a2 a3 a4 H locs ls hw hl h
      rw [f_X3_sumOf_L5] at h
      refine lv_iload hx hb dX3_sumOf_5 (lv_at hl 4 rfl) ?_
      refine lv_aload_n hx hb dX3_sumOf_7 rfl (lv_at hl 0 rfl) ?_
      refine gf_X3_63 cx hw 0 rfl rfl dX3_sumOf_8 ?_
      refine lv_icmp_ge (tgt := 36) hx hb dX3_sumOf_11 (by decide) (fun c7 => ?_) (fun c7 => ?_)
      · replace h := ite_t c7 h
        refine lv_iload_n hx hb dX3_sumOf_36 rfl (lv_at hl 3 rfl) ?_
        exact r_i cx hr hlocks hw (sm_eq h) rfl dX3_sumOf_37
      · replace h := ite_f c7 h
        refine lv_iload_n hx hb dX3_sumOf_14 rfl (lv_at hl 2 rfl) ?_
        refine lv_iload hx hb dX3_sumOf_15 (lv_at hl 4 rfl) ?_
        refine lv_ishr hx hb dX3_sumOf_17 ?_
        refine lv_iconst (v := 1) hx hb dX3_sumOf_18 (by decide) ?_
        refine lv_iand hx hb dX3_sumOf_19 ?_
        refine lv_if_eq (tgt := 30) hx hb dX3_sumOf_20 (by decide) (fun c8 => ?_) (fun c8 => ?_)
        · replace h := ite_t c8 h
          obtain ⟨x9, ex9⟩ : ∃ y : Int32, y = (a4 + 1) := ⟨_, rfl⟩
          replace h := lt_nx ex9 h
          refine lv_iinc (v := x9) (lv' := [(4, .int x9), (0, .ref (q 0)), (1, .ref a), (2, .int a2), (3, .int a3)]) hx hb dX3_sumOf_30 hl (k := 4) rfl (by rw [ex9]; rfl) (by decide) rfl (fun ls hl => ?_)
          refine lv_goto (tgt := 5) hx hb dX3_sumOf_33 (by decide) ?_
          exact ih5 a2 a3 x9 _ _ _ hw (lv_sub hl [1, 2, 3, 4, 0] rfl) h
        · replace h := ite_f c8 h
          refine lv_iload_n hx hb dX3_sumOf_23 rfl (lv_at hl 3 rfl) ?_
          refine lv_aload_n hx hb dX3_sumOf_24 rfl (lv_at hl 1 rfl) ?_
          refine lv_iload hx hb dX3_sumOf_25 (lv_at hl 4 rfl) ?_
          have ix10 := rd_in h
          refine x_iald cx hw 1 rfl ix10 dX3_sumOf_27 ?_
          refine lv_topi (fun x10 ex10 => ?_)
          replace h := rd_nx ex10 h
          refine lv_iadd hx hb dX3_sumOf_28 ?_
          refine lv_topi (fun x11 ex11 => ?_)
          replace h := lt_nx ex11 h
          refine lv_istore_n (lv' := [(3, .int x11), (0, .ref (q 0)), (1, .ref a), (2, .int a2), (4, .int a4)]) hx hb dX3_sumOf_29 rfl hl (by decide) rfl (fun ls hl => ?_)
          obtain ⟨x12, ex12⟩ : ∃ y : Int32, y = (a4 + 1) := ⟨_, rfl⟩
          replace h := lt_nx ex12 h
          refine lv_iinc (v := x12) (lv' := [(4, .int x12), (3, .int x11), (0, .ref (q 0)), (1, .ref a), (2, .int a2)]) hx hb dX3_sumOf_30 hl (k := 4) rfl (by rw [ex12]; rfl) (by decide) rfl (fun ls hl => ?_)
          refine lv_goto (tgt := 5) hx hb dX3_sumOf_33 (by decide) ?_
          exact ih5 a2 x11 x12 _ _ _ hw (lv_sub hl [2, 3, 4, 1, 0] rfl) h
  unfold f_X3_sumOf at h
  refine lv_iconst (v := 0) hx hb dX3_sumOf_0 (by decide) ?_
  refine lv_istore_n (lv' := [(3, .int (0 : Int32)), (0, .ref (q 0)), (1, .ref a), (2, .int p2)]) hx hb dX3_sumOf_1 rfl hl (by decide) rfl (fun ls hl => ?_)
  refine lv_iconst (v := 0) hx hb dX3_sumOf_2 (by decide) ?_
  refine lv_istore (lv' := [(4, .int (0 : Int32)), (3, .int (0 : Int32)), (0, .ref (q 0)), (1, .ref a), (2, .int p2)]) hx hb dX3_sumOf_3 hl (by decide) rfl (fun ls hl => ?_)
  exact L5 N p2 (0 : Int32) (0 : Int32) _ _ _ hw (lv_sub hl [2, 3, 4, 1, 0] rfl) h
set_option maxHeartbeats 4000000 in
set_option maxRecDepth 100000 in
theorem c_X3_likeness (l : Launch) (g : gE) (q : Nat → Nat) (N : Nat) (p1 : Int32) (p2 : Int32) (d : VD) (r : Int32) (h : f_X3_likeness N  p1 p2 d = some r) : MO l yX3_likeness (Cond.code yX3_likeness cX3_likeness 5 (some .int) :: TB) rm_X3_likeness [.ref (q 0), .int p1, .int p2] g ((VC g q d)) ((VC g q d)) (some (.int r)) 0 0 := by
  refine MO.of (cc := cX3_likeness) (maxL := 5) (ret := (some .int)) (by decide) ?_
  intro p e s m below meth c cx hw hr hlocks _
  have hx := cx.1.1
  have hb := cx.1.2.1
  refine en_go (lv := [(0, .ref (q 0)), (1, .int p1), (2, .int p2)]) (Nat.le_of_ble_eq_true rfl) rfl (fun ls hl => ?_)
  have J38 : ∀ (a1 : Int32) (a2 : Int32) (a3 : Int32) (H : Heap) (locs : List Loc) (ls : Array Slot), Wd g (va_A ((VC g q d)) s.heap.size) ((VC g q d)) s H locs → lv_has ls 5 [(0, .ref (q 0)), (1, .int a1), (2, .int a2), (3, .int a3)] → f_X3_likeness_J38 N d  a1 a2 a3 = some r → W p l e rm_X3_likeness s m ([.ref (q 0), .int p1, .int p2] : List Value).toArray below meth c H locs 0 0 (MQ below (QO (some (.int r)) g ((VC g q d)) (va_A ((VC g q d)) s.heap.size)) ([.ref (q 0), .int p1, .int p2] : List Value).toArray s 0 0 (va_A ((VC g q d)) s.heap.size)) (F0 m 38 ls []) := by
    intro a1 a2 a3 H locs ls hw hl h
    unfold f_X3_likeness_J38 at h
    refine lv_aload_n hx hb dX3_likeness_38 rfl (lv_at hl 0 rfl) ?_
    refine gf_X3_18 cx hw 0 rfl rfl dX3_likeness_39 ?_
    refine lv_iload_n hx hb dX3_likeness_42 rfl (lv_at hl 3 rfl) ?_
    refine lv_bipush (v := 31) hx hb dX3_likeness_43 (by decide) ?_
    refine lv_iand hx hb dX3_likeness_45 ?_
    have ix15 := rd_in h
    refine x_iald cx hw 3 rfl ix15 dX3_likeness_46 ?_
    refine lv_topi (fun x15 ex15 => ?_)
    replace h := rd_nx ex15 h
    refine lv_aload_n hx hb dX3_likeness_47 rfl (lv_at hl 0 rfl) ?_
    refine gf_X3_21 cx hw 0 rfl rfl dX3_likeness_48 ?_
    refine lv_iload_n hx hb dX3_likeness_51 rfl (lv_at hl 3 rfl) ?_
    refine lv_iconst (v := 5) hx hb dX3_likeness_52 (by decide) ?_
    refine lv_ishr hx hb dX3_likeness_53 ?_
    have ix16 := rd_in h
    refine x_iald cx hw 4 rfl ix16 dX3_likeness_54 ?_
    refine lv_topi (fun x16 ex16 => ?_)
    replace h := rd_nx ex16 h
    refine lv_iadd hx hb dX3_likeness_55 ?_
    refine lv_topi (fun x17 ex17 => ?_)
    replace h := lt_nx ex17 h
    refine lv_istore (lv' := [(4, .int x17), (0, .ref (q 0)), (1, .int a1), (2, .int a2), (3, .int a3)]) hx hb dX3_likeness_56 hl (by decide) rfl (fun ls hl => ?_)
    refine lv_aload_n hx hb dX3_likeness_58 rfl (lv_at hl 1 rfl) ?_
    refine gf_X3_70 cx hw 0 rfl rfl dX3_likeness_59 ?_
    refine lv_iconst (v := 1) hx hb dX3_likeness_62 (by decide) ?_
    refine lv_icmp_ne (tgt := 83) hx hb dX3_likeness_63 (by decide) (fun c18 => ?_) (fun c18 => ?_)
    · replace h := ite_f c18 h
      refine lv_iload hx hb dX3_likeness_83 (lv_at hl 0 rfl) ?_
      exact r_i cx hr hlocks hw (sm_eq h) rfl dX3_likeness_85
    · replace h := ite_t c18 h
      refine lv_iload_n hx hb dX3_likeness_66 rfl (lv_at hl 3 rfl) ?_
      refine lv_aload_n hx hb dX3_likeness_67 rfl (lv_at hl 1 rfl) ?_
      refine gf_X3_36 cx hw 0 rfl rfl dX3_likeness_68 ?_
      refine lv_iload_n hx hb dX3_likeness_71 rfl (lv_at hl 2 rfl) ?_
      have ix19 := rd_in h
      refine x_iald cx hw 9 rfl ix19 dX3_likeness_72 ?_
      refine lv_topi (fun x19 ex19 => ?_)
      replace h := rd_nx ex19 h
      refine lv_icmp_ne (tgt := 83) hx hb dX3_likeness_73 (by decide) (fun c20 => ?_) (fun c20 => ?_)
      · replace h := ite_f c20 h
        refine lv_iload hx hb dX3_likeness_83 (lv_at hl 0 rfl) ?_
        exact r_i cx hr hlocks hw (sm_eq h) rfl dX3_likeness_85
      · replace h := ite_t c20 h
        refine lv_iload hx hb dX3_likeness_76 (lv_at hl 0 rfl) ?_
        refine lv_iconst (v := 5) hx hb dX3_likeness_78 (by decide) ?_
        refine lv_iadd hx hb dX3_likeness_79 ?_
        refine lv_goto (tgt := 85) hx hb dX3_likeness_80 (by decide) ?_
        exact r_i cx hr hlocks hw (sm_eq h) rfl dX3_likeness_85
  unfold f_X3_likeness at h
  refine lv_sipush (v := 511) hx hb dX3_likeness_0 (by decide) ?_
  refine lv_aload_n hx hb dX3_likeness_3 rfl (lv_at hl 0 rfl) ?_
  refine gf_X3_39 cx hw 0 rfl rfl dX3_likeness_4 ?_
  refine lv_iload_n hx hb dX3_likeness_7 rfl (lv_at hl 1 rfl) ?_
  have ix1 := rd_in h
  refine x_iald cx hw 10 rfl ix1 dX3_likeness_8 ?_
  refine lv_topi (fun x1 ex1 => ?_)
  replace h := rd_nx ex1 h
  refine lv_aload_n hx hb dX3_likeness_9 rfl (lv_at hl 0 rfl) ?_
  refine gf_X3_39 cx hw 0 rfl rfl dX3_likeness_10 ?_
  refine lv_iload_n hx hb dX3_likeness_13 rfl (lv_at hl 2 rfl) ?_
  have ix2 := rd_in h
  refine x_iald cx hw 10 rfl ix2 dX3_likeness_14 ?_
  refine lv_topi (fun x2 ex2 => ?_)
  replace h := rd_nx ex2 h
  obtain ⟨x3, g4, h⟩ := bd_ex h
  refine c_SN (As := [.int x1, .int x2]) (rest := [.int (511 : Int32)]) (w' := (VC g q d)) cx hw (c_X4_unlike l g  N x1 x2  x3 g4) (cl_X3_88 cx.1.2.2.2.2 cx.2.2.1 ⟨Nat.le_of_ble_eq_true rfl, Nat.le_of_ble_eq_true rfl⟩) Ct.nil hl.1 rfl rfl (Nat.le_of_ble_eq_true rfl) dX3_likeness_15 ⟨Nat.le_of_ble_eq_true rfl, Nat.le_of_ble_eq_true rfl⟩ (st1 := [.int x3, .int (511 : Int32)]) rfl (fun H locs hw => ?_)
  refine lv_iconst (v := -1) hx hb dX3_likeness_18 (by decide) ?_
  refine lv_ixor hx hb dX3_likeness_19 ?_
  refine lv_iand hx hb dX3_likeness_20 ?_
  refine lv_topi (fun x5 ex5 => ?_)
  replace h := lt_nx ex5 h
  refine lv_istore_n (lv' := [(3, .int x5), (0, .ref (q 0)), (1, .int p1), (2, .int p2)]) hx hb dX3_likeness_21 rfl hl (by decide) rfl (fun ls hl => ?_)
  refine lv_aload_n hx hb dX3_likeness_22 rfl (lv_at hl 1 rfl) ?_
  refine gf_X3_24 cx hw 0 rfl rfl dX3_likeness_23 ?_
  refine lv_iload_n hx hb dX3_likeness_26 rfl (lv_at hl 3 rfl) ?_
  have ix6 := rd_in h
  refine x_iald cx hw 5 rfl ix6 dX3_likeness_27 ?_
  refine lv_topi (fun x6 ex6 => ?_)
  replace h := rd_nx ex6 h
  refine lv_iconst (v := 4) hx hb dX3_likeness_28 (by decide) ?_
  refine lv_icmp_ne (tgt := 38) hx hb dX3_likeness_29 (by decide) (fun c7 => ?_) (fun c7 => ?_)
  · replace h := ite_f c7 h
    exact J38 p1 p2 x5 _ _ _ hw (lv_sub hl [1, 2, 3, 0] rfl) h
  · replace h := ite_t c7 h
    refine lv_iload_n hx hb dX3_likeness_32 rfl (lv_at hl 0 rfl) ?_
    refine lv_sipush (v := 256) hx hb dX3_likeness_33 (by decide) ?_
    refine lv_ior hx hb dX3_likeness_36 ?_
    refine lv_topi (fun x8 ex8 => ?_)
    replace h := lt_nx ex8 h
    refine lv_istore_n (lv' := [(3, .int x8), (0, .ref (q 0)), (1, .int p1), (2, .int p2)]) hx hb dX3_likeness_37 rfl hl (by decide) rfl (fun ls hl => ?_)
    exact J38 p1 p2 x8 _ _ _ hw (lv_sub hl [1, 2, 3, 0] rfl) h
set_option maxHeartbeats 4000000 in
set_option maxRecDepth 100000 in
theorem c_X3_heirFor (l : Launch) (g : gE) (q : Nat → Nat) (N : Nat) (p1 : Int32) (d : VD) (r : Int32) (h : f_X3_heirFor N  p1 d = some r) : MO l yX3_heirFor (Cond.code yX3_heirFor cX3_heirFor 7 (some .int) :: TB) rm_X3_heirFor [.ref (q 0), .int p1] g ((VC g q d)) ((VC g q d)) (some (.int r)) 0 0 := by
  refine MO.of (cc := cX3_heirFor) (maxL := 7) (ret := (some .int)) (by decide) ?_
  intro p e s m below meth c cx hw hr hlocks _
  have hx := cx.1.1
  have hb := cx.1.2.1
  refine en_go (lv := [(0, .ref (q 0)), (1, .int p1)]) (Nat.le_of_ble_eq_true rfl) rfl (fun ls hl => ?_)
  have L10 : ∀ (n10 : Nat) (a1 : Int32) (a2 : Int32) (a3 : Int32) (a4 : Int32) (a5 : Int32) (H : Heap) (locs : List Loc) (ls : Array Slot), Wd g (va_A ((VC g q d)) s.heap.size) ((VC g q d)) s H locs → lv_has ls 7 [(0, .ref (q 0)), (1, .int a1), (2, .int a2), (3, .int a3), (4, .int a4), (5, .int a5)] → f_X3_heirFor_L10 N d  n10 a1 a2 a3 a4 a5 = some r → W p l e rm_X3_heirFor s m ([.ref (q 0), .int p1] : List Value).toArray below meth c H locs 0 0 (MQ below (QO (some (.int r)) g ((VC g q d)) (va_A ((VC g q d)) s.heap.size)) ([.ref (q 0), .int p1] : List Value).toArray s 0 0 (va_A ((VC g q d)) s.heap.size)) (F0 m 10 ls []) := by
    intro n10
    induction n10 with
    | zero => intro a1 a2 a3 a4 a5 H locs ls hw hl h; exact (Option.some_ne_none _ h.symm).elim
    | succ n10 ih10 =>
      have J70 : ∀ (a1 : Int32) (a5 : Int32) (a6 : Int32) (H : Heap) (locs : List Loc) (ls : Array Slot), Wd g (va_A ((VC g q d)) s.heap.size) ((VC g q d)) s H locs → lv_has ls 7 [(0, .ref (q 0)), (1, .int a1), (5, .int a5), (6, .int a6)] → f_X3_heirFor_J70 N d (f_X3_heirFor_L10 N d  n10) a1 a5 a6 = some r → W p l e rm_X3_heirFor s m ([.ref (q 0), .int p1] : List Value).toArray below meth c H locs 0 0 (MQ below (QO (some (.int r)) g ((VC g q d)) (va_A ((VC g q d)) s.heap.size)) ([.ref (q 0), .int p1] : List Value).toArray s 0 0 (va_A ((VC g q d)) s.heap.size)) (F0 m 70 ls []) := by
        intro a1 a5 a6 H locs ls hw hl h
        unfold f_X3_heirFor_J70 at h
        refine lv_iload hx hb dX3_heirFor_70 (lv_at hl 2 rfl) ?_
        refine lv_istore_n (lv' := [(2, .int a5), (0, .ref (q 0)), (1, .int a1), (5, .int a5), (6, .int a6)]) hx hb dX3_heirFor_72 rfl hl (by decide) rfl (fun ls hl => ?_)
        refine lv_iload hx hb dX3_heirFor_73 (lv_at hl 4 rfl) ?_
        refine lv_istore_n (lv' := [(3, .int a6), (2, .int a5), (0, .ref (q 0)), (1, .int a1), (5, .int a5), (6, .int a6)]) hx hb dX3_heirFor_75 rfl hl (by decide) rfl (fun ls hl => ?_)
        refine lv_aload_n hx hb dX3_heirFor_76 rfl (lv_at hl 2 rfl) ?_
        refine gf_X3_27 cx hw 0 rfl rfl dX3_heirFor_77 ?_
        refine lv_iload hx hb dX3_heirFor_80 (lv_at hl 4 rfl) ?_
        have ix18 := rd_in h
        refine x_iald cx hw 6 rfl ix18 dX3_heirFor_82 ?_
        refine lv_topi (fun x18 ex18 => ?_)
        replace h := rd_nx ex18 h
        refine lv_istore (lv' := [(4, .int x18), (3, .int a6), (2, .int a5), (0, .ref (q 0)), (1, .int a1), (5, .int a5), (6, .int a6)]) hx hb dX3_heirFor_83 hl (by decide) rfl (fun ls hl => ?_)
        obtain ⟨x19, ex19⟩ : ∃ y : Int32, y = (a5 + 1) := ⟨_, rfl⟩
        replace h := lt_nx ex19 h
        refine lv_iinc (v := x19) (lv' := [(5, .int x19), (4, .int x18), (3, .int a6), (2, .int a5), (0, .ref (q 0)), (1, .int a1), (6, .int a6)]) hx hb dX3_heirFor_85 hl (k := 5) rfl (by rw [ex19]; rfl) (by decide) rfl (fun ls hl => ?_)
        refine lv_goto (tgt := 10) hx hb dX3_heirFor_88 (by decide) ?_
        exact ih10 a1 a5 a6 x18 x19 _ _ _ hw (lv_sub hl [4, 5, 3, 2, 1, 0] rfl) h
      intro a1 a2 a3 a4 a5 H locs ls hw hl h
      rw [f_X3_heirFor_L10] at h
      refine lv_iload hx hb dX3_heirFor_10 (lv_at hl 5 rfl) ?_
      refine lv_aload_n hx hb dX3_heirFor_12 rfl (lv_at hl 0 rfl) ?_
      refine gf_X3_63 cx hw 0 rfl rfl dX3_heirFor_13 ?_
      refine lv_icmp_ge (tgt := 91) hx hb dX3_heirFor_16 (by decide) (fun c20 => ?_) (fun c20 => ?_)
      · replace h := ite_t c20 h
        refine lv_iload_n hx hb dX3_heirFor_91 rfl (lv_at hl 2 rfl) ?_
        exact r_i cx hr hlocks hw (sm_eq h) rfl dX3_heirFor_92
      · replace h := ite_f c20 h
        refine lv_iload hx hb dX3_heirFor_19 (lv_at hl 5 rfl) ?_
        refine lv_iload_n hx hb dX3_heirFor_21 rfl (lv_at hl 1 rfl) ?_
        refine lv_icmp_eq (tgt := 85) hx hb dX3_heirFor_22 (by decide) (fun c21 => ?_) (fun c21 => ?_)
        · replace h := ite_t c21 h
          obtain ⟨x22, ex22⟩ : ∃ y : Int32, y = (a5 + 1) := ⟨_, rfl⟩
          replace h := lt_nx ex22 h
          refine lv_iinc (v := x22) (lv' := [(5, .int x22), (0, .ref (q 0)), (1, .int a1), (2, .int a2), (3, .int a3), (4, .int a4)]) hx hb dX3_heirFor_85 hl (k := 5) rfl (by rw [ex22]; rfl) (by decide) rfl (fun ls hl => ?_)
          refine lv_goto (tgt := 10) hx hb dX3_heirFor_88 (by decide) ?_
          exact ih10 a1 a2 a3 a4 x22 _ _ _ hw (lv_sub hl [1, 2, 3, 4, 5, 0] rfl) h
        · replace h := ite_f c21 h
          refine lv_aload_n hx hb dX3_heirFor_25 rfl (lv_at hl 0 rfl) ?_
          refine lv_iload hx hb dX3_heirFor_26 (lv_at hl 5 rfl) ?_
          obtain ⟨x23, g24, h⟩ := bd_ex h
          refine c_V (As := [.int a5]) (rest := []) (w' := (VC g q d)) cx hw (c_X3_lives l g q N a5 d x23 g24) (cl_X3_92 cx.1.2.2.2.2 ⟨Nat.le_of_ble_eq_true rfl, Nat.le_of_ble_eq_true rfl⟩) (x_recv cx hw (ci := 3) rfl 0 rfl) (Ct.all (VC_ll ..)) hl.1 rfl rfl (Nat.le_of_ble_eq_true rfl) dX3_heirFor_28 ⟨Nat.le_of_ble_eq_true rfl, Nat.le_of_ble_eq_true rfl⟩ (st1 := [.int x23]) rfl (fun H locs hw => ?_)
          refine lv_if_ne (tgt := 37) hx hb dX3_heirFor_31 (by decide) (fun c25 => ?_) (fun c25 => ?_)
          · replace h := ite_f c25 h
            refine lv_aload_n hx hb dX3_heirFor_37 rfl (lv_at hl 0 rfl) ?_
            refine lv_iload_n hx hb dX3_heirFor_38 rfl (lv_at hl 1 rfl) ?_
            refine lv_iload hx hb dX3_heirFor_39 (lv_at hl 5 rfl) ?_
            obtain ⟨x26, g27, h⟩ := bd_ex h
            refine c_V (As := [.int a1, .int a5]) (rest := []) (w' := (VC g q d)) cx hw (c_X3_likeness l g q N a1 a5 d x26 g27) (cl_X3_96 cx.1.2.2.2.2 ⟨Nat.le_of_ble_eq_true rfl, Nat.le_of_ble_eq_true rfl⟩) (x_recv cx hw (ci := 3) rfl 0 rfl) (Ct.all (VC_ll ..)) hl.1 rfl rfl (Nat.le_of_ble_eq_true rfl) dX3_heirFor_41 ⟨Nat.le_of_ble_eq_true rfl, Nat.le_of_ble_eq_true rfl⟩ (st1 := [.int x26]) rfl (fun H locs hw => ?_)
            refine lv_istore (lv' := [(6, .int x26), (0, .ref (q 0)), (1, .int a1), (2, .int a2), (3, .int a3), (4, .int a4), (5, .int a5)]) hx hb dX3_heirFor_44 hl (by decide) rfl (fun ls hl => ?_)
            refine lv_iload hx hb dX3_heirFor_46 (lv_at hl 0 rfl) ?_
            refine lv_iload_n hx hb dX3_heirFor_48 rfl (lv_at hl 4 rfl) ?_
            refine lv_icmp_gt (tgt := 70) hx hb dX3_heirFor_49 (by decide) (fun c28 => ?_) (fun c28 => ?_)
            · replace h := ite_t c28 h
              exact J70 a1 a5 x26 _ _ _ hw (lv_sub hl [1, 2, 6, 0] rfl) h
            · replace h := ite_f c28 h
              refine lv_iload hx hb dX3_heirFor_52 (lv_at hl 0 rfl) ?_
              refine lv_iload_n hx hb dX3_heirFor_54 rfl (lv_at hl 4 rfl) ?_
              refine lv_icmp_ne (tgt := 85) hx hb dX3_heirFor_55 (by decide) (fun c29 => ?_) (fun c29 => ?_)
              · replace h := ite_f c29 h
                obtain ⟨x30, ex30⟩ : ∃ y : Int32, y = (a5 + 1) := ⟨_, rfl⟩
                replace h := lt_nx ex30 h
                refine lv_iinc (v := x30) (lv' := [(5, .int x30), (6, .int x26), (0, .ref (q 0)), (1, .int a1), (2, .int a2), (3, .int a3), (4, .int a4)]) hx hb dX3_heirFor_85 hl (k := 6) rfl (by rw [ex30]; rfl) (by decide) rfl (fun ls hl => ?_)
                refine lv_goto (tgt := 10) hx hb dX3_heirFor_88 (by decide) ?_
                exact ih10 a1 a2 a3 a4 x30 _ _ _ hw (lv_sub hl [2, 3, 4, 5, 6, 0] rfl) h
              · replace h := ite_t c29 h
                refine lv_aload_n hx hb dX3_heirFor_58 rfl (lv_at hl 1 rfl) ?_
                refine gf_X3_27 cx hw 0 rfl rfl dX3_heirFor_59 ?_
                refine lv_iload hx hb dX3_heirFor_62 (lv_at hl 6 rfl) ?_
                have ix31 := rd_in h
                refine x_iald cx hw 6 rfl ix31 dX3_heirFor_64 ?_
                refine lv_topi (fun x31 ex31 => ?_)
                replace h := rd_nx ex31 h
                refine lv_iload hx hb dX3_heirFor_65 (lv_at hl 5 rfl) ?_
                refine lv_icmp_le (tgt := 85) hx hb dX3_heirFor_67 (by decide) (fun c32 => ?_) (fun c32 => ?_)
                · replace h := ite_t c32 h
                  obtain ⟨x33, ex33⟩ : ∃ y : Int32, y = (a5 + 1) := ⟨_, rfl⟩
                  replace h := lt_nx ex33 h
                  refine lv_iinc (v := x33) (lv' := [(5, .int x33), (6, .int x26), (0, .ref (q 0)), (1, .int a1), (2, .int a2), (3, .int a3), (4, .int a4)]) hx hb dX3_heirFor_85 hl (k := 6) rfl (by rw [ex33]; rfl) (by decide) rfl (fun ls hl => ?_)
                  refine lv_goto (tgt := 10) hx hb dX3_heirFor_88 (by decide) ?_
                  exact ih10 a1 a2 a3 a4 x33 _ _ _ hw (lv_sub hl [2, 3, 4, 5, 6, 0] rfl) h
                · replace h := ite_f c32 h
                  exact J70 a1 a5 x26 _ _ _ hw (lv_sub hl [1, 2, 6, 0] rfl) h
          · replace h := ite_t c25 h
            refine lv_goto (tgt := 85) hx hb dX3_heirFor_34 (by decide) ?_
            obtain ⟨x34, ex34⟩ : ∃ y : Int32, y = (a5 + 1) := ⟨_, rfl⟩
            replace h := lt_nx ex34 h
            refine lv_iinc (v := x34) (lv' := [(5, .int x34), (0, .ref (q 0)), (1, .int a1), (2, .int a2), (3, .int a3), (4, .int a4)]) hx hb dX3_heirFor_85 hl (k := 5) rfl (by rw [ex34]; rfl) (by decide) rfl (fun ls hl => ?_)
            refine lv_goto (tgt := 10) hx hb dX3_heirFor_88 (by decide) ?_
            exact ih10 a1 a2 a3 a4 x34 _ _ _ hw (lv_sub hl [1, 2, 3, 4, 5, 0] rfl) h
  unfold f_X3_heirFor at h
  refine lv_iconst (v := -1) hx hb dX3_heirFor_0 (by decide) ?_
  refine lv_istore_n (lv' := [(2, .int (-1 : Int32)), (0, .ref (q 0)), (1, .int p1)]) hx hb dX3_heirFor_1 rfl hl (by decide) rfl (fun ls hl => ?_)
  refine lv_iconst (v := -1) hx hb dX3_heirFor_2 (by decide) ?_
  refine lv_istore_n (lv' := [(3, .int (-1 : Int32)), (2, .int (-1 : Int32)), (0, .ref (q 0)), (1, .int p1)]) hx hb dX3_heirFor_3 rfl hl (by decide) rfl (fun ls hl => ?_)
  refine lv_iconst (v := -1) hx hb dX3_heirFor_4 (by decide) ?_
  refine lv_istore (lv' := [(4, .int (-1 : Int32)), (3, .int (-1 : Int32)), (2, .int (-1 : Int32)), (0, .ref (q 0)), (1, .int p1)]) hx hb dX3_heirFor_5 hl (by decide) rfl (fun ls hl => ?_)
  refine lv_iconst (v := 0) hx hb dX3_heirFor_7 (by decide) ?_
  refine lv_istore (lv' := [(5, .int (0 : Int32)), (4, .int (-1 : Int32)), (3, .int (-1 : Int32)), (2, .int (-1 : Int32)), (0, .ref (q 0)), (1, .int p1)]) hx hb dX3_heirFor_8 hl (by decide) rfl (fun ls hl => ?_)
  exact L10 N p1 (-1 : Int32) (-1 : Int32) (-1 : Int32) (0 : Int32) _ _ _ hw (lv_sub hl [4, 5, 3, 2, 1, 0] rfl) h
set_option maxHeartbeats 4000000 in
set_option maxRecDepth 100000 in
theorem c_X3_heirOfStranger (l : Launch) (g : gE) (q : Nat → Nat) (N : Nat) (p1 : Int32) (d : VD) (r : Int32) (d' : VD) (h : f_X3_heirOfStranger N  p1 d = some (r, d')) : MO l yX3_heirOfStranger (Cond.code yX3_heirOfStranger cX3_heirOfStranger 2 (some .int) :: TB) rm_X3_heirOfStranger [.ref (q 0), .int p1] g ((VC g q d)) ((VC g q d')) (some (.int r)) 0 0 := by
  refine MO.of (cc := cX3_heirOfStranger) (maxL := 2) (ret := (some .int)) (by decide) ?_
  intro p e s m below meth c cx hw hr hlocks _
  have hx := cx.1.1
  have hb := cx.1.2.1
  refine en_go (lv := [(0, .ref (q 0)), (1, .int p1)]) (Nat.le_of_ble_eq_true rfl) rfl (fun ls hl => ?_)
  unfold f_X3_heirOfStranger at h
  refine lv_aload_n hx hb dX3_heirOfStranger_0 rfl (lv_at hl 0 rfl) ?_
  refine gf_X3_39 cx hw 0 rfl rfl dX3_heirOfStranger_1 ?_
  refine lv_bipush (v := 12) hx hb dX3_heirOfStranger_4 (by decide) ?_
  refine lv_iload_n hx hb dX3_heirOfStranger_6 rfl (lv_at hl 1 rfl) ?_
  have i1 := ck_in h
  replace h := ck_nx h
  refine x_iast cx hw 10 rfl i1 dX3_heirOfStranger_7 (fun H locs hw => ?_)
  obtain ⟨d2, ed2, h⟩ := lt_ex h
  have hw : Wd g (va_A ((VC g q d)) s.heap.size) ((VC g q d2)) s H locs := by rw [ed2]; exact hw
  refine lv_aload_n hx hb dX3_heirOfStranger_8 rfl (lv_at hl 0 rfl) ?_
  refine lv_bipush (v := 12) hx hb dX3_heirOfStranger_9 (by decide) ?_
  obtain ⟨x3, g4, h⟩ := bd_ex h
  refine c_V (As := [.int (12 : Int32)]) (rest := []) (w' := (VC g q d2)) cx hw (c_X3_heirFor l g q N (12 : Int32) d2 x3 g4) (cl_X3_99 cx.1.2.2.2.2 ⟨Nat.le_of_ble_eq_true rfl, Nat.le_of_ble_eq_true rfl⟩) (x_recv cx hw (ci := 3) rfl 0 rfl) (Ct.all (VC_ll ..)) hl.1 rfl rfl (Nat.le_of_ble_eq_true rfl) dX3_heirOfStranger_11 ⟨Nat.le_of_ble_eq_true rfl, Nat.le_of_ble_eq_true rfl⟩ (st1 := [.int x3]) rfl (fun H locs hw => ?_)
  exact r_i cx hr hlocks hw (pr1 h) (congrArg (fun z0 => (VC g q z0)) (pr2 h)) dX3_heirOfStranger_14
set_option maxHeartbeats 4000000 in
set_option maxRecDepth 100000 in
theorem c_X3_leaversTo (l : Launch) (g : gE) (q : Nat → Nat) (N : Nat) (p1 : Int32) (d : VD) (r : Int32) (h : f_X3_leaversTo N  p1 d = some r) : MO l yX3_leaversTo (Cond.code yX3_leaversTo cX3_leaversTo 4 (some .int) :: TB) rm_X3_leaversTo [.ref (q 0), .int p1] g ((VC g q d)) ((VC g q d)) (some (.int r)) 0 0 := by
  refine MO.of (cc := cX3_leaversTo) (maxL := 4) (ret := (some .int)) (by decide) ?_
  intro p e s m below meth c cx hw hr hlocks _
  have hx := cx.1.1
  have hb := cx.1.2.1
  refine en_go (lv := [(0, .ref (q 0)), (1, .int p1)]) (Nat.le_of_ble_eq_true rfl) rfl (fun ls hl => ?_)
  have L4 : ∀ (n4 : Nat) (a1 : Int32) (a2 : Int32) (a3 : Int32) (H : Heap) (locs : List Loc) (ls : Array Slot), Wd g (va_A ((VC g q d)) s.heap.size) ((VC g q d)) s H locs → lv_has ls 4 [(0, .ref (q 0)), (1, .int a1), (2, .int a2), (3, .int a3)] → f_X3_leaversTo_L4 N d  n4 a1 a2 a3 = some r → W p l e rm_X3_leaversTo s m ([.ref (q 0), .int p1] : List Value).toArray below meth c H locs 0 0 (MQ below (QO (some (.int r)) g ((VC g q d)) (va_A ((VC g q d)) s.heap.size)) ([.ref (q 0), .int p1] : List Value).toArray s 0 0 (va_A ((VC g q d)) s.heap.size)) (F0 m 4 ls []) := by
    intro n4
    induction n4 with
    | zero => intro a1 a2 a3 H locs ls hw hl h; exact (Option.some_ne_none _ h.symm).elim
    | succ n4 ih4 =>
      intro a1 a2 a3 H locs ls hw hl h
      rw [f_X3_leaversTo_L4] at h
      refine lv_iload_n hx hb dX3_leaversTo_4 rfl (lv_at hl 3 rfl) ?_
      refine lv_aload_n hx hb dX3_leaversTo_5 rfl (lv_at hl 0 rfl) ?_
      refine gf_X3_63 cx hw 0 rfl rfl dX3_leaversTo_6 ?_
      refine lv_icmp_ge (tgt := 41) hx hb dX3_leaversTo_9 (by decide) (fun c12 => ?_) (fun c12 => ?_)
      · replace h := ite_t c12 h
        refine lv_iload_n hx hb dX3_leaversTo_41 rfl (lv_at hl 2 rfl) ?_
        exact r_i cx hr hlocks hw (sm_eq h) rfl dX3_leaversTo_42
      · replace h := ite_f c12 h
        refine lv_aload_n hx hb dX3_leaversTo_12 rfl (lv_at hl 0 rfl) ?_
        refine lv_iload_n hx hb dX3_leaversTo_13 rfl (lv_at hl 3 rfl) ?_
        obtain ⟨x13, g14, h⟩ := bd_ex h
        refine c_V (As := [.int a3]) (rest := []) (w' := (VC g q d)) cx hw (c_X3_lives l g q N a3 d x13 g14) (cl_X3_92 cx.1.2.2.2.2 ⟨Nat.le_of_ble_eq_true rfl, Nat.le_of_ble_eq_true rfl⟩) (x_recv cx hw (ci := 3) rfl 0 rfl) (Ct.all (VC_ll ..)) hl.1 rfl rfl (Nat.le_of_ble_eq_true rfl) dX3_leaversTo_14 ⟨Nat.le_of_ble_eq_true rfl, Nat.le_of_ble_eq_true rfl⟩ (st1 := [.int x13]) rfl (fun H locs hw => ?_)
        refine lv_if_eq (tgt := 35) hx hb dX3_leaversTo_17 (by decide) (fun c15 => ?_) (fun c15 => ?_)
        · replace h := ite_t c15 h
          obtain ⟨x16, ex16⟩ : ∃ y : Int32, y = (a3 + 1) := ⟨_, rfl⟩
          replace h := lt_nx ex16 h
          refine lv_iinc (v := x16) (lv' := [(3, .int x16), (0, .ref (q 0)), (1, .int a1), (2, .int a2)]) hx hb dX3_leaversTo_35 hl (k := 3) rfl (by rw [ex16]; rfl) (by decide) rfl (fun ls hl => ?_)
          refine lv_goto (tgt := 4) hx hb dX3_leaversTo_38 (by decide) ?_
          exact ih4 a1 a2 x16 _ _ _ hw (lv_sub hl [1, 2, 3, 0] rfl) h
        · replace h := ite_f c15 h
          refine lv_aload_n hx hb dX3_leaversTo_20 rfl (lv_at hl 0 rfl) ?_
          refine lv_iload_n hx hb dX3_leaversTo_21 rfl (lv_at hl 3 rfl) ?_
          obtain ⟨x17, g18, h⟩ := bd_ex h
          refine c_V (As := [.int a3]) (rest := []) (w' := (VC g q d)) cx hw (c_X3_heirFor l g q N a3 d x17 g18) (cl_X3_99 cx.1.2.2.2.2 ⟨Nat.le_of_ble_eq_true rfl, Nat.le_of_ble_eq_true rfl⟩) (x_recv cx hw (ci := 3) rfl 0 rfl) (Ct.all (VC_ll ..)) hl.1 rfl rfl (Nat.le_of_ble_eq_true rfl) dX3_leaversTo_22 ⟨Nat.le_of_ble_eq_true rfl, Nat.le_of_ble_eq_true rfl⟩ (st1 := [.int x17]) rfl (fun H locs hw => ?_)
          refine lv_iload_n hx hb dX3_leaversTo_25 rfl (lv_at hl 1 rfl) ?_
          refine lv_icmp_ne (tgt := 35) hx hb dX3_leaversTo_26 (by decide) (fun c19 => ?_) (fun c19 => ?_)
          · replace h := ite_f c19 h
            obtain ⟨x20, ex20⟩ : ∃ y : Int32, y = (a3 + 1) := ⟨_, rfl⟩
            replace h := lt_nx ex20 h
            refine lv_iinc (v := x20) (lv' := [(3, .int x20), (0, .ref (q 0)), (1, .int a1), (2, .int a2)]) hx hb dX3_leaversTo_35 hl (k := 3) rfl (by rw [ex20]; rfl) (by decide) rfl (fun ls hl => ?_)
            refine lv_goto (tgt := 4) hx hb dX3_leaversTo_38 (by decide) ?_
            exact ih4 a1 a2 x20 _ _ _ hw (lv_sub hl [1, 2, 3, 0] rfl) h
          · replace h := ite_t c19 h
            refine lv_iload_n hx hb dX3_leaversTo_29 rfl (lv_at hl 2 rfl) ?_
            refine lv_iconst (v := 1) hx hb dX3_leaversTo_30 (by decide) ?_
            refine lv_iload_n hx hb dX3_leaversTo_31 rfl (lv_at hl 3 rfl) ?_
            refine lv_ishl hx hb dX3_leaversTo_32 ?_
            refine lv_ior hx hb dX3_leaversTo_33 ?_
            refine lv_topi (fun x21 ex21 => ?_)
            replace h := lt_nx ex21 h
            refine lv_istore_n (lv' := [(2, .int x21), (0, .ref (q 0)), (1, .int a1), (3, .int a3)]) hx hb dX3_leaversTo_34 rfl hl (by decide) rfl (fun ls hl => ?_)
            obtain ⟨x22, ex22⟩ : ∃ y : Int32, y = (a3 + 1) := ⟨_, rfl⟩
            replace h := lt_nx ex22 h
            refine lv_iinc (v := x22) (lv' := [(3, .int x22), (2, .int x21), (0, .ref (q 0)), (1, .int a1)]) hx hb dX3_leaversTo_35 hl (k := 3) rfl (by rw [ex22]; rfl) (by decide) rfl (fun ls hl => ?_)
            refine lv_goto (tgt := 4) hx hb dX3_leaversTo_38 (by decide) ?_
            exact ih4 a1 x21 x22 _ _ _ hw (lv_sub hl [2, 3, 1, 0] rfl) h
  unfold f_X3_leaversTo at h
  refine lv_iconst (v := 0) hx hb dX3_leaversTo_0 (by decide) ?_
  refine lv_istore_n (lv' := [(2, .int (0 : Int32)), (0, .ref (q 0)), (1, .int p1)]) hx hb dX3_leaversTo_1 rfl hl (by decide) rfl (fun ls hl => ?_)
  refine lv_iconst (v := 0) hx hb dX3_leaversTo_2 (by decide) ?_
  refine lv_istore_n (lv' := [(3, .int (0 : Int32)), (2, .int (0 : Int32)), (0, .ref (q 0)), (1, .int p1)]) hx hb dX3_leaversTo_3 rfl hl (by decide) rfl (fun ls hl => ?_)
  exact L4 N p1 (0 : Int32) (0 : Int32) _ _ _ hw (lv_sub hl [2, 3, 1, 0] rfl) h
set_option maxHeartbeats 4000000 in
set_option maxRecDepth 100000 in
theorem c_X3_expectedBy (l : Launch) (g : gE) (q : Nat → Nat) (N : Nat) (p1 : Int32) (d : VD) (r : Int32) (h : f_X3_expectedBy N  p1 d = some r) : MO l yX3_expectedBy (Cond.code yX3_expectedBy cX3_expectedBy 2 (some .int) :: TB) rm_X3_expectedBy [.ref (q 0), .int p1] g ((VC g q d)) ((VC g q d)) (some (.int r)) 0 0 := by
  refine MO.of (cc := cX3_expectedBy) (maxL := 2) (ret := (some .int)) (by decide) ?_
  intro p e s m below meth c cx hw hr hlocks _
  have hx := cx.1.1
  have hb := cx.1.2.1
  refine en_go (lv := [(0, .ref (q 0)), (1, .int p1)]) (Nat.le_of_ble_eq_true rfl) rfl (fun ls hl => ?_)
  unfold f_X3_expectedBy at h
  refine lv_aload_n hx hb dX3_expectedBy_0 rfl (lv_at hl 0 rfl) ?_
  refine lv_aload_n hx hb dX3_expectedBy_1 rfl (lv_at hl 0 rfl) ?_
  refine gf_X3_30 cx hw 0 rfl rfl dX3_expectedBy_2 ?_
  refine lv_aload_n hx hb dX3_expectedBy_5 rfl (lv_at hl 0 rfl) ?_
  refine lv_iload_n hx hb dX3_expectedBy_6 rfl (lv_at hl 1 rfl) ?_
  obtain ⟨x1, g2, h⟩ := bd_ex h
  refine c_V (As := [.int p1]) (rest := [.ref (q 7), .ref (q 0)]) (w' := (VC g q d)) cx hw (c_X3_leaversTo l g q N p1 d x1 g2) (cl_X3_102 cx.1.2.2.2.2 ⟨Nat.le_of_ble_eq_true rfl, Nat.le_of_ble_eq_true rfl⟩) (x_recv cx hw (ci := 3) rfl 0 rfl) (Ct.all (VC_ll ..)) hl.1 rfl rfl (Nat.le_of_ble_eq_true rfl) dX3_expectedBy_7 ⟨Nat.le_of_ble_eq_true rfl, Nat.le_of_ble_eq_true rfl⟩ (st1 := [.int x1, .ref (q 7), .ref (q 0)]) rfl (fun H locs hw => ?_)
  obtain ⟨x3, g4, h⟩ := bd_ex h
  refine c_V (As := [.ref (q 7), .int x1]) (rest := []) (w' := (VC g q d)) cx hw (c_X3_sumOf l g q (q 7) 12 N x1 d (v_goods d) x3 g4) (cl_X3_105 cx.1.2.2.2.2 ⟨Nat.le_of_ble_eq_true rfl, Nat.le_of_ble_eq_true rfl⟩) (x_recv cx hw (ci := 3) rfl 0 rfl) (ctV_OA_7 ..) hl.1 rfl rfl (Nat.le_of_ble_eq_true rfl) dX3_expectedBy_10 ⟨Nat.le_of_ble_eq_true rfl, Nat.le_of_ble_eq_true rfl⟩ (st1 := [.int x3]) rfl (fun H locs hw => ?_)
  exact r_i cx hr hlocks hw (sm_eq h) rfl dX3_expectedBy_13
set_option maxHeartbeats 4000000 in
set_option maxRecDepth 100000 in
theorem c_X3_richestBut (l : Launch) (g : gE) (q : Nat → Nat) (N : Nat) (p1 : Int32) (d : VD) (r : Int32) (h : f_X3_richestBut N  p1 d = some r) : MO l yX3_richestBut (Cond.code yX3_richestBut cX3_richestBut 5 (some .int) :: TB) rm_X3_richestBut [.ref (q 0), .int p1] g ((VC g q d)) ((VC g q d)) (some (.int r)) 0 0 := by
  refine MO.of (cc := cX3_richestBut) (maxL := 5) (ret := (some .int)) (by decide) ?_
  intro p e s m below meth c cx hw hr hlocks _
  have hx := cx.1.1
  have hb := cx.1.2.1
  refine en_go (lv := [(0, .ref (q 0)), (1, .int p1)]) (Nat.le_of_ble_eq_true rfl) rfl (fun ls hl => ?_)
  have L7 : ∀ (n7 : Nat) (a1 : Int32) (a2 : Int32) (a3 : Int32) (a4 : Int32) (H : Heap) (locs : List Loc) (ls : Array Slot), Wd g (va_A ((VC g q d)) s.heap.size) ((VC g q d)) s H locs → lv_has ls 5 [(0, .ref (q 0)), (1, .int a1), (2, .int a2), (3, .int a3), (4, .int a4)] → f_X3_richestBut_L7 N d  n7 a1 a2 a3 a4 = some r → W p l e rm_X3_richestBut s m ([.ref (q 0), .int p1] : List Value).toArray below meth c H locs 0 0 (MQ below (QO (some (.int r)) g ((VC g q d)) (va_A ((VC g q d)) s.heap.size)) ([.ref (q 0), .int p1] : List Value).toArray s 0 0 (va_A ((VC g q d)) s.heap.size)) (F0 m 7 ls []) := by
    intro n7
    induction n7 with
    | zero => intro a1 a2 a3 a4 H locs ls hw hl h; exact (Option.some_ne_none _ h.symm).elim
    | succ n7 ih7 =>
      intro a1 a2 a3 a4 H locs ls hw hl h
      rw [f_X3_richestBut_L7] at h
      refine lv_iload hx hb dX3_richestBut_7 (lv_at hl 4 rfl) ?_
      refine lv_aload_n hx hb dX3_richestBut_9 rfl (lv_at hl 0 rfl) ?_
      refine gf_X3_63 cx hw 0 rfl rfl dX3_richestBut_10 ?_
      refine lv_icmp_ge (tgt := 59) hx hb dX3_richestBut_13 (by decide) (fun c13 => ?_) (fun c13 => ?_)
      · replace h := ite_t c13 h
        refine lv_iload_n hx hb dX3_richestBut_59 rfl (lv_at hl 2 rfl) ?_
        exact r_i cx hr hlocks hw (sm_eq h) rfl dX3_richestBut_60
      · replace h := ite_f c13 h
        refine lv_iload hx hb dX3_richestBut_16 (lv_at hl 4 rfl) ?_
        refine lv_iload_n hx hb dX3_richestBut_18 rfl (lv_at hl 1 rfl) ?_
        refine lv_icmp_eq (tgt := 53) hx hb dX3_richestBut_19 (by decide) (fun c14 => ?_) (fun c14 => ?_)
        · replace h := ite_t c14 h
          obtain ⟨x15, ex15⟩ : ∃ y : Int32, y = (a4 + 1) := ⟨_, rfl⟩
          replace h := lt_nx ex15 h
          refine lv_iinc (v := x15) (lv' := [(4, .int x15), (0, .ref (q 0)), (1, .int a1), (2, .int a2), (3, .int a3)]) hx hb dX3_richestBut_53 hl (k := 4) rfl (by rw [ex15]; rfl) (by decide) rfl (fun ls hl => ?_)
          refine lv_goto (tgt := 7) hx hb dX3_richestBut_56 (by decide) ?_
          exact ih7 a1 a2 a3 x15 _ _ _ hw (lv_sub hl [1, 2, 3, 4, 0] rfl) h
        · replace h := ite_f c14 h
          refine lv_aload_n hx hb dX3_richestBut_22 rfl (lv_at hl 0 rfl) ?_
          refine lv_iload hx hb dX3_richestBut_23 (lv_at hl 4 rfl) ?_
          obtain ⟨x16, g17, h⟩ := bd_ex h
          refine c_V (As := [.int a4]) (rest := []) (w' := (VC g q d)) cx hw (c_X3_lives l g q N a4 d x16 g17) (cl_X3_92 cx.1.2.2.2.2 ⟨Nat.le_of_ble_eq_true rfl, Nat.le_of_ble_eq_true rfl⟩) (x_recv cx hw (ci := 3) rfl 0 rfl) (Ct.all (VC_ll ..)) hl.1 rfl rfl (Nat.le_of_ble_eq_true rfl) dX3_richestBut_25 ⟨Nat.le_of_ble_eq_true rfl, Nat.le_of_ble_eq_true rfl⟩ (st1 := [.int x16]) rfl (fun H locs hw => ?_)
          refine lv_if_eq (tgt := 53) hx hb dX3_richestBut_28 (by decide) (fun c18 => ?_) (fun c18 => ?_)
          · replace h := ite_t c18 h
            obtain ⟨x19, ex19⟩ : ∃ y : Int32, y = (a4 + 1) := ⟨_, rfl⟩
            replace h := lt_nx ex19 h
            refine lv_iinc (v := x19) (lv' := [(4, .int x19), (0, .ref (q 0)), (1, .int a1), (2, .int a2), (3, .int a3)]) hx hb dX3_richestBut_53 hl (k := 4) rfl (by rw [ex19]; rfl) (by decide) rfl (fun ls hl => ?_)
            refine lv_goto (tgt := 7) hx hb dX3_richestBut_56 (by decide) ?_
            exact ih7 a1 a2 a3 x19 _ _ _ hw (lv_sub hl [1, 2, 3, 4, 0] rfl) h
          · replace h := ite_f c18 h
            refine lv_aload_n hx hb dX3_richestBut_31 rfl (lv_at hl 0 rfl) ?_
            refine gf_X3_30 cx hw 0 rfl rfl dX3_richestBut_32 ?_
            refine lv_iload hx hb dX3_richestBut_35 (lv_at hl 4 rfl) ?_
            have ix20 := rd_in h
            refine x_iald cx hw 7 rfl ix20 dX3_richestBut_37 ?_
            refine lv_topi (fun x20 ex20 => ?_)
            replace h := rd_nx ex20 h
            refine lv_iload_n hx hb dX3_richestBut_38 rfl (lv_at hl 3 rfl) ?_
            refine lv_icmp_le (tgt := 53) hx hb dX3_richestBut_39 (by decide) (fun c21 => ?_) (fun c21 => ?_)
            · replace h := ite_t c21 h
              obtain ⟨x22, ex22⟩ : ∃ y : Int32, y = (a4 + 1) := ⟨_, rfl⟩
              replace h := lt_nx ex22 h
              refine lv_iinc (v := x22) (lv' := [(4, .int x22), (0, .ref (q 0)), (1, .int a1), (2, .int a2), (3, .int a3)]) hx hb dX3_richestBut_53 hl (k := 4) rfl (by rw [ex22]; rfl) (by decide) rfl (fun ls hl => ?_)
              refine lv_goto (tgt := 7) hx hb dX3_richestBut_56 (by decide) ?_
              exact ih7 a1 a2 a3 x22 _ _ _ hw (lv_sub hl [1, 2, 3, 4, 0] rfl) h
            · replace h := ite_f c21 h
              refine lv_iload hx hb dX3_richestBut_42 (lv_at hl 4 rfl) ?_
              refine lv_istore_n (lv' := [(2, .int a4), (0, .ref (q 0)), (1, .int a1), (3, .int a3), (4, .int a4)]) hx hb dX3_richestBut_44 rfl hl (by decide) rfl (fun ls hl => ?_)
              refine lv_aload_n hx hb dX3_richestBut_45 rfl (lv_at hl 1 rfl) ?_
              refine gf_X3_30 cx hw 0 rfl rfl dX3_richestBut_46 ?_
              refine lv_iload hx hb dX3_richestBut_49 (lv_at hl 4 rfl) ?_
              have ix23 := rd_in h
              refine x_iald cx hw 7 rfl ix23 dX3_richestBut_51 ?_
              refine lv_topi (fun x23 ex23 => ?_)
              replace h := rd_nx ex23 h
              refine lv_istore_n (lv' := [(3, .int x23), (2, .int a4), (0, .ref (q 0)), (1, .int a1), (4, .int a4)]) hx hb dX3_richestBut_52 rfl hl (by decide) rfl (fun ls hl => ?_)
              obtain ⟨x24, ex24⟩ : ∃ y : Int32, y = (a4 + 1) := ⟨_, rfl⟩
              replace h := lt_nx ex24 h
              refine lv_iinc (v := x24) (lv' := [(4, .int x24), (3, .int x23), (2, .int a4), (0, .ref (q 0)), (1, .int a1)]) hx hb dX3_richestBut_53 hl (k := 4) rfl (by rw [ex24]; rfl) (by decide) rfl (fun ls hl => ?_)
              refine lv_goto (tgt := 7) hx hb dX3_richestBut_56 (by decide) ?_
              exact ih7 a1 a4 x23 x24 _ _ _ hw (lv_sub hl [3, 4, 2, 1, 0] rfl) h
  unfold f_X3_richestBut at h
  refine lv_iconst (v := -1) hx hb dX3_richestBut_0 (by decide) ?_
  refine lv_istore_n (lv' := [(2, .int (-1 : Int32)), (0, .ref (q 0)), (1, .int p1)]) hx hb dX3_richestBut_1 rfl hl (by decide) rfl (fun ls hl => ?_)
  refine lv_iconst (v := -1) hx hb dX3_richestBut_2 (by decide) ?_
  refine lv_istore_n (lv' := [(3, .int (-1 : Int32)), (2, .int (-1 : Int32)), (0, .ref (q 0)), (1, .int p1)]) hx hb dX3_richestBut_3 rfl hl (by decide) rfl (fun ls hl => ?_)
  refine lv_iconst (v := 0) hx hb dX3_richestBut_4 (by decide) ?_
  refine lv_istore (lv' := [(4, .int (0 : Int32)), (3, .int (-1 : Int32)), (2, .int (-1 : Int32)), (0, .ref (q 0)), (1, .int p1)]) hx hb dX3_richestBut_5 hl (by decide) rfl (fun ls hl => ?_)
  exact L7 N p1 (-1 : Int32) (-1 : Int32) (0 : Int32) _ _ _ hw (lv_sub hl [3, 4, 2, 1, 0] rfl) h
set_option maxHeartbeats 4000000 in
set_option maxRecDepth 100000 in
theorem c_X3_aimOf (l : Launch) (g : gE) (q : Nat → Nat) (N : Nat) (p1 : Int32) (d : VD) (r : Int32) (h : f_X3_aimOf N  p1 d = some r) : MO l yX3_aimOf (Cond.code yX3_aimOf cX3_aimOf 4 (some .int) :: TB) rm_X3_aimOf [.ref (q 0), .int p1] g ((VC g q d)) ((VC g q d)) (some (.int r)) 0 0 := by
  refine MO.of (cc := cX3_aimOf) (maxL := 4) (ret := (some .int)) (by decide) ?_
  intro p e s m below meth c cx hw hr hlocks _
  have hx := cx.1.1
  have hb := cx.1.2.1
  refine en_go (lv := [(0, .ref (q 0)), (1, .int p1)]) (Nat.le_of_ble_eq_true rfl) rfl (fun ls hl => ?_)
  have J25 : ∀ (a1 : Int32) (t0 : Int32) (H : Heap) (locs : List Loc) (ls : Array Slot), Wd g (va_A ((VC g q d)) s.heap.size) ((VC g q d)) s H locs → lv_has ls 4 [(0, .ref (q 0)), (1, .int a1)] → f_X3_aimOf_J25 N d  a1 t0 = some r → W p l e rm_X3_aimOf s m ([.ref (q 0), .int p1] : List Value).toArray below meth c H locs 0 0 (MQ below (QO (some (.int r)) g ((VC g q d)) (va_A ((VC g q d)) s.heap.size)) ([.ref (q 0), .int p1] : List Value).toArray s 0 0 (va_A ((VC g q d)) s.heap.size)) (F0 m 25 ls [.int t0]) := by
    intro a1 t0 H locs ls hw hl h
    unfold f_X3_aimOf_J25 at h
    refine lv_istore_n (lv' := [(3, .int t0), (0, .ref (q 0)), (1, .int a1)]) hx hb dX3_aimOf_25 rfl hl (by decide) rfl (fun ls hl => ?_)
    refine lv_aload_n hx hb dX3_aimOf_26 rfl (lv_at hl 1 rfl) ?_
    refine gf_X3_24 cx hw 0 rfl rfl dX3_aimOf_27 ?_
    refine lv_iload_n hx hb dX3_aimOf_30 rfl (lv_at hl 2 rfl) ?_
    have ix19 := rd_in h
    refine x_iald cx hw 5 rfl ix19 dX3_aimOf_31 ?_
    refine lv_topi (fun x19 ex19 => ?_)
    replace h := rd_nx ex19 h
    by_cases c20 : x19 = 1
    · replace h := ite_t c20 h
      refine lv_tableIn (tgt := 68) hx hb dX3_aimOf_32 (by rw [c20]; decide) (by rw [c20]; decide) (by rw [c20]; rfl) (by decide) ?_
      refine lv_aload_n hx hb dX3_aimOf_68 rfl (lv_at hl 1 rfl) ?_
      refine lv_iload_n hx hb dX3_aimOf_69 rfl (lv_at hl 2 rfl) ?_
      obtain ⟨x21, g22, h⟩ := bd_ex h
      refine c_V (As := [.int a1]) (rest := []) (w' := (VC g q d)) cx hw (c_X3_richestBut l g q N a1 d x21 g22) (cl_X3_112 cx.1.2.2.2.2 ⟨Nat.le_of_ble_eq_true rfl, Nat.le_of_ble_eq_true rfl⟩) (x_recv cx hw (ci := 3) rfl 0 rfl) (Ct.all (VC_ll ..)) hl.1 rfl rfl (Nat.le_of_ble_eq_true rfl) dX3_aimOf_70 ⟨Nat.le_of_ble_eq_true rfl, Nat.le_of_ble_eq_true rfl⟩ (st1 := [.int x21]) rfl (fun H locs hw => ?_)
      exact r_i cx hr hlocks hw (sm_eq h) rfl dX3_aimOf_73
    · replace h := ite_f c20 h
      by_cases c23 : x19 = 2
      · replace h := ite_t c23 h
        refine lv_tableIn (tgt := 91) hx hb dX3_aimOf_32 (by rw [c23]; decide) (by rw [c23]; decide) (by rw [c23]; rfl) (by decide) ?_
        refine lv_iconst (v := -1) hx hb dX3_aimOf_91 (by decide) ?_
        exact r_i cx hr hlocks hw (sm_eq h) rfl dX3_aimOf_92
      · replace h := ite_f c23 h
        by_cases c24 : x19 = 3
        · replace h := ite_t c24 h
          refine lv_tableIn (tgt := 74) hx hb dX3_aimOf_32 (by rw [c24]; decide) (by rw [c24]; decide) (by rw [c24]; rfl) (by decide) ?_
          refine lv_iload_n hx hb dX3_aimOf_74 rfl (lv_at hl 0 rfl) ?_
          exact r_i cx hr hlocks hw (sm_eq h) rfl dX3_aimOf_75
        · replace h := ite_f c24 h
          by_cases c25 : x19 = 4
          · replace h := ite_t c25 h
            refine lv_tableIn (tgt := 68) hx hb dX3_aimOf_32 (by rw [c25]; decide) (by rw [c25]; decide) (by rw [c25]; rfl) (by decide) ?_
            refine lv_aload_n hx hb dX3_aimOf_68 rfl (lv_at hl 1 rfl) ?_
            refine lv_iload_n hx hb dX3_aimOf_69 rfl (lv_at hl 2 rfl) ?_
            obtain ⟨x26, g27, h⟩ := bd_ex h
            refine c_V (As := [.int a1]) (rest := []) (w' := (VC g q d)) cx hw (c_X3_richestBut l g q N a1 d x26 g27) (cl_X3_112 cx.1.2.2.2.2 ⟨Nat.le_of_ble_eq_true rfl, Nat.le_of_ble_eq_true rfl⟩) (x_recv cx hw (ci := 3) rfl 0 rfl) (Ct.all (VC_ll ..)) hl.1 rfl rfl (Nat.le_of_ble_eq_true rfl) dX3_aimOf_70 ⟨Nat.le_of_ble_eq_true rfl, Nat.le_of_ble_eq_true rfl⟩ (st1 := [.int x26]) rfl (fun H locs hw => ?_)
            exact r_i cx hr hlocks hw (sm_eq h) rfl dX3_aimOf_73
          · replace h := ite_f c25 h
            by_cases c28 : x19 = 5
            · replace h := ite_t c28 h
              refine lv_tableIn (tgt := 76) hx hb dX3_aimOf_32 (by rw [c28]; decide) (by rw [c28]; decide) (by rw [c28]; rfl) (by decide) ?_
              refine lv_iload_n hx hb dX3_aimOf_76 rfl (lv_at hl 0 rfl) ?_
              refine lv_iconst (v := -1) hx hb dX3_aimOf_77 (by decide) ?_
              refine lv_icmp_eq (tgt := 85) hx hb dX3_aimOf_78 (by decide) (fun c29 => ?_) (fun c29 => ?_)
              · replace h := ite_t c29 h
                refine lv_aload_n hx hb dX3_aimOf_85 rfl (lv_at hl 1 rfl) ?_
                refine lv_iload_n hx hb dX3_aimOf_86 rfl (lv_at hl 2 rfl) ?_
                obtain ⟨x30, g31, h⟩ := bd_ex h
                refine c_V (As := [.int a1]) (rest := []) (w' := (VC g q d)) cx hw (c_X3_heirFor l g q N a1 d x30 g31) (cl_X3_99 cx.1.2.2.2.2 ⟨Nat.le_of_ble_eq_true rfl, Nat.le_of_ble_eq_true rfl⟩) (x_recv cx hw (ci := 3) rfl 0 rfl) (Ct.all (VC_ll ..)) hl.1 rfl rfl (Nat.le_of_ble_eq_true rfl) dX3_aimOf_87 ⟨Nat.le_of_ble_eq_true rfl, Nat.le_of_ble_eq_true rfl⟩ (st1 := [.int x30]) rfl (fun H locs hw => ?_)
                exact r_i cx hr hlocks hw (sm_eq h) rfl dX3_aimOf_90
              · replace h := ite_f c29 h
                refine lv_iload_n hx hb dX3_aimOf_81 rfl (lv_at hl 0 rfl) ?_
                refine lv_goto (tgt := 90) hx hb dX3_aimOf_82 (by decide) ?_
                exact r_i cx hr hlocks hw (sm_eq h) rfl dX3_aimOf_90
            · replace h := ite_f c28 h
              have tc20 : (x19).toInt ≠ 1 := fun e => c20 (Int32.toInt_inj.mp (e.trans (by decide)))
              have tc23 : (x19).toInt ≠ 2 := fun e => c23 (Int32.toInt_inj.mp (e.trans (by decide)))
              have tc24 : (x19).toInt ≠ 3 := fun e => c24 (Int32.toInt_inj.mp (e.trans (by decide)))
              have tc25 : (x19).toInt ≠ 4 := fun e => c25 (Int32.toInt_inj.mp (e.trans (by decide)))
              have tc28 : (x19).toInt ≠ 5 := fun e => c28 (Int32.toInt_inj.mp (e.trans (by decide)))
              refine lv_tableOut (tgt := 91) hx hb dX3_aimOf_32 (by omega) (by decide) ?_
              refine lv_iconst (v := -1) hx hb dX3_aimOf_91 (by decide) ?_
              exact r_i cx hr hlocks hw (sm_eq h) rfl dX3_aimOf_92
  have J24 : ∀ (a1 : Int32) (H : Heap) (locs : List Loc) (ls : Array Slot), Wd g (va_A ((VC g q d)) s.heap.size) ((VC g q d)) s H locs → lv_has ls 4 [(0, .ref (q 0)), (1, .int a1)] → f_X3_aimOf_J24 N d  a1 = some r → W p l e rm_X3_aimOf s m ([.ref (q 0), .int p1] : List Value).toArray below meth c H locs 0 0 (MQ below (QO (some (.int r)) g ((VC g q d)) (va_A ((VC g q d)) s.heap.size)) ([.ref (q 0), .int p1] : List Value).toArray s 0 0 (va_A ((VC g q d)) s.heap.size)) (F0 m 24 ls []) := by
    intro a1 H locs ls hw hl h
    unfold f_X3_aimOf_J24 at h
    refine lv_iconst (v := -1) hx hb dX3_aimOf_24 (by decide) ?_
    exact J25 a1 (-1 : Int32) _ _ _ hw (lv_sub hl [0, 1] rfl) h
  unfold f_X3_aimOf at h
  refine lv_aload_n hx hb dX3_aimOf_0 rfl (lv_at hl 0 rfl) ?_
  refine gf_X3_36 cx hw 0 rfl rfl dX3_aimOf_1 ?_
  refine lv_iload_n hx hb dX3_aimOf_4 rfl (lv_at hl 1 rfl) ?_
  have ix1 := rd_in h
  refine x_iald cx hw 9 rfl ix1 dX3_aimOf_5 ?_
  refine lv_topi (fun x1 ex1 => ?_)
  replace h := rd_nx ex1 h
  refine lv_istore_n (lv' := [(2, .int x1), (0, .ref (q 0)), (1, .int p1)]) hx hb dX3_aimOf_6 rfl hl (by decide) rfl (fun ls hl => ?_)
  refine lv_iload_n hx hb dX3_aimOf_7 rfl (lv_at hl 0 rfl) ?_
  refine lv_iconst (v := -1) hx hb dX3_aimOf_8 (by decide) ?_
  refine lv_icmp_eq (tgt := 24) hx hb dX3_aimOf_9 (by decide) (fun c2 => ?_) (fun c2 => ?_)
  · replace h := ite_t c2 h
    exact J24 p1 _ _ _ hw (lv_sub hl [1, 2] rfl) h
  · replace h := ite_f c2 h
    refine lv_aload_n hx hb dX3_aimOf_12 rfl (lv_at hl 1 rfl) ?_
    refine lv_iload_n hx hb dX3_aimOf_13 rfl (lv_at hl 0 rfl) ?_
    obtain ⟨x3, g4, h⟩ := bd_ex h
    refine c_V (As := [.int x1]) (rest := []) (w' := (VC g q d)) cx hw (c_X3_lives l g q N x1 d x3 g4) (cl_X3_92 cx.1.2.2.2.2 ⟨Nat.le_of_ble_eq_true rfl, Nat.le_of_ble_eq_true rfl⟩) (x_recv cx hw (ci := 3) rfl 0 rfl) (Ct.all (VC_ll ..)) hl.1 rfl rfl (Nat.le_of_ble_eq_true rfl) dX3_aimOf_14 ⟨Nat.le_of_ble_eq_true rfl, Nat.le_of_ble_eq_true rfl⟩ (st1 := [.int x3]) rfl (fun H locs hw => ?_)
    refine lv_if_eq (tgt := 24) hx hb dX3_aimOf_17 (by decide) (fun c5 => ?_) (fun c5 => ?_)
    · replace h := ite_t c5 h
      exact J24 p1 _ _ _ hw (lv_sub hl [1, 2] rfl) h
    · replace h := ite_f c5 h
      refine lv_iload_n hx hb dX3_aimOf_20 rfl (lv_at hl 0 rfl) ?_
      refine lv_goto (tgt := 25) hx hb dX3_aimOf_21 (by decide) ?_
      exact J25 p1 x1 _ _ _ hw (lv_sub hl [1, 2] rfl) h
set_option maxHeartbeats 4000000 in
set_option maxRecDepth 100000 in
theorem c_X3_watchersOf (l : Launch) (g : gE) (q : Nat → Nat) (N : Nat) (p1 : Int32) (d : VD) (r : Int32) (h : f_X3_watchersOf N  p1 d = some r) : MO l yX3_watchersOf (Cond.code yX3_watchersOf cX3_watchersOf 4 (some .int) :: TB) rm_X3_watchersOf [.ref (q 0), .int p1] g ((VC g q d)) ((VC g q d)) (some (.int r)) 0 0 := by
  refine MO.of (cc := cX3_watchersOf) (maxL := 4) (ret := (some .int)) (by decide) ?_
  intro p e s m below meth c cx hw hr hlocks _
  have hx := cx.1.1
  have hb := cx.1.2.1
  refine en_go (lv := [(0, .ref (q 0)), (1, .int p1)]) (Nat.le_of_ble_eq_true rfl) rfl (fun ls hl => ?_)
  have L4 : ∀ (n4 : Nat) (a1 : Int32) (a2 : Int32) (a3 : Int32) (H : Heap) (locs : List Loc) (ls : Array Slot), Wd g (va_A ((VC g q d)) s.heap.size) ((VC g q d)) s H locs → lv_has ls 4 [(0, .ref (q 0)), (1, .int a1), (2, .int a2), (3, .int a3)] → f_X3_watchersOf_L4 N d  n4 a1 a2 a3 = some r → W p l e rm_X3_watchersOf s m ([.ref (q 0), .int p1] : List Value).toArray below meth c H locs 0 0 (MQ below (QO (some (.int r)) g ((VC g q d)) (va_A ((VC g q d)) s.heap.size)) ([.ref (q 0), .int p1] : List Value).toArray s 0 0 (va_A ((VC g q d)) s.heap.size)) (F0 m 4 ls []) := by
    intro n4
    induction n4 with
    | zero => intro a1 a2 a3 H locs ls hw hl h; exact (Option.some_ne_none _ h.symm).elim
    | succ n4 ih4 =>
      intro a1 a2 a3 H locs ls hw hl h
      rw [f_X3_watchersOf_L4] at h
      refine lv_iload_n hx hb dX3_watchersOf_4 rfl (lv_at hl 3 rfl) ?_
      refine lv_aload_n hx hb dX3_watchersOf_5 rfl (lv_at hl 0 rfl) ?_
      refine gf_X3_63 cx hw 0 rfl rfl dX3_watchersOf_6 ?_
      refine lv_icmp_ge (tgt := 41) hx hb dX3_watchersOf_9 (by decide) (fun c12 => ?_) (fun c12 => ?_)
      · replace h := ite_t c12 h
        refine lv_iload_n hx hb dX3_watchersOf_41 rfl (lv_at hl 2 rfl) ?_
        exact r_i cx hr hlocks hw (sm_eq h) rfl dX3_watchersOf_42
      · replace h := ite_f c12 h
        refine lv_aload_n hx hb dX3_watchersOf_12 rfl (lv_at hl 0 rfl) ?_
        refine lv_iload_n hx hb dX3_watchersOf_13 rfl (lv_at hl 3 rfl) ?_
        obtain ⟨x13, g14, h⟩ := bd_ex h
        refine c_V (As := [.int a3]) (rest := []) (w' := (VC g q d)) cx hw (c_X3_lives l g q N a3 d x13 g14) (cl_X3_92 cx.1.2.2.2.2 ⟨Nat.le_of_ble_eq_true rfl, Nat.le_of_ble_eq_true rfl⟩) (x_recv cx hw (ci := 3) rfl 0 rfl) (Ct.all (VC_ll ..)) hl.1 rfl rfl (Nat.le_of_ble_eq_true rfl) dX3_watchersOf_14 ⟨Nat.le_of_ble_eq_true rfl, Nat.le_of_ble_eq_true rfl⟩ (st1 := [.int x13]) rfl (fun H locs hw => ?_)
        refine lv_if_eq (tgt := 35) hx hb dX3_watchersOf_17 (by decide) (fun c15 => ?_) (fun c15 => ?_)
        · replace h := ite_t c15 h
          obtain ⟨x16, ex16⟩ : ∃ y : Int32, y = (a3 + 1) := ⟨_, rfl⟩
          replace h := lt_nx ex16 h
          refine lv_iinc (v := x16) (lv' := [(3, .int x16), (0, .ref (q 0)), (1, .int a1), (2, .int a2)]) hx hb dX3_watchersOf_35 hl (k := 3) rfl (by rw [ex16]; rfl) (by decide) rfl (fun ls hl => ?_)
          refine lv_goto (tgt := 4) hx hb dX3_watchersOf_38 (by decide) ?_
          exact ih4 a1 a2 x16 _ _ _ hw (lv_sub hl [1, 2, 3, 0] rfl) h
        · replace h := ite_f c15 h
          refine lv_aload_n hx hb dX3_watchersOf_20 rfl (lv_at hl 0 rfl) ?_
          refine lv_iload_n hx hb dX3_watchersOf_21 rfl (lv_at hl 3 rfl) ?_
          obtain ⟨x17, g18, h⟩ := bd_ex h
          refine c_V (As := [.int a3]) (rest := []) (w' := (VC g q d)) cx hw (c_X3_aimOf l g q N a3 d x17 g18) (cl_X3_109 cx.1.2.2.2.2 ⟨Nat.le_of_ble_eq_true rfl, Nat.le_of_ble_eq_true rfl⟩) (x_recv cx hw (ci := 3) rfl 0 rfl) (Ct.all (VC_ll ..)) hl.1 rfl rfl (Nat.le_of_ble_eq_true rfl) dX3_watchersOf_22 ⟨Nat.le_of_ble_eq_true rfl, Nat.le_of_ble_eq_true rfl⟩ (st1 := [.int x17]) rfl (fun H locs hw => ?_)
          refine lv_iload_n hx hb dX3_watchersOf_25 rfl (lv_at hl 1 rfl) ?_
          refine lv_icmp_ne (tgt := 35) hx hb dX3_watchersOf_26 (by decide) (fun c19 => ?_) (fun c19 => ?_)
          · replace h := ite_f c19 h
            obtain ⟨x20, ex20⟩ : ∃ y : Int32, y = (a3 + 1) := ⟨_, rfl⟩
            replace h := lt_nx ex20 h
            refine lv_iinc (v := x20) (lv' := [(3, .int x20), (0, .ref (q 0)), (1, .int a1), (2, .int a2)]) hx hb dX3_watchersOf_35 hl (k := 3) rfl (by rw [ex20]; rfl) (by decide) rfl (fun ls hl => ?_)
            refine lv_goto (tgt := 4) hx hb dX3_watchersOf_38 (by decide) ?_
            exact ih4 a1 a2 x20 _ _ _ hw (lv_sub hl [1, 2, 3, 0] rfl) h
          · replace h := ite_t c19 h
            refine lv_iload_n hx hb dX3_watchersOf_29 rfl (lv_at hl 2 rfl) ?_
            refine lv_iconst (v := 1) hx hb dX3_watchersOf_30 (by decide) ?_
            refine lv_iload_n hx hb dX3_watchersOf_31 rfl (lv_at hl 3 rfl) ?_
            refine lv_ishl hx hb dX3_watchersOf_32 ?_
            refine lv_ior hx hb dX3_watchersOf_33 ?_
            refine lv_topi (fun x21 ex21 => ?_)
            replace h := lt_nx ex21 h
            refine lv_istore_n (lv' := [(2, .int x21), (0, .ref (q 0)), (1, .int a1), (3, .int a3)]) hx hb dX3_watchersOf_34 rfl hl (by decide) rfl (fun ls hl => ?_)
            obtain ⟨x22, ex22⟩ : ∃ y : Int32, y = (a3 + 1) := ⟨_, rfl⟩
            replace h := lt_nx ex22 h
            refine lv_iinc (v := x22) (lv' := [(3, .int x22), (2, .int x21), (0, .ref (q 0)), (1, .int a1)]) hx hb dX3_watchersOf_35 hl (k := 3) rfl (by rw [ex22]; rfl) (by decide) rfl (fun ls hl => ?_)
            refine lv_goto (tgt := 4) hx hb dX3_watchersOf_38 (by decide) ?_
            exact ih4 a1 x21 x22 _ _ _ hw (lv_sub hl [2, 3, 1, 0] rfl) h
  unfold f_X3_watchersOf at h
  refine lv_iconst (v := 0) hx hb dX3_watchersOf_0 (by decide) ?_
  refine lv_istore_n (lv' := [(2, .int (0 : Int32)), (0, .ref (q 0)), (1, .int p1)]) hx hb dX3_watchersOf_1 rfl hl (by decide) rfl (fun ls hl => ?_)
  refine lv_iconst (v := 0) hx hb dX3_watchersOf_2 (by decide) ?_
  refine lv_istore_n (lv' := [(3, .int (0 : Int32)), (2, .int (0 : Int32)), (0, .ref (q 0)), (1, .int p1)]) hx hb dX3_watchersOf_3 rfl hl (by decide) rfl (fun ls hl => ?_)
  exact L4 N p1 (0 : Int32) (0 : Int32) _ _ _ hw (lv_sub hl [2, 3, 1, 0] rfl) h
set_option maxHeartbeats 4000000 in
set_option maxRecDepth 100000 in
theorem c_X3_planOf (l : Launch) (g : gE) (q : Nat → Nat) (N : Nat) (p1 : Int32) (d : VD) (r : Int32) (h : f_X3_planOf N  p1 d = some r) : MO l yX3_planOf (Cond.code yX3_planOf cX3_planOf 7 (some .int) :: TB) rm_X3_planOf [.ref (q 0), .int p1] g ((VC g q d)) ((VC g q d)) (some (.int r)) 0 0 := by
  refine MO.of (cc := cX3_planOf) (maxL := 7) (ret := (some .int)) (by decide) ?_
  intro p e s m below meth c cx hw hr hlocks _
  have hx := cx.1.1
  have hb := cx.1.2.1
  refine en_go (lv := [(0, .ref (q 0)), (1, .int p1)]) (Nat.le_of_ble_eq_true rfl) rfl (fun ls hl => ?_)
  have J90 : ∀ (a1 : Int32) (a2 : Int32) (a3 : Int32) (a4 : Int32) (H : Heap) (locs : List Loc) (ls : Array Slot), Wd g (va_A ((VC g q d)) s.heap.size) ((VC g q d)) s H locs → lv_has ls 7 [(0, .ref (q 0)), (1, .int a1), (2, .int a2), (3, .int a3), (4, .int a4)] → f_X3_planOf_J90 N d  a1 a2 a3 a4 = some r → W p l e rm_X3_planOf s m ([.ref (q 0), .int p1] : List Value).toArray below meth c H locs 0 0 (MQ below (QO (some (.int r)) g ((VC g q d)) (va_A ((VC g q d)) s.heap.size)) ([.ref (q 0), .int p1] : List Value).toArray s 0 0 (va_A ((VC g q d)) s.heap.size)) (F0 m 90 ls []) := by
    intro a1 a2 a3 a4 H locs ls hw hl h
    unfold f_X3_planOf_J90 at h
    refine lv_iload hx hb dX3_planOf_90 (lv_at hl 4 rfl) ?_
    obtain ⟨x33, g34, h⟩ := bd_ex h
    refine c_SN (As := [.int a4]) (rest := []) (w' := (VC g q d)) cx hw (c_X4_leastOf l g  N a4  x33 g34) (cl_X3_80 cx.1.2.2.2.2 cx.2.2.1 ⟨Nat.le_of_ble_eq_true rfl, Nat.le_of_ble_eq_true rfl⟩) Ct.nil hl.1 rfl rfl (Nat.le_of_ble_eq_true rfl) dX3_planOf_92 ⟨Nat.le_of_ble_eq_true rfl, Nat.le_of_ble_eq_true rfl⟩ (st1 := [.int x33]) rfl (fun H locs hw => ?_)
    refine lv_istore (lv' := [(5, .int x33), (0, .ref (q 0)), (1, .int a1), (2, .int a2), (3, .int a3), (4, .int a4)]) hx hb dX3_planOf_95 hl (by decide) rfl (fun ls hl => ?_)
    refine lv_iload hx hb dX3_planOf_97 (lv_at hl 0 rfl) ?_
    refine lv_iconst (v := -1) hx hb dX3_planOf_99 (by decide) ?_
    refine lv_icmp_eq (tgt := 119) hx hb dX3_planOf_100 (by decide) (fun c35 => ?_) (fun c35 => ?_)
    · replace h := ite_t c35 h
      refine lv_iconst (v := -1) hx hb dX3_planOf_119 (by decide) ?_
      exact r_i cx hr hlocks hw (sm_eq h) rfl dX3_planOf_120
    · replace h := ite_f c35 h
      refine lv_aload_n hx hb dX3_planOf_103 rfl (lv_at hl 1 rfl) ?_
      refine gf_X3_30 cx hw 0 rfl rfl dX3_planOf_104 ?_
      refine lv_iload_n hx hb dX3_planOf_107 rfl (lv_at hl 2 rfl) ?_
      have ix36 := rd_in h
      refine x_iald cx hw 7 rfl ix36 dX3_planOf_108 ?_
      refine lv_topi (fun x36 ex36 => ?_)
      replace h := rd_nx ex36 h
      refine lv_aload_n hx hb dX3_planOf_109 rfl (lv_at hl 1 rfl) ?_
      refine gf_X3_15 cx hw 0 rfl rfl dX3_planOf_110 ?_
      refine lv_iload hx hb dX3_planOf_113 (lv_at hl 0 rfl) ?_
      have ix37 := rd_in h
      refine x_iald cx hw 2 rfl ix37 dX3_planOf_115 ?_
      refine lv_topi (fun x37 ex37 => ?_)
      replace h := rd_nx ex37 h
      refine lv_icmp_ge (tgt := 121) hx hb dX3_planOf_116 (by decide) (fun c38 => ?_) (fun c38 => ?_)
      · replace h := ite_t c38 h
        refine lv_iload_n hx hb dX3_planOf_121 rfl (lv_at hl 3 rfl) ?_
        refine lv_if_eq (tgt := 142) hx hb dX3_planOf_122 (by decide) (fun c39 => ?_) (fun c39 => ?_)
        · replace h := ite_t c39 h
          refine lv_aload_n hx hb dX3_planOf_142 rfl (lv_at hl 1 rfl) ?_
          refine gf_X3_39 cx hw 0 rfl rfl dX3_planOf_143 ?_
          refine lv_iload_n hx hb dX3_planOf_146 rfl (lv_at hl 4 rfl) ?_
          have ix40 := rd_in h
          refine x_iald cx hw 10 rfl ix40 dX3_planOf_147 ?_
          refine lv_topi (fun x40 ex40 => ?_)
          replace h := rd_nx ex40 h
          refine lv_iload hx hb dX3_planOf_148 (lv_at hl 0 rfl) ?_
          obtain ⟨x41, g42, h⟩ := bd_ex h
          refine c_SN (As := [.int x40, .int x33]) (rest := []) (w' := (VC g q d)) cx hw (c_X4_wayIn l g  N x40 x33  x41 g42) (cl_X3_115 cx.1.2.2.2.2 cx.2.2.1 ⟨Nat.le_of_ble_eq_true rfl, Nat.le_of_ble_eq_true rfl⟩) Ct.nil hl.1 rfl rfl (Nat.le_of_ble_eq_true rfl) dX3_planOf_150 ⟨Nat.le_of_ble_eq_true rfl, Nat.le_of_ble_eq_true rfl⟩ (st1 := [.int x41]) rfl (fun H locs hw => ?_)
          refine lv_istore (lv' := [(6, .int x41), (5, .int x33), (0, .ref (q 0)), (1, .int a1), (2, .int a2), (3, .int a3), (4, .int a4)]) hx hb dX3_planOf_153 hl (by decide) rfl (fun ls hl => ?_)
          refine lv_bipush (v := 10) hx hb dX3_planOf_155 (by decide) ?_
          refine lv_iload hx hb dX3_planOf_157 (lv_at hl 1 rfl) ?_
          refine lv_imul hx hb dX3_planOf_159 ?_
          refine lv_iload hx hb dX3_planOf_160 (lv_at hl 0 rfl) ?_
          refine lv_iadd hx hb dX3_planOf_162 ?_
          exact r_i cx hr hlocks hw (sm_eq h) rfl dX3_planOf_163
        · replace h := ite_f c39 h
          refine lv_aload_n hx hb dX3_planOf_125 rfl (lv_at hl 1 rfl) ?_
          refine gf_X3_39 cx hw 0 rfl rfl dX3_planOf_126 ?_
          refine lv_iload_n hx hb dX3_planOf_129 rfl (lv_at hl 2 rfl) ?_
          have ix43 := rd_in h
          refine x_iald cx hw 10 rfl ix43 dX3_planOf_130 ?_
          refine lv_topi (fun x43 ex43 => ?_)
          replace h := rd_nx ex43 h
          refine lv_iload hx hb dX3_planOf_131 (lv_at hl 0 rfl) ?_
          obtain ⟨x44, g45, h⟩ := bd_ex h
          refine c_SN (As := [.int x43, .int x33]) (rest := []) (w' := (VC g q d)) cx hw (c_X4_wayIn l g  N x43 x33  x44 g45) (cl_X3_115 cx.1.2.2.2.2 cx.2.2.1 ⟨Nat.le_of_ble_eq_true rfl, Nat.le_of_ble_eq_true rfl⟩) Ct.nil hl.1 rfl rfl (Nat.le_of_ble_eq_true rfl) dX3_planOf_133 ⟨Nat.le_of_ble_eq_true rfl, Nat.le_of_ble_eq_true rfl⟩ (st1 := [.int x44]) rfl (fun H locs hw => ?_)
          obtain ⟨x46, g47, h⟩ := bd_ex h
          refine c_SN (As := [.int x44]) (rest := []) (w' := (VC g q d)) cx hw (c_X4_nextWay l g  N x44  x46 g47) (cl_X3_118 cx.1.2.2.2.2 cx.2.2.1 ⟨Nat.le_of_ble_eq_true rfl, Nat.le_of_ble_eq_true rfl⟩) Ct.nil hl.1 rfl rfl (Nat.le_of_ble_eq_true rfl) dX3_planOf_136 ⟨Nat.le_of_ble_eq_true rfl, Nat.le_of_ble_eq_true rfl⟩ (st1 := [.int x46]) rfl (fun H locs hw => ?_)
          refine lv_goto (tgt := 153) hx hb dX3_planOf_139 (by decide) ?_
          refine lv_istore (lv' := [(6, .int x46), (5, .int x33), (0, .ref (q 0)), (1, .int a1), (2, .int a2), (3, .int a3), (4, .int a4)]) hx hb dX3_planOf_153 hl (by decide) rfl (fun ls hl => ?_)
          refine lv_bipush (v := 10) hx hb dX3_planOf_155 (by decide) ?_
          refine lv_iload hx hb dX3_planOf_157 (lv_at hl 1 rfl) ?_
          refine lv_imul hx hb dX3_planOf_159 ?_
          refine lv_iload hx hb dX3_planOf_160 (lv_at hl 0 rfl) ?_
          refine lv_iadd hx hb dX3_planOf_162 ?_
          exact r_i cx hr hlocks hw (sm_eq h) rfl dX3_planOf_163
      · replace h := ite_f c38 h
        refine lv_iconst (v := -1) hx hb dX3_planOf_119 (by decide) ?_
        exact r_i cx hr hlocks hw (sm_eq h) rfl dX3_planOf_120
  have J72 : ∀ (a1 : Int32) (a2 : Int32) (a3 : Int32) (a4 : Int32) (H : Heap) (locs : List Loc) (ls : Array Slot), Wd g (va_A ((VC g q d)) s.heap.size) ((VC g q d)) s H locs → lv_has ls 7 [(0, .ref (q 0)), (1, .int a1), (2, .int a2), (3, .int a3), (4, .int a4)] → f_X3_planOf_J72 N d  a1 a2 a3 a4 = some r → W p l e rm_X3_planOf s m ([.ref (q 0), .int p1] : List Value).toArray below meth c H locs 0 0 (MQ below (QO (some (.int r)) g ((VC g q d)) (va_A ((VC g q d)) s.heap.size)) ([.ref (q 0), .int p1] : List Value).toArray s 0 0 (va_A ((VC g q d)) s.heap.size)) (F0 m 72 ls []) := by
    intro a1 a2 a3 a4 H locs ls hw hl h
    unfold f_X3_planOf_J72 at h
    refine lv_aload_n hx hb dX3_planOf_72 rfl (lv_at hl 0 rfl) ?_
    refine gf_X3_24 cx hw 0 rfl rfl dX3_planOf_73 ?_
    refine lv_iload_n hx hb dX3_planOf_76 rfl (lv_at hl 1 rfl) ?_
    have ix48 := rd_in h
    refine x_iald cx hw 5 rfl ix48 dX3_planOf_77 ?_
    refine lv_topi (fun x48 ex48 => ?_)
    replace h := rd_nx ex48 h
    refine lv_iconst (v := 4) hx hb dX3_planOf_78 (by decide) ?_
    refine lv_icmp_ne (tgt := 90) hx hb dX3_planOf_79 (by decide) (fun c49 => ?_) (fun c49 => ?_)
    · replace h := ite_f c49 h
      exact J90 a1 a2 a3 a4 _ _ _ hw (lv_sub hl [0, 1, 2, 3, 4] rfl) h
    · replace h := ite_t c49 h
      refine lv_iload hx hb dX3_planOf_82 (lv_at hl 4 rfl) ?_
      refine lv_sipush (v := -257) hx hb dX3_planOf_84 (by decide) ?_
      refine lv_iand hx hb dX3_planOf_87 ?_
      refine lv_topi (fun x50 ex50 => ?_)
      replace h := lt_nx ex50 h
      refine lv_istore (lv' := [(4, .int x50), (0, .ref (q 0)), (1, .int a1), (2, .int a2), (3, .int a3)]) hx hb dX3_planOf_88 hl (by decide) rfl (fun ls hl => ?_)
      exact J90 a1 a2 a3 x50 _ _ _ hw (lv_sub hl [1, 2, 3, 4, 0] rfl) h
  have J33 : ∀ (a1 : Int32) (a2 : Int32) (t0 : Int32) (H : Heap) (locs : List Loc) (ls : Array Slot), Wd g (va_A ((VC g q d)) s.heap.size) ((VC g q d)) s H locs → lv_has ls 7 [(0, .ref (q 0)), (1, .int a1), (2, .int a2)] → f_X3_planOf_J33 N d  a1 a2 t0 = some r → W p l e rm_X3_planOf s m ([.ref (q 0), .int p1] : List Value).toArray below meth c H locs 0 0 (MQ below (QO (some (.int r)) g ((VC g q d)) (va_A ((VC g q d)) s.heap.size)) ([.ref (q 0), .int p1] : List Value).toArray s 0 0 (va_A ((VC g q d)) s.heap.size)) (F0 m 33 ls [.int t0]) := by
    intro a1 a2 t0 H locs ls hw hl h
    unfold f_X3_planOf_J33 at h
    refine lv_istore_n (lv' := [(3, .int t0), (0, .ref (q 0)), (1, .int a1), (2, .int a2)]) hx hb dX3_planOf_33 rfl hl (by decide) rfl (fun ls hl => ?_)
    refine lv_iload_n hx hb dX3_planOf_34 rfl (lv_at hl 0 rfl) ?_
    refine lv_iconst (v := -1) hx hb dX3_planOf_35 (by decide) ?_
    refine lv_icmp_ne (tgt := 41) hx hb dX3_planOf_36 (by decide) (fun c51 => ?_) (fun c51 => ?_)
    · replace h := ite_f c51 h
      refine lv_aload_n hx hb dX3_planOf_41 rfl (lv_at hl 1 rfl) ?_
      refine gf_X3_39 cx hw 0 rfl rfl dX3_planOf_42 ?_
      refine lv_iload_n hx hb dX3_planOf_45 rfl (lv_at hl 2 rfl) ?_
      have ix52 := rd_in h
      refine x_iald cx hw 10 rfl ix52 dX3_planOf_46 ?_
      refine lv_topi (fun x52 ex52 => ?_)
      replace h := rd_nx ex52 h
      refine lv_aload_n hx hb dX3_planOf_47 rfl (lv_at hl 1 rfl) ?_
      refine gf_X3_39 cx hw 0 rfl rfl dX3_planOf_48 ?_
      refine lv_iload_n hx hb dX3_planOf_51 rfl (lv_at hl 0 rfl) ?_
      have ix53 := rd_in h
      refine x_iald cx hw 10 rfl ix53 dX3_planOf_52 ?_
      refine lv_topi (fun x53 ex53 => ?_)
      replace h := rd_nx ex53 h
      obtain ⟨x54, g55, h⟩ := bd_ex h
      refine c_SN (As := [.int x52, .int x53]) (rest := []) (w' := (VC g q d)) cx hw (c_X4_unlike l g  N x52 x53  x54 g55) (cl_X3_88 cx.1.2.2.2.2 cx.2.2.1 ⟨Nat.le_of_ble_eq_true rfl, Nat.le_of_ble_eq_true rfl⟩) Ct.nil hl.1 rfl rfl (Nat.le_of_ble_eq_true rfl) dX3_planOf_53 ⟨Nat.le_of_ble_eq_true rfl, Nat.le_of_ble_eq_true rfl⟩ (st1 := [.int x54]) rfl (fun H locs hw => ?_)
      refine lv_istore (lv' := [(4, .int x54), (3, .int t0), (0, .ref (q 0)), (1, .int a1), (2, .int a2)]) hx hb dX3_planOf_56 hl (by decide) rfl (fun ls hl => ?_)
      refine lv_iload_n hx hb dX3_planOf_58 rfl (lv_at hl 4 rfl) ?_
      refine lv_if_eq (tgt := 72) hx hb dX3_planOf_59 (by decide) (fun c56 => ?_) (fun c56 => ?_)
      · replace h := ite_t c56 h
        exact J72 a1 a2 t0 x54 _ _ _ hw (lv_sub hl [2, 3, 4, 1, 0] rfl) h
      · replace h := ite_f c56 h
        refine lv_sipush (v := 511) hx hb dX3_planOf_62 (by decide) ?_
        refine lv_iload hx hb dX3_planOf_65 (lv_at hl 0 rfl) ?_
        refine lv_iconst (v := -1) hx hb dX3_planOf_67 (by decide) ?_
        refine lv_ixor hx hb dX3_planOf_68 ?_
        refine lv_iand hx hb dX3_planOf_69 ?_
        refine lv_topi (fun x57 ex57 => ?_)
        replace h := lt_nx ex57 h
        refine lv_istore (lv' := [(4, .int x57), (3, .int t0), (0, .ref (q 0)), (1, .int a1), (2, .int a2)]) hx hb dX3_planOf_70 hl (by decide) rfl (fun ls hl => ?_)
        exact J72 a1 a2 t0 x57 _ _ _ hw (lv_sub hl [2, 3, 4, 1, 0] rfl) h
    · replace h := ite_t c51 h
      refine lv_iconst (v := -1) hx hb dX3_planOf_39 (by decide) ?_
      exact r_i cx hr hlocks hw (sm_eq h) rfl dX3_planOf_40
  have J15 : ∀ (a1 : Int32) (t0 : Int32) (H : Heap) (locs : List Loc) (ls : Array Slot), Wd g (va_A ((VC g q d)) s.heap.size) ((VC g q d)) s H locs → lv_has ls 7 [(0, .ref (q 0)), (1, .int a1)] → f_X3_planOf_J15 N d  a1 t0 = some r → W p l e rm_X3_planOf s m ([.ref (q 0), .int p1] : List Value).toArray below meth c H locs 0 0 (MQ below (QO (some (.int r)) g ((VC g q d)) (va_A ((VC g q d)) s.heap.size)) ([.ref (q 0), .int p1] : List Value).toArray s 0 0 (va_A ((VC g q d)) s.heap.size)) (F0 m 15 ls [.int t0]) := by
    intro a1 t0 H locs ls hw hl h
    unfold f_X3_planOf_J15 at h
    refine lv_istore_n (lv' := [(2, .int t0), (0, .ref (q 0)), (1, .int a1)]) hx hb dX3_planOf_15 rfl hl (by decide) rfl (fun ls hl => ?_)
    refine lv_iload_n hx hb dX3_planOf_16 rfl (lv_at hl 0 rfl) ?_
    refine lv_if_eq (tgt := 28) hx hb dX3_planOf_17 (by decide) (fun c58 => ?_) (fun c58 => ?_)
    · replace h := ite_t c58 h
      refine lv_aload_n hx hb dX3_planOf_28 rfl (lv_at hl 1 rfl) ?_
      refine lv_iload_n hx hb dX3_planOf_29 rfl (lv_at hl 2 rfl) ?_
      obtain ⟨x59, g60, h⟩ := bd_ex h
      refine c_V (As := [.int a1]) (rest := []) (w' := (VC g q d)) cx hw (c_X3_aimOf l g q N a1 d x59 g60) (cl_X3_109 cx.1.2.2.2.2 ⟨Nat.le_of_ble_eq_true rfl, Nat.le_of_ble_eq_true rfl⟩) (x_recv cx hw (ci := 3) rfl 0 rfl) (Ct.all (VC_ll ..)) hl.1 rfl rfl (Nat.le_of_ble_eq_true rfl) dX3_planOf_30 ⟨Nat.le_of_ble_eq_true rfl, Nat.le_of_ble_eq_true rfl⟩ (st1 := [.int x59]) rfl (fun H locs hw => ?_)
      exact J33 a1 t0 x59 _ _ _ hw (lv_sub hl [1, 2, 0] rfl) h
    · replace h := ite_f c58 h
      refine lv_aload_n hx hb dX3_planOf_20 rfl (lv_at hl 1 rfl) ?_
      refine lv_iload_n hx hb dX3_planOf_21 rfl (lv_at hl 2 rfl) ?_
      obtain ⟨x61, g62, h⟩ := bd_ex h
      refine c_V (As := [.int a1]) (rest := []) (w' := (VC g q d)) cx hw (c_X3_heirFor l g q N a1 d x61 g62) (cl_X3_99 cx.1.2.2.2.2 ⟨Nat.le_of_ble_eq_true rfl, Nat.le_of_ble_eq_true rfl⟩) (x_recv cx hw (ci := 3) rfl 0 rfl) (Ct.all (VC_ll ..)) hl.1 rfl rfl (Nat.le_of_ble_eq_true rfl) dX3_planOf_22 ⟨Nat.le_of_ble_eq_true rfl, Nat.le_of_ble_eq_true rfl⟩ (st1 := [.int x61]) rfl (fun H locs hw => ?_)
      refine lv_goto (tgt := 33) hx hb dX3_planOf_25 (by decide) ?_
      exact J33 a1 t0 x61 _ _ _ hw (lv_sub hl [1, 2, 0] rfl) h
  unfold f_X3_planOf at h
  refine lv_aload_n hx hb dX3_planOf_0 rfl (lv_at hl 0 rfl) ?_
  refine gf_X3_24 cx hw 0 rfl rfl dX3_planOf_1 ?_
  refine lv_iload_n hx hb dX3_planOf_4 rfl (lv_at hl 1 rfl) ?_
  have ix1 := rd_in h
  refine x_iald cx hw 5 rfl ix1 dX3_planOf_5 ?_
  refine lv_topi (fun x1 ex1 => ?_)
  replace h := rd_nx ex1 h
  refine lv_iconst (v := 2) hx hb dX3_planOf_6 (by decide) ?_
  refine lv_icmp_ne (tgt := 14) hx hb dX3_planOf_7 (by decide) (fun c2 => ?_) (fun c2 => ?_)
  · replace h := ite_f c2 h
    refine lv_iconst (v := 0) hx hb dX3_planOf_14 (by decide) ?_
    exact J15 p1 (0 : Int32) _ _ _ hw (lv_sub hl [0, 1] rfl) h
  · replace h := ite_t c2 h
    refine lv_iconst (v := 1) hx hb dX3_planOf_10 (by decide) ?_
    refine lv_goto (tgt := 15) hx hb dX3_planOf_11 (by decide) ?_
    exact J15 p1 (1 : Int32) _ _ _ hw (lv_sub hl [0, 1] rfl) h
set_option maxHeartbeats 4000000 in
set_option maxRecDepth 100000 in
theorem c_X3_carryOut (l : Launch) (g : gE) (q : Nat → Nat) (N : Nat) (p1 : Int32) (p2 : Int32) (d : VD) (d' : VD) (h : f_X3_carryOut N  p1 p2 d = some d') : MO l yX3_carryOut (Cond.code yX3_carryOut cX3_carryOut 4 none :: TB) rm_X3_carryOut [.ref (q 0), .int p1, .int p2] g ((VC g q d)) ((VC g q d')) none 0 0 := by
  refine MO.of (cc := cX3_carryOut) (maxL := 4) (ret := none) (by decide) ?_
  intro p e s m below meth c cx hw hr hlocks _
  have hx := cx.1.1
  have hb := cx.1.2.1
  refine en_go (lv := [(0, .ref (q 0)), (1, .int p1), (2, .int p2)]) (Nat.le_of_ble_eq_true rfl) rfl (fun ls hl => ?_)
  unfold f_X3_carryOut at h
  refine lv_iload_n hx hb dX3_carryOut_0 rfl (lv_at hl 2 rfl) ?_
  refine lv_bipush (v := 10) hx hb dX3_carryOut_1 (by decide) ?_
  refine lv_idiv hx hb dX3_carryOut_3 (by decide) ?_
  refine lv_topi (fun x1 ex1 => ?_)
  replace h := lt_nx ex1 h
  refine lv_istore_n (lv' := [(3, .int x1), (0, .ref (q 0)), (1, .int p1), (2, .int p2)]) hx hb dX3_carryOut_4 rfl hl (by decide) rfl (fun ls hl => ?_)
  refine lv_iload_n hx hb dX3_carryOut_5 rfl (lv_at hl 3 rfl) ?_
  refine lv_iconst (v := -1) hx hb dX3_carryOut_6 (by decide) ?_
  refine lv_icmp_eq (tgt := 20) hx hb dX3_carryOut_7 (by decide) (fun c2 => ?_) (fun c2 => ?_)
  · replace h := ite_t c2 h
    exact r_v cx hr hlocks hw (congrArg (fun z0 => (VC g q z0)) (sm_eq h)) dX3_carryOut_20
  · replace h := ite_f c2 h
    refine lv_iload_n hx hb dX3_carryOut_10 rfl (lv_at hl 0 rfl) ?_
    refine lv_iconst (v := 0) hx hb dX3_carryOut_11 (by decide) ?_
    refine lv_bipush (v := 8) hx hb dX3_carryOut_12 (by decide) ?_
    obtain ⟨x3, g4, h⟩ := bd_ex h
    refine c_SN (As := [.int x1, .int (0 : Int32), .int (8 : Int32)]) (rest := []) (w' := (VC g q d)) cx hw (c_X4_isWithin l g  N x1 (0 : Int32) (8 : Int32)  x3 g4) (cl_X3_84 cx.1.2.2.2.2 cx.2.2.1 ⟨Nat.le_of_ble_eq_true rfl, Nat.le_of_ble_eq_true rfl⟩) Ct.nil hl.1 rfl rfl (Nat.le_of_ble_eq_true rfl) dX3_carryOut_14 ⟨Nat.le_of_ble_eq_true rfl, Nat.le_of_ble_eq_true rfl⟩ (st1 := [.int x3]) rfl (fun H locs hw => ?_)
    refine lv_if_ne (tgt := 21) hx hb dX3_carryOut_17 (by decide) (fun c5 => ?_) (fun c5 => ?_)
    · replace h := ite_f c5 h
      refine lv_aload_n hx hb dX3_carryOut_21 rfl (lv_at hl 1 rfl) ?_
      refine gf_X3_39 cx hw 0 rfl rfl dX3_carryOut_22 ?_
      refine lv_iload_n hx hb dX3_carryOut_25 rfl (lv_at hl 2 rfl) ?_
      refine lv_aload_n hx hb dX3_carryOut_26 rfl (lv_at hl 1 rfl) ?_
      refine gf_X3_39 cx hw 0 rfl rfl dX3_carryOut_27 ?_
      refine lv_iload_n hx hb dX3_carryOut_30 rfl (lv_at hl 2 rfl) ?_
      have ix6 := rd_in h
      refine x_iald cx hw 10 rfl ix6 dX3_carryOut_31 ?_
      refine lv_topi (fun x6 ex6 => ?_)
      replace h := rd_nx ex6 h
      refine lv_iload_n hx hb dX3_carryOut_32 rfl (lv_at hl 0 rfl) ?_
      refine lv_iload_n hx hb dX3_carryOut_33 rfl (lv_at hl 3 rfl) ?_
      refine lv_bipush (v := 10) hx hb dX3_carryOut_34 (by decide) ?_
      refine lv_irem hx hb dX3_carryOut_36 (by decide) ?_
      obtain ⟨x7, g8, h⟩ := bd_ex h
      refine c_SN (As := [.int x6, .int x1, .int (p2 - p2 / (10 : Int32) * (10 : Int32))]) (rest := [.int p1, .ref (q 10)]) (w' := (VC g q d)) cx hw (c_X4_withWay l g  N x6 x1 (p2 - p2 / (10 : Int32) * (10 : Int32))  x7 g8) (cl_X3_136 cx.1.2.2.2.2 cx.2.2.1 ⟨Nat.le_of_ble_eq_true rfl, Nat.le_of_ble_eq_true rfl⟩) Ct.nil hl.1 rfl rfl (Nat.le_of_ble_eq_true rfl) dX3_carryOut_37 ⟨Nat.le_of_ble_eq_true rfl, Nat.le_of_ble_eq_true rfl⟩ (st1 := [.int x7, .int p1, .ref (q 10)]) rfl (fun H locs hw => ?_)
      have i9 := ck_in h
      replace h := ck_nx h
      refine x_iast cx hw 10 rfl i9 dX3_carryOut_40 (fun H locs hw => ?_)
      obtain ⟨d10, ed10, h⟩ := lt_ex h
      have hw : Wd g (va_A ((VC g q d)) s.heap.size) ((VC g q d10)) s H locs := by rw [ed10]; exact hw
      refine lv_aload_n hx hb dX3_carryOut_41 rfl (lv_at hl 1 rfl) ?_
      refine gf_X3_30 cx hw 0 rfl rfl dX3_carryOut_42 ?_
      refine lv_iload_n hx hb dX3_carryOut_45 rfl (lv_at hl 2 rfl) ?_
      refine lv_dup2_11 hx hb dX3_carryOut_46 rfl rfl ?_
      have ix11 := rd_in h
      refine x_iald cx hw 7 rfl ix11 dX3_carryOut_47 ?_
      refine lv_topi (fun x11 ex11 => ?_)
      replace h := rd_nx ex11 h
      refine lv_aload_n hx hb dX3_carryOut_48 rfl (lv_at hl 1 rfl) ?_
      refine gf_X3_15 cx hw 0 rfl rfl dX3_carryOut_49 ?_
      refine lv_iload_n hx hb dX3_carryOut_52 rfl (lv_at hl 0 rfl) ?_
      have ix12 := rd_in h
      refine x_iald cx hw 2 rfl ix12 dX3_carryOut_53 ?_
      refine lv_topi (fun x12 ex12 => ?_)
      replace h := rd_nx ex12 h
      refine lv_isub hx hb dX3_carryOut_54 ?_
      have i13 := ck_in h
      replace h := ck_nx h
      refine x_iast cx hw 7 rfl i13 dX3_carryOut_55 (fun H locs hw => ?_)
      obtain ⟨d14, ed14, h⟩ := lt_ex h
      have hw : Wd g (va_A ((VC g q d)) s.heap.size) ((VC g q d14)) s H locs := by rw [ed14]; exact hw
      exact r_v cx hr hlocks hw (congrArg (fun z0 => (VC g q z0)) (sm_eq h)) dX3_carryOut_56
    · replace h := ite_t c5 h
      exact r_v cx hr hlocks hw (congrArg (fun z0 => (VC g q z0)) (sm_eq h)) dX3_carryOut_20
set_option maxHeartbeats 4000000 in
set_option maxRecDepth 100000 in
theorem c_X3_heirWithout (l : Launch) (g : gE) (q : Nat → Nat) (N : Nat) (p1 : Int32) (p2 : Int32) (d : VD) (r : Int32) (d' : VD) (h : f_X3_heirWithout N  p1 p2 d = some (r, d')) : MO l yX3_heirWithout (Cond.code yX3_heirWithout cX3_heirWithout 4 (some .int) :: TB) rm_X3_heirWithout [.ref (q 0), .int p1, .int p2] g ((VC g q d)) ((VC g q d')) (some (.int r)) 0 0 := by
  refine MO.of (cc := cX3_heirWithout) (maxL := 4) (ret := (some .int)) (by decide) ?_
  intro p e s m below meth c cx hw hr hlocks _
  have hx := cx.1.1
  have hb := cx.1.2.1
  refine en_go (lv := [(0, .ref (q 0)), (1, .int p1), (2, .int p2)]) (Nat.le_of_ble_eq_true rfl) rfl (fun ls hl => ?_)
  unfold f_X3_heirWithout at h
  refine lv_aload_n hx hb dX3_heirWithout_0 rfl (lv_at hl 0 rfl) ?_
  refine lv_dup hx hb dX3_heirWithout_1 rfl ?_
  refine gf_X3_67 cx hw 0 rfl rfl dX3_heirWithout_2 ?_
  refine lv_iconst (v := 1) hx hb dX3_heirWithout_5 (by decide) ?_
  refine lv_iload_n hx hb dX3_heirWithout_6 rfl (lv_at hl 2 rfl) ?_
  refine lv_ishl hx hb dX3_heirWithout_7 ?_
  refine lv_iconst (v := -1) hx hb dX3_heirWithout_8 (by decide) ?_
  refine lv_ixor hx hb dX3_heirWithout_9 ?_
  refine lv_iand hx hb dX3_heirWithout_10 ?_
  refine pf_X3_67 cx hw 0 rfl rfl rfl (Nat.le_of_ble_eq_true rfl) dX3_heirWithout_11 (fun H locs hw => ?_)
  obtain ⟨d1, ed1, h⟩ := lt_ex h
  have hw : Wd g (va_A ((VC g q d)) s.heap.size) ((VC g q d1)) s H locs := by rw [ed1]; exact hw
  refine lv_aload_n hx hb dX3_heirWithout_14 rfl (lv_at hl 0 rfl) ?_
  refine lv_iload_n hx hb dX3_heirWithout_15 rfl (lv_at hl 1 rfl) ?_
  obtain ⟨x2, g3, h⟩ := bd_ex h
  refine c_V (As := [.int p1]) (rest := []) (w' := (VC g q d1)) cx hw (c_X3_heirFor l g q N p1 d1 x2 g3) (cl_X3_99 cx.1.2.2.2.2 ⟨Nat.le_of_ble_eq_true rfl, Nat.le_of_ble_eq_true rfl⟩) (x_recv cx hw (ci := 3) rfl 0 rfl) (Ct.all (VC_ll ..)) hl.1 rfl rfl (Nat.le_of_ble_eq_true rfl) dX3_heirWithout_16 ⟨Nat.le_of_ble_eq_true rfl, Nat.le_of_ble_eq_true rfl⟩ (st1 := [.int x2]) rfl (fun H locs hw => ?_)
  refine lv_istore_n (lv' := [(3, .int x2), (0, .ref (q 0)), (1, .int p1), (2, .int p2)]) hx hb dX3_heirWithout_19 rfl hl (by decide) rfl (fun ls hl => ?_)
  refine lv_aload_n hx hb dX3_heirWithout_20 rfl (lv_at hl 1 rfl) ?_
  refine lv_dup hx hb dX3_heirWithout_21 rfl ?_
  refine gf_X3_67 cx hw 0 rfl rfl dX3_heirWithout_22 ?_
  refine lv_iconst (v := 1) hx hb dX3_heirWithout_25 (by decide) ?_
  refine lv_iload_n hx hb dX3_heirWithout_26 rfl (lv_at hl 3 rfl) ?_
  refine lv_ishl hx hb dX3_heirWithout_27 ?_
  refine lv_ior hx hb dX3_heirWithout_28 ?_
  refine pf_X3_67 cx hw 0 rfl rfl rfl (Nat.le_of_ble_eq_true rfl) dX3_heirWithout_29 (fun H locs hw => ?_)
  obtain ⟨d4, ed4, h⟩ := lt_ex h
  have hw : Wd g (va_A ((VC g q d)) s.heap.size) ((VC g q d4)) s H locs := by rw [ed4]; exact hw
  refine lv_iload_n hx hb dX3_heirWithout_32 rfl (lv_at hl 0 rfl) ?_
  exact r_i cx hr hlocks hw (pr1 h) (congrArg (fun z0 => (VC g q z0)) (pr2 h)) dX3_heirWithout_33
set_option maxHeartbeats 4000000 in
set_option maxRecDepth 100000 in
theorem c_X3_give (l : Launch) (g : gE) (q : Nat → Nat) (N : Nat) (p1 : Int32) (p2 : Int32) (d : VD) (d' : VD) (h : f_X3_give N  p1 p2 d = some d') : MO l yX3_give (Cond.code yX3_give cX3_give 3 none :: TB) rm_X3_give [.ref (q 0), .int p1, .int p2] g ((VC g q d)) ((VC g q d')) none 0 0 := by
  refine MO.of (cc := cX3_give) (maxL := 3) (ret := none) (by decide) ?_
  intro p e s m below meth c cx hw hr hlocks _
  have hx := cx.1.1
  have hb := cx.1.2.1
  refine en_go (lv := [(0, .ref (q 0)), (1, .int p1), (2, .int p2)]) (Nat.le_of_ble_eq_true rfl) rfl (fun ls hl => ?_)
  unfold f_X3_give at h
  refine lv_aload_n hx hb dX3_give_0 rfl (lv_at hl 0 rfl) ?_
  refine gf_X3_30 cx hw 0 rfl rfl dX3_give_1 ?_
  refine lv_iload_n hx hb dX3_give_4 rfl (lv_at hl 1 rfl) ?_
  refine lv_ldc hx hb cx.1.2.2.2.1 (cx.1.2.2.2.2 _ tw_2_156) dX3_give_5 ?_
  refine lv_aload_n hx hb dX3_give_7 rfl (lv_at hl 0 rfl) ?_
  refine gf_X3_30 cx hw 0 rfl rfl dX3_give_8 ?_
  refine lv_iload_n hx hb dX3_give_11 rfl (lv_at hl 1 rfl) ?_
  have ix1 := rd_in h
  refine x_iald cx hw 7 rfl ix1 dX3_give_12 ?_
  refine lv_topi (fun x1 ex1 => ?_)
  replace h := rd_nx ex1 h
  refine lv_iload_n hx hb dX3_give_13 rfl (lv_at hl 2 rfl) ?_
  refine lv_iadd hx hb dX3_give_14 ?_
  refine va_mmin hx hb (cx.1.2.2.1.trans hl.1.symm) cx.1.2.2.2.1 (cx.1.2.2.2.2 _ tw_2_141) (cx.1.2.2.2.2 _ tw_2_142) (cx.1.2.2.2.2 _ tw_1_9) (cx.1.2.2.2.2 _ tw_2_143) (Nat.le_of_ble_eq_true rfl) (Nat.le_of_ble_eq_true rfl) (Nat.le_of_ble_eq_true rfl) (Nat.le_of_ble_eq_true rfl) dX3_give_15 ?_
  have i2 := ck_in h
  replace h := ck_nx h
  refine x_iast cx hw 7 rfl i2 dX3_give_18 (fun H locs hw => ?_)
  obtain ⟨d3, ed3, h⟩ := lt_ex h
  have hw : Wd g (va_A ((VC g q d)) s.heap.size) ((VC g q d3)) s H locs := by rw [ed3]; exact hw
  exact r_v cx hr hlocks hw (congrArg (fun z0 => (VC g q z0)) (sm_eq h)) dX3_give_19
set_option maxHeartbeats 4000000 in
set_option maxRecDepth 100000 in
theorem c_X3_letDie (l : Launch) (g : gE) (q : Nat → Nat) (N : Nat) (p1 : Int32) (d : VD) (r : Int32) (d' : VD) (h : f_X3_letDie N  p1 d = some (r, d')) : MO l yX3_letDie (Cond.code yX3_letDie cX3_letDie 6 (some .int) :: TB) rm_X3_letDie [.ref (q 0), .int p1] g ((VC g q d)) ((VC g q d')) (some (.int r)) 0 0 := by
  refine MO.of (cc := cX3_letDie) (maxL := 6) (ret := (some .int)) (by decide) ?_
  intro p e s m below meth c cx hw hr hlocks _
  have hx := cx.1.1
  have hb := cx.1.2.1
  refine en_go (lv := [(0, .ref (q 0)), (1, .int p1)]) (Nat.le_of_ble_eq_true rfl) rfl (fun ls hl => ?_)
  have J90 : ∀ (a2 : Int32) (a3 : Int32) (a5 : Int32) (d_ : VD) (H : Heap) (locs : List Loc) (ls : Array Slot), Wd g (va_A ((VC g q d)) s.heap.size) ((VC g q d_)) s H locs → lv_has ls 6 [(0, .ref (q 0)), (2, .int a2), (3, .int a3), (5, .int a5)] → f_X3_letDie_J90 N   a2 a3 a5 d_ = some (r, d') → W p l e rm_X3_letDie s m ([.ref (q 0), .int p1] : List Value).toArray below meth c H locs 0 0 (MQ below (QO (some (.int r)) g ((VC g q d')) (va_A ((VC g q d)) s.heap.size)) ([.ref (q 0), .int p1] : List Value).toArray s 0 0 (va_A ((VC g q d)) s.heap.size)) (F0 m 90 ls []) := by
    intro a2 a3 a5 d_ H locs ls hw hl h
    unfold f_X3_letDie_J90 at h
    refine lv_aload_n hx hb dX3_letDie_90 rfl (lv_at hl 0 rfl) ?_
    refine lv_iload_n hx hb dX3_letDie_91 rfl (lv_at hl 1 rfl) ?_
    refine lv_iload_n hx hb dX3_letDie_92 rfl (lv_at hl 2 rfl) ?_
    refine lv_iload hx hb dX3_letDie_93 (lv_at hl 3 rfl) ?_
    refine lv_isub hx hb dX3_letDie_95 ?_
    obtain ⟨d20, g21, h⟩ := bd_ex h
    refine c_V (As := [.int a2, .int (a3 - a5)]) (rest := []) (w' := (VC g q d20)) cx hw (c_X3_give l g q N a2 (a3 - a5) d_ d20 g21) (cl_X3_143 cx.1.2.2.2.2 ⟨Nat.le_of_ble_eq_true rfl, Nat.le_of_ble_eq_true rfl⟩) (x_recv cx hw (ci := 3) rfl 0 rfl) (Ct.all (VC_ll ..)) hl.1 rfl rfl (Nat.le_of_ble_eq_true rfl) dX3_letDie_96 ⟨Nat.le_of_ble_eq_true rfl, Nat.le_of_ble_eq_true rfl⟩ (st1 := []) rfl (fun H locs hw => ?_)
    refine lv_iload_n hx hb dX3_letDie_99 rfl (lv_at hl 1 rfl) ?_
    exact r_i cx hr hlocks hw (pr1 h) (congrArg (fun z0 => (VC g q z0)) (pr2 h)) dX3_letDie_100
  have J66 : ∀ (a2 : Int32) (a3 : Int32) (t0 : Int32) (d_ : VD) (H : Heap) (locs : List Loc) (ls : Array Slot), Wd g (va_A ((VC g q d)) s.heap.size) ((VC g q d_)) s H locs → lv_has ls 6 [(0, .ref (q 0)), (2, .int a2), (3, .int a3)] → f_X3_letDie_J66 N   a2 a3 t0 d_ = some (r, d') → W p l e rm_X3_letDie s m ([.ref (q 0), .int p1] : List Value).toArray below meth c H locs 0 0 (MQ below (QO (some (.int r)) g ((VC g q d')) (va_A ((VC g q d)) s.heap.size)) ([.ref (q 0), .int p1] : List Value).toArray s 0 0 (va_A ((VC g q d)) s.heap.size)) (F0 m 66 ls [.int t0]) := by
    intro a2 a3 t0 d_ H locs ls hw hl h
    unfold f_X3_letDie_J66 at h
    refine lv_istore (lv' := [(4, .int t0), (0, .ref (q 0)), (2, .int a2), (3, .int a3)]) hx hb dX3_letDie_66 hl (by decide) rfl (fun ls hl => ?_)
    refine lv_iconst (v := 0) hx hb dX3_letDie_68 (by decide) ?_
    refine lv_istore (lv' := [(5, .int (0 : Int32)), (4, .int t0), (0, .ref (q 0)), (2, .int a2), (3, .int a3)]) hx hb dX3_letDie_69 hl (by decide) rfl (fun ls hl => ?_)
    refine lv_iload hx hb dX3_letDie_71 (lv_at hl 1 rfl) ?_
    refine lv_iconst (v := -1) hx hb dX3_letDie_73 (by decide) ?_
    refine lv_icmp_eq (tgt := 90) hx hb dX3_letDie_74 (by decide) (fun c22 => ?_) (fun c22 => ?_)
    · replace h := ite_t c22 h
      exact J90 a2 a3 (0 : Int32) d_ _ _ _ hw (lv_sub hl [2, 3, 4, 0] rfl) h
    · replace h := ite_f c22 h
      refine lv_iload_n hx hb dX3_letDie_77 rfl (lv_at hl 4 rfl) ?_
      refine lv_iconst (v := 2) hx hb dX3_letDie_78 (by decide) ?_
      refine lv_idiv hx hb dX3_letDie_79 (by decide) ?_
      refine lv_topi (fun x23 ex23 => ?_)
      replace h := lt_nx ex23 h
      refine lv_istore (lv' := [(5, .int x23), (4, .int t0), (0, .ref (q 0)), (2, .int a2), (3, .int a3)]) hx hb dX3_letDie_80 hl (by decide) rfl (fun ls hl => ?_)
      refine lv_aload_n hx hb dX3_letDie_82 rfl (lv_at hl 2 rfl) ?_
      refine lv_iload hx hb dX3_letDie_83 (lv_at hl 1 rfl) ?_
      refine lv_iload hx hb dX3_letDie_85 (lv_at hl 0 rfl) ?_
      obtain ⟨d24, g25, h⟩ := bd_ex h
      refine c_V (As := [.int t0, .int x23]) (rest := []) (w' := (VC g q d24)) cx hw (c_X3_give l g q N t0 x23 d_ d24 g25) (cl_X3_143 cx.1.2.2.2.2 ⟨Nat.le_of_ble_eq_true rfl, Nat.le_of_ble_eq_true rfl⟩) (x_recv cx hw (ci := 3) rfl 0 rfl) (Ct.all (VC_ll ..)) hl.1 rfl rfl (Nat.le_of_ble_eq_true rfl) dX3_letDie_87 ⟨Nat.le_of_ble_eq_true rfl, Nat.le_of_ble_eq_true rfl⟩ (st1 := []) rfl (fun H locs hw => ?_)
      exact J90 a2 a3 x23 d24 _ _ _ hw (lv_sub hl [2, 3, 4, 0] rfl) h
  unfold f_X3_letDie at h
  refine lv_aload_n hx hb dX3_letDie_0 rfl (lv_at hl 0 rfl) ?_
  refine lv_dup hx hb dX3_letDie_1 rfl ?_
  refine gf_X3_67 cx hw 0 rfl rfl dX3_letDie_2 ?_
  refine lv_iconst (v := 1) hx hb dX3_letDie_5 (by decide) ?_
  refine lv_iload_n hx hb dX3_letDie_6 rfl (lv_at hl 1 rfl) ?_
  refine lv_ishl hx hb dX3_letDie_7 ?_
  refine lv_iconst (v := -1) hx hb dX3_letDie_8 (by decide) ?_
  refine lv_ixor hx hb dX3_letDie_9 ?_
  refine lv_iand hx hb dX3_letDie_10 ?_
  refine pf_X3_67 cx hw 0 rfl rfl rfl (Nat.le_of_ble_eq_true rfl) dX3_letDie_11 (fun H locs hw => ?_)
  obtain ⟨d1, ed1, h⟩ := lt_ex h
  have hw : Wd g (va_A ((VC g q d)) s.heap.size) ((VC g q d1)) s H locs := by rw [ed1]; exact hw
  refine lv_aload_n hx hb dX3_letDie_14 rfl (lv_at hl 0 rfl) ?_
  refine lv_iload_n hx hb dX3_letDie_15 rfl (lv_at hl 1 rfl) ?_
  obtain ⟨x2, g3, h⟩ := bd_ex h
  refine c_V (As := [.int p1]) (rest := []) (w' := (VC g q d1)) cx hw (c_X3_heirFor l g q N p1 d1 x2 g3) (cl_X3_99 cx.1.2.2.2.2 ⟨Nat.le_of_ble_eq_true rfl, Nat.le_of_ble_eq_true rfl⟩) (x_recv cx hw (ci := 3) rfl 0 rfl) (Ct.all (VC_ll ..)) hl.1 rfl rfl (Nat.le_of_ble_eq_true rfl) dX3_letDie_16 ⟨Nat.le_of_ble_eq_true rfl, Nat.le_of_ble_eq_true rfl⟩ (st1 := [.int x2]) rfl (fun H locs hw => ?_)
  refine lv_istore_n (lv' := [(2, .int x2), (0, .ref (q 0)), (1, .int p1)]) hx hb dX3_letDie_19 rfl hl (by decide) rfl (fun ls hl => ?_)
  refine lv_aload_n hx hb dX3_letDie_20 rfl (lv_at hl 1 rfl) ?_
  refine gf_X3_30 cx hw 0 rfl rfl dX3_letDie_21 ?_
  refine lv_iload_n hx hb dX3_letDie_24 rfl (lv_at hl 2 rfl) ?_
  have ix4 := rd_in h
  refine x_iald cx hw 7 rfl ix4 dX3_letDie_25 ?_
  refine lv_topi (fun x4 ex4 => ?_)
  replace h := rd_nx ex4 h
  refine lv_istore_n (lv' := [(3, .int x4), (2, .int x2), (0, .ref (q 0)), (1, .int p1)]) hx hb dX3_letDie_26 rfl hl (by decide) rfl (fun ls hl => ?_)
  refine lv_aload_n hx hb dX3_letDie_27 rfl (lv_at hl 2 rfl) ?_
  refine gf_X3_30 cx hw 0 rfl rfl dX3_letDie_28 ?_
  refine lv_iload_n hx hb dX3_letDie_31 rfl (lv_at hl 3 rfl) ?_
  refine lv_iconst (v := 0) hx hb dX3_letDie_32 (by decide) ?_
  have i5 := ck_in h
  replace h := ck_nx h
  refine x_iast cx hw 7 rfl i5 dX3_letDie_33 (fun H locs hw => ?_)
  obtain ⟨d6, ed6, h⟩ := lt_ex h
  have hw : Wd g (va_A ((VC g q d)) s.heap.size) ((VC g q d6)) s H locs := by rw [ed6]; exact hw
  refine lv_aload_n hx hb dX3_letDie_34 rfl (lv_at hl 2 rfl) ?_
  refine gf_X3_42 cx hw 0 rfl rfl dX3_letDie_35 ?_
  refine lv_iload_n hx hb dX3_letDie_38 rfl (lv_at hl 3 rfl) ?_
  refine lv_iload_n hx hb dX3_letDie_39 rfl (lv_at hl 1 rfl) ?_
  have i7 := ck_in h
  replace h := ck_nx h
  refine x_iast cx hw 11 rfl i7 dX3_letDie_40 (fun H locs hw => ?_)
  obtain ⟨d8, ed8, h⟩ := lt_ex h
  have hw : Wd g (va_A ((VC g q d)) s.heap.size) ((VC g q d8)) s H locs := by rw [ed8]; exact hw
  refine lv_iload_n hx hb dX3_letDie_41 rfl (lv_at hl 1 rfl) ?_
  refine lv_iconst (v := -1) hx hb dX3_letDie_42 (by decide) ?_
  refine lv_icmp_ne (tgt := 48) hx hb dX3_letDie_43 (by decide) (fun c9 => ?_) (fun c9 => ?_)
  · replace h := ite_f c9 h
    refine lv_aload_n hx hb dX3_letDie_48 rfl (lv_at hl 2 rfl) ?_
    refine gf_X3_70 cx hw 0 rfl rfl dX3_letDie_49 ?_
    refine lv_iconst (v := 2) hx hb dX3_letDie_52 (by decide) ?_
    refine lv_icmp_ne (tgt := 65) hx hb dX3_letDie_53 (by decide) (fun c10 => ?_) (fun c10 => ?_)
    · replace h := ite_f c10 h
      refine lv_iconst (v := -1) hx hb dX3_letDie_65 (by decide) ?_
      exact J66 x2 x4 (-1 : Int32) d8 _ _ _ hw (lv_sub hl [2, 1, 0] rfl) h
    · replace h := ite_t c10 h
      refine lv_aload_n hx hb dX3_letDie_56 rfl (lv_at hl 2 rfl) ?_
      refine lv_iload_n hx hb dX3_letDie_57 rfl (lv_at hl 3 rfl) ?_
      refine lv_iload_n hx hb dX3_letDie_58 rfl (lv_at hl 1 rfl) ?_
      obtain ⟨x11, d12, g13, h⟩ := bd2_ex h
      refine c_V (As := [.int p1, .int x2]) (rest := []) (w' := (VC g q d12)) cx hw (c_X3_heirWithout l g q N p1 x2 d8 x11 d12 g13) (cl_X3_140 cx.1.2.2.2.2 ⟨Nat.le_of_ble_eq_true rfl, Nat.le_of_ble_eq_true rfl⟩) (x_recv cx hw (ci := 3) rfl 0 rfl) (Ct.all (VC_ll ..)) hl.1 rfl rfl (Nat.le_of_ble_eq_true rfl) dX3_letDie_59 ⟨Nat.le_of_ble_eq_true rfl, Nat.le_of_ble_eq_true rfl⟩ (st1 := [.int x11]) rfl (fun H locs hw => ?_)
      refine lv_goto (tgt := 66) hx hb dX3_letDie_62 (by decide) ?_
      exact J66 x2 x4 x11 d12 _ _ _ hw (lv_sub hl [2, 1, 0] rfl) h
  · replace h := ite_t c9 h
    refine lv_iconst (v := -1) hx hb dX3_letDie_46 (by decide) ?_
    exact r_i cx hr hlocks hw (pr1 h) (congrArg (fun z0 => (VC g q z0)) (pr2 h)) dX3_letDie_47
set_option maxHeartbeats 4000000 in
set_option maxRecDepth 100000 in
theorem c_X3_goYears (l : Launch) (g : gE) (q : Nat → Nat) (N : Nat) (p1 : Int32) (d : VD) (r : Int32) (d' : VD) (h : f_X3_goYears N  p1 d = some (r, d')) : MO l yX3_goYears (Cond.code yX3_goYears cX3_goYears 5 (some .int) :: TB) rm_X3_goYears [.ref (q 0), .int p1] g ((VC g q d)) ((VC g q d')) (some (.int r)) 0 0 := by
  refine MO.of (cc := cX3_goYears) (maxL := 5) (ret := (some .int)) (by decide) ?_
  intro p e s m below meth c cx hw hr hlocks _
  have hx := cx.1.1
  have hb := cx.1.2.1
  refine en_go (lv := [(0, .ref (q 0)), (1, .int p1)]) (Nat.le_of_ble_eq_true rfl) rfl (fun ls hl => ?_)
  have L4 : ∀ (n4 : Nat) (a1 : Int32) (a2 : Int32) (a3 : Int32) (d_ : VD) (H : Heap) (locs : List Loc) (ls : Array Slot), Wd g (va_A ((VC g q d)) s.heap.size) ((VC g q d_)) s H locs → lv_has ls 5 [(0, .ref (q 0)), (1, .int a1), (2, .int a2), (3, .int a3)] → f_X3_goYears_L4 N   n4 a1 a2 a3 d_ = some (r, d') → W p l e rm_X3_goYears s m ([.ref (q 0), .int p1] : List Value).toArray below meth c H locs 0 0 (MQ below (QO (some (.int r)) g ((VC g q d')) (va_A ((VC g q d)) s.heap.size)) ([.ref (q 0), .int p1] : List Value).toArray s 0 0 (va_A ((VC g q d)) s.heap.size)) (F0 m 4 ls []) := by
    intro n4
    induction n4 with
    | zero => intro a1 a2 a3 d_ H locs ls hw hl h; exact (Option.some_ne_none _ h.symm).elim
    | succ n4 ih4 =>
      have L99 : ∀ (n99 : Nat) (a1 : Int32) (a2 : Int32) (a3 : Int32) (a4 : Int32) (d_ : VD) (H : Heap) (locs : List Loc) (ls : Array Slot), Wd g (va_A ((VC g q d)) s.heap.size) ((VC g q d_)) s H locs → lv_has ls 5 [(0, .ref (q 0)), (1, .int a1), (2, .int a2), (3, .int a3), (4, .int a4)] → f_X3_goYears_L99 N  (f_X3_goYears_L4 N   n4) n99 a1 a2 a3 a4 d_ = some (r, d') → W p l e rm_X3_goYears s m ([.ref (q 0), .int p1] : List Value).toArray below meth c H locs 0 0 (MQ below (QO (some (.int r)) g ((VC g q d')) (va_A ((VC g q d)) s.heap.size)) ([.ref (q 0), .int p1] : List Value).toArray s 0 0 (va_A ((VC g q d)) s.heap.size)) (F0 m 99 ls []) := by
        intro n99
        induction n99 with
        | zero => intro a1 a2 a3 a4 d_ H locs ls hw hl h; exact (Option.some_ne_none _ h.symm).elim
        | succ n99 ih99 =>
          intro a1 a2 a3 a4 d_ H locs ls hw hl h
          rw [f_X3_goYears_L99] at h
          refine lv_iload hx hb dX3_goYears_99 (lv_at hl 4 rfl) ?_
          refine lv_aload_n hx hb dX3_goYears_101 rfl (lv_at hl 0 rfl) ?_
          refine gf_X3_63 cx hw 0 rfl rfl dX3_goYears_102 ?_
          refine lv_icmp_ge (tgt := 163) hx hb dX3_goYears_105 (by decide) (fun c39 => ?_) (fun c39 => ?_)
          · replace h := ite_t c39 h
            refine lv_aload_n hx hb dX3_goYears_163 rfl (lv_at hl 0 rfl) ?_
            refine lv_dup hx hb dX3_goYears_164 rfl ?_
            refine gf_X3_73 cx hw 0 rfl rfl dX3_goYears_165 ?_
            refine lv_iconst (v := 1) hx hb dX3_goYears_168 (by decide) ?_
            refine lv_iadd hx hb dX3_goYears_169 ?_
            refine pf_X3_73 cx hw 0 rfl rfl rfl (Nat.le_of_ble_eq_true rfl) dX3_goYears_170 (fun H locs hw => ?_)
            obtain ⟨d40, ed40, h⟩ := lt_ex h
            have hw : Wd g (va_A ((VC g q d)) s.heap.size) ((VC g q d40)) s H locs := by rw [ed40]; exact hw
            obtain ⟨x41, ex41⟩ : ∃ y : Int32, y = (a3 + 1) := ⟨_, rfl⟩
            replace h := lt_nx ex41 h
            refine lv_iinc (v := x41) (lv' := [(3, .int x41), (0, .ref (q 0)), (1, .int a1), (2, .int a2), (4, .int a4)]) hx hb dX3_goYears_173 hl (k := 3) rfl (by rw [ex41]; rfl) (by decide) rfl (fun ls hl => ?_)
            refine lv_goto (tgt := 4) hx hb dX3_goYears_176 (by decide) ?_
            exact ih4 a1 a2 x41 d40 _ _ _ hw (lv_sub hl [1, 2, 3, 0] rfl) h
          · replace h := ite_f c39 h
            refine lv_aload_n hx hb dX3_goYears_108 rfl (lv_at hl 0 rfl) ?_
            refine lv_iload hx hb dX3_goYears_109 (lv_at hl 4 rfl) ?_
            obtain ⟨x42, g43, h⟩ := bd_ex h
            refine c_V (As := [.int a4]) (rest := []) (w' := (VC g q d_)) cx hw (c_X3_lives l g q N a4 d_ x42 g43) (cl_X3_92 cx.1.2.2.2.2 ⟨Nat.le_of_ble_eq_true rfl, Nat.le_of_ble_eq_true rfl⟩) (x_recv cx hw (ci := 3) rfl 0 rfl) (Ct.all (VC_ll ..)) hl.1 rfl rfl (Nat.le_of_ble_eq_true rfl) dX3_goYears_111 ⟨Nat.le_of_ble_eq_true rfl, Nat.le_of_ble_eq_true rfl⟩ (st1 := [.int x42]) rfl (fun H locs hw => ?_)
            refine lv_if_eq (tgt := 157) hx hb dX3_goYears_114 (by decide) (fun c44 => ?_) (fun c44 => ?_)
            · replace h := ite_t c44 h
              obtain ⟨x45, ex45⟩ : ∃ y : Int32, y = (a4 + 1) := ⟨_, rfl⟩
              replace h := lt_nx ex45 h
              refine lv_iinc (v := x45) (lv' := [(4, .int x45), (0, .ref (q 0)), (1, .int a1), (2, .int a2), (3, .int a3)]) hx hb dX3_goYears_157 hl (k := 4) rfl (by rw [ex45]; rfl) (by decide) rfl (fun ls hl => ?_)
              refine lv_goto (tgt := 99) hx hb dX3_goYears_160 (by decide) ?_
              exact ih99 a1 a2 a3 x45 d_ _ _ _ hw (lv_sub hl [1, 2, 3, 4, 0] rfl) h
            · replace h := ite_f c44 h
              refine lv_aload_n hx hb dX3_goYears_117 rfl (lv_at hl 0 rfl) ?_
              refine gf_X3_27 cx hw 0 rfl rfl dX3_goYears_118 ?_
              refine lv_iload hx hb dX3_goYears_121 (lv_at hl 4 rfl) ?_
              have ix46 := rd_in h
              refine x_iald cx hw 6 rfl ix46 dX3_goYears_123 ?_
              refine lv_topi (fun x46 ex46 => ?_)
              replace h := rd_nx ex46 h
              refine lv_aload_n hx hb dX3_goYears_124 rfl (lv_at hl 0 rfl) ?_
              refine gf_X3_33 cx hw 0 rfl rfl dX3_goYears_125 ?_
              refine lv_iload hx hb dX3_goYears_128 (lv_at hl 4 rfl) ?_
              have ix47 := rd_in h
              refine x_iald cx hw 8 rfl ix47 dX3_goYears_130 ?_
              refine lv_topi (fun x47 ex47 => ?_)
              replace h := rd_nx ex47 h
              refine lv_icmp_lt (tgt := 157) hx hb dX3_goYears_131 (by decide) (fun c48 => ?_) (fun c48 => ?_)
              · replace h := ite_t c48 h
                obtain ⟨x49, ex49⟩ : ∃ y : Int32, y = (a4 + 1) := ⟨_, rfl⟩
                replace h := lt_nx ex49 h
                refine lv_iinc (v := x49) (lv' := [(4, .int x49), (0, .ref (q 0)), (1, .int a1), (2, .int a2), (3, .int a3)]) hx hb dX3_goYears_157 hl (k := 4) rfl (by rw [ex49]; rfl) (by decide) rfl (fun ls hl => ?_)
                refine lv_goto (tgt := 99) hx hb dX3_goYears_160 (by decide) ?_
                exact ih99 a1 a2 a3 x49 d_ _ _ _ hw (lv_sub hl [1, 2, 3, 4, 0] rfl) h
              · replace h := ite_f c48 h
                refine lv_aload_n hx hb dX3_goYears_134 rfl (lv_at hl 0 rfl) ?_
                refine lv_iload hx hb dX3_goYears_135 (lv_at hl 4 rfl) ?_
                obtain ⟨x50, d51, g52, h⟩ := bd2_ex h
                refine c_V (As := [.int a4]) (rest := []) (w' := (VC g q d51)) cx hw (c_X3_letDie l g q N a4 d_ x50 d51 g52) (cl_X3_133 cx.1.2.2.2.2 ⟨Nat.le_of_ble_eq_true rfl, Nat.le_of_ble_eq_true rfl⟩) (x_recv cx hw (ci := 3) rfl 0 rfl) (Ct.all (VC_ll ..)) hl.1 rfl rfl (Nat.le_of_ble_eq_true rfl) dX3_goYears_137 ⟨Nat.le_of_ble_eq_true rfl, Nat.le_of_ble_eq_true rfl⟩ (st1 := [.int x50]) rfl (fun H locs hw => ?_)
                refine lv_pop hx hb dX3_goYears_140 rfl ?_
                refine lv_aload_n hx hb dX3_goYears_141 rfl (lv_at hl 0 rfl) ?_
                refine gf_X3_45 cx hw 0 rfl rfl dX3_goYears_142 ?_
                refine lv_iload hx hb dX3_goYears_145 (lv_at hl 4 rfl) ?_
                refine lv_aload_n hx hb dX3_goYears_147 rfl (lv_at hl 0 rfl) ?_
                refine gf_X3_73 cx hw 0 rfl rfl dX3_goYears_148 ?_
                refine lv_iconst (v := 1) hx hb dX3_goYears_151 (by decide) ?_
                refine lv_iadd hx hb dX3_goYears_152 ?_
                have i53 := ck_in h
                replace h := ck_nx h
                refine x_iast cx hw 12 rfl i53 dX3_goYears_153 (fun H locs hw => ?_)
                obtain ⟨d54, ed54, h⟩ := lt_ex h
                have hw : Wd g (va_A ((VC g q d)) s.heap.size) ((VC g q d54)) s H locs := by rw [ed54]; exact hw
                obtain ⟨x55, ex55⟩ : ∃ y : Int32, y = (a2 + 1) := ⟨_, rfl⟩
                replace h := lt_nx ex55 h
                refine lv_iinc (v := x55) (lv' := [(2, .int x55), (0, .ref (q 0)), (1, .int a1), (3, .int a3), (4, .int a4)]) hx hb dX3_goYears_154 hl (k := 2) rfl (by rw [ex55]; rfl) (by decide) rfl (fun ls hl => ?_)
                obtain ⟨x56, ex56⟩ : ∃ y : Int32, y = (a4 + 1) := ⟨_, rfl⟩
                replace h := lt_nx ex56 h
                refine lv_iinc (v := x56) (lv' := [(4, .int x56), (2, .int x55), (0, .ref (q 0)), (1, .int a1), (3, .int a3)]) hx hb dX3_goYears_157 hl (k := 4) rfl (by rw [ex56]; rfl) (by decide) rfl (fun ls hl => ?_)
                refine lv_goto (tgt := 99) hx hb dX3_goYears_160 (by decide) ?_
                exact ih99 a1 x55 a3 x56 d54 _ _ _ hw (lv_sub hl [2, 3, 1, 4, 0] rfl) h
      have L51 : ∀ (n51 : Nat) (a1 : Int32) (a2 : Int32) (a3 : Int32) (a4 : Int32) (d_ : VD) (H : Heap) (locs : List Loc) (ls : Array Slot), Wd g (va_A ((VC g q d)) s.heap.size) ((VC g q d_)) s H locs → lv_has ls 5 [(0, .ref (q 0)), (1, .int a1), (2, .int a2), (3, .int a3), (4, .int a4)] → f_X3_goYears_L51 N  (f_X3_goYears_L4 N   n4) n51 a1 a2 a3 a4 d_ = some (r, d') → W p l e rm_X3_goYears s m ([.ref (q 0), .int p1] : List Value).toArray below meth c H locs 0 0 (MQ below (QO (some (.int r)) g ((VC g q d')) (va_A ((VC g q d)) s.heap.size)) ([.ref (q 0), .int p1] : List Value).toArray s 0 0 (va_A ((VC g q d)) s.heap.size)) (F0 m 51 ls []) := by
        intro n51
        induction n51 with
        | zero => intro a1 a2 a3 a4 d_ H locs ls hw hl h; exact (Option.some_ne_none _ h.symm).elim
        | succ n51 ih51 =>
          intro a1 a2 a3 a4 d_ H locs ls hw hl h
          rw [f_X3_goYears_L51] at h
          refine lv_iload hx hb dX3_goYears_51 (lv_at hl 4 rfl) ?_
          refine lv_aload_n hx hb dX3_goYears_53 rfl (lv_at hl 0 rfl) ?_
          refine gf_X3_63 cx hw 0 rfl rfl dX3_goYears_54 ?_
          refine lv_icmp_ge (tgt := 96) hx hb dX3_goYears_57 (by decide) (fun c57 => ?_) (fun c57 => ?_)
          · replace h := ite_t c57 h
            refine lv_iconst (v := 0) hx hb dX3_goYears_96 (by decide) ?_
            refine lv_istore (lv' := [(4, .int (0 : Int32)), (0, .ref (q 0)), (1, .int a1), (2, .int a2), (3, .int a3)]) hx hb dX3_goYears_97 hl (by decide) rfl (fun ls hl => ?_)
            exact L99 N a1 a2 a3 (0 : Int32) d_ _ _ _ hw (lv_sub hl [1, 2, 3, 4, 0] rfl) h
          · replace h := ite_f c57 h
            refine lv_aload_n hx hb dX3_goYears_60 rfl (lv_at hl 0 rfl) ?_
            refine lv_iload hx hb dX3_goYears_61 (lv_at hl 4 rfl) ?_
            obtain ⟨x58, g59, h⟩ := bd_ex h
            refine c_V (As := [.int a4]) (rest := []) (w' := (VC g q d_)) cx hw (c_X3_lives l g q N a4 d_ x58 g59) (cl_X3_92 cx.1.2.2.2.2 ⟨Nat.le_of_ble_eq_true rfl, Nat.le_of_ble_eq_true rfl⟩) (x_recv cx hw (ci := 3) rfl 0 rfl) (Ct.all (VC_ll ..)) hl.1 rfl rfl (Nat.le_of_ble_eq_true rfl) dX3_goYears_63 ⟨Nat.le_of_ble_eq_true rfl, Nat.le_of_ble_eq_true rfl⟩ (st1 := [.int x58]) rfl (fun H locs hw => ?_)
            refine lv_if_eq (tgt := 90) hx hb dX3_goYears_66 (by decide) (fun c60 => ?_) (fun c60 => ?_)
            · replace h := ite_t c60 h
              obtain ⟨x61, ex61⟩ : ∃ y : Int32, y = (a4 + 1) := ⟨_, rfl⟩
              replace h := lt_nx ex61 h
              refine lv_iinc (v := x61) (lv' := [(4, .int x61), (0, .ref (q 0)), (1, .int a1), (2, .int a2), (3, .int a3)]) hx hb dX3_goYears_90 hl (k := 4) rfl (by rw [ex61]; rfl) (by decide) rfl (fun ls hl => ?_)
              refine lv_goto (tgt := 51) hx hb dX3_goYears_93 (by decide) ?_
              exact ih51 a1 a2 a3 x61 d_ _ _ _ hw (lv_sub hl [1, 2, 3, 4, 0] rfl) h
            · replace h := ite_f c60 h
              refine lv_aload_n hx hb dX3_goYears_69 rfl (lv_at hl 0 rfl) ?_
              refine gf_X3_27 cx hw 0 rfl rfl dX3_goYears_70 ?_
              refine lv_iload hx hb dX3_goYears_73 (lv_at hl 4 rfl) ?_
              refine lv_bipush (v := 120) hx hb dX3_goYears_75 (by decide) ?_
              refine lv_aload_n hx hb dX3_goYears_77 rfl (lv_at hl 0 rfl) ?_
              refine gf_X3_27 cx hw 0 rfl rfl dX3_goYears_78 ?_
              refine lv_iload hx hb dX3_goYears_81 (lv_at hl 4 rfl) ?_
              have ix62 := rd_in h
              refine x_iald cx hw 6 rfl ix62 dX3_goYears_83 ?_
              refine lv_topi (fun x62 ex62 => ?_)
              replace h := rd_nx ex62 h
              refine lv_iconst (v := 1) hx hb dX3_goYears_84 (by decide) ?_
              refine lv_iadd hx hb dX3_goYears_85 ?_
              refine va_mmin hx hb (cx.1.2.2.1.trans hl.1.symm) cx.1.2.2.2.1 (cx.1.2.2.2.2 _ tw_2_141) (cx.1.2.2.2.2 _ tw_2_142) (cx.1.2.2.2.2 _ tw_1_9) (cx.1.2.2.2.2 _ tw_2_143) (Nat.le_of_ble_eq_true rfl) (Nat.le_of_ble_eq_true rfl) (Nat.le_of_ble_eq_true rfl) (Nat.le_of_ble_eq_true rfl) dX3_goYears_86 ?_
              have i63 := ck_in h
              replace h := ck_nx h
              refine x_iast cx hw 6 rfl i63 dX3_goYears_89 (fun H locs hw => ?_)
              obtain ⟨d64, ed64, h⟩ := lt_ex h
              have hw : Wd g (va_A ((VC g q d)) s.heap.size) ((VC g q d64)) s H locs := by rw [ed64]; exact hw
              obtain ⟨x65, ex65⟩ : ∃ y : Int32, y = (a4 + 1) := ⟨_, rfl⟩
              replace h := lt_nx ex65 h
              refine lv_iinc (v := x65) (lv' := [(4, .int x65), (0, .ref (q 0)), (1, .int a1), (2, .int a2), (3, .int a3)]) hx hb dX3_goYears_90 hl (k := 4) rfl (by rw [ex65]; rfl) (by decide) rfl (fun ls hl => ?_)
              refine lv_goto (tgt := 51) hx hb dX3_goYears_93 (by decide) ?_
              exact ih51 a1 a2 a3 x65 d64 _ _ _ hw (lv_sub hl [1, 2, 3, 4, 0] rfl) h
      have L12 : ∀ (n12 : Nat) (a1 : Int32) (a2 : Int32) (a3 : Int32) (a4 : Int32) (d_ : VD) (H : Heap) (locs : List Loc) (ls : Array Slot), Wd g (va_A ((VC g q d)) s.heap.size) ((VC g q d_)) s H locs → lv_has ls 5 [(0, .ref (q 0)), (1, .int a1), (2, .int a2), (3, .int a3), (4, .int a4)] → f_X3_goYears_L12 N  (f_X3_goYears_L4 N   n4) n12 a1 a2 a3 a4 d_ = some (r, d') → W p l e rm_X3_goYears s m ([.ref (q 0), .int p1] : List Value).toArray below meth c H locs 0 0 (MQ below (QO (some (.int r)) g ((VC g q d')) (va_A ((VC g q d)) s.heap.size)) ([.ref (q 0), .int p1] : List Value).toArray s 0 0 (va_A ((VC g q d)) s.heap.size)) (F0 m 12 ls []) := by
        intro n12
        induction n12 with
        | zero => intro a1 a2 a3 a4 d_ H locs ls hw hl h; exact (Option.some_ne_none _ h.symm).elim
        | succ n12 ih12 =>
          intro a1 a2 a3 a4 d_ H locs ls hw hl h
          rw [f_X3_goYears_L12] at h
          refine lv_iload hx hb dX3_goYears_12 (lv_at hl 4 rfl) ?_
          refine lv_aload_n hx hb dX3_goYears_14 rfl (lv_at hl 0 rfl) ?_
          refine gf_X3_63 cx hw 0 rfl rfl dX3_goYears_15 ?_
          refine lv_icmp_ge (tgt := 48) hx hb dX3_goYears_18 (by decide) (fun c66 => ?_) (fun c66 => ?_)
          · replace h := ite_t c66 h
            refine lv_iconst (v := 0) hx hb dX3_goYears_48 (by decide) ?_
            refine lv_istore (lv' := [(4, .int (0 : Int32)), (0, .ref (q 0)), (1, .int a1), (2, .int a2), (3, .int a3)]) hx hb dX3_goYears_49 hl (by decide) rfl (fun ls hl => ?_)
            exact L51 N a1 a2 a3 (0 : Int32) d_ _ _ _ hw (lv_sub hl [1, 2, 3, 4, 0] rfl) h
          · replace h := ite_f c66 h
            refine lv_aload_n hx hb dX3_goYears_21 rfl (lv_at hl 0 rfl) ?_
            refine lv_iload hx hb dX3_goYears_22 (lv_at hl 4 rfl) ?_
            obtain ⟨x67, g68, h⟩ := bd_ex h
            refine c_V (As := [.int a4]) (rest := []) (w' := (VC g q d_)) cx hw (c_X3_lives l g q N a4 d_ x67 g68) (cl_X3_92 cx.1.2.2.2.2 ⟨Nat.le_of_ble_eq_true rfl, Nat.le_of_ble_eq_true rfl⟩) (x_recv cx hw (ci := 3) rfl 0 rfl) (Ct.all (VC_ll ..)) hl.1 rfl rfl (Nat.le_of_ble_eq_true rfl) dX3_goYears_24 ⟨Nat.le_of_ble_eq_true rfl, Nat.le_of_ble_eq_true rfl⟩ (st1 := [.int x67]) rfl (fun H locs hw => ?_)
            refine lv_if_eq (tgt := 42) hx hb dX3_goYears_27 (by decide) (fun c69 => ?_) (fun c69 => ?_)
            · replace h := ite_t c69 h
              obtain ⟨x70, ex70⟩ : ∃ y : Int32, y = (a4 + 1) := ⟨_, rfl⟩
              replace h := lt_nx ex70 h
              refine lv_iinc (v := x70) (lv' := [(4, .int x70), (0, .ref (q 0)), (1, .int a1), (2, .int a2), (3, .int a3)]) hx hb dX3_goYears_42 hl (k := 4) rfl (by rw [ex70]; rfl) (by decide) rfl (fun ls hl => ?_)
              refine lv_goto (tgt := 12) hx hb dX3_goYears_45 (by decide) ?_
              exact ih12 a1 a2 a3 x70 d_ _ _ _ hw (lv_sub hl [1, 2, 3, 4, 0] rfl) h
            · replace h := ite_f c69 h
              refine lv_aload_n hx hb dX3_goYears_30 rfl (lv_at hl 0 rfl) ?_
              refine lv_iload hx hb dX3_goYears_31 (lv_at hl 4 rfl) ?_
              refine lv_aload_n hx hb dX3_goYears_33 rfl (lv_at hl 0 rfl) ?_
              refine lv_iload hx hb dX3_goYears_34 (lv_at hl 4 rfl) ?_
              obtain ⟨x71, g72, h⟩ := bd_ex h
              refine c_V (As := [.int a4]) (rest := [.int a4, .ref (q 0)]) (w' := (VC g q d_)) cx hw (c_X3_planOf l g q N a4 d_ x71 g72) (cl_X3_121 cx.1.2.2.2.2 ⟨Nat.le_of_ble_eq_true rfl, Nat.le_of_ble_eq_true rfl⟩) (x_recv cx hw (ci := 3) rfl 0 rfl) (Ct.all (VC_ll ..)) hl.1 rfl rfl (Nat.le_of_ble_eq_true rfl) dX3_goYears_36 ⟨Nat.le_of_ble_eq_true rfl, Nat.le_of_ble_eq_true rfl⟩ (st1 := [.int x71, .int a4, .ref (q 0)]) rfl (fun H locs hw => ?_)
              obtain ⟨d73, g74, h⟩ := bd_ex h
              refine c_V (As := [.int a4, .int x71]) (rest := []) (w' := (VC g q d73)) cx hw (c_X3_carryOut l g q N a4 x71 d_ d73 g74) (cl_X3_124 cx.1.2.2.2.2 ⟨Nat.le_of_ble_eq_true rfl, Nat.le_of_ble_eq_true rfl⟩) (x_recv cx hw (ci := 3) rfl 0 rfl) (Ct.all (VC_ll ..)) hl.1 rfl rfl (Nat.le_of_ble_eq_true rfl) dX3_goYears_39 ⟨Nat.le_of_ble_eq_true rfl, Nat.le_of_ble_eq_true rfl⟩ (st1 := []) rfl (fun H locs hw => ?_)
              obtain ⟨x75, ex75⟩ : ∃ y : Int32, y = (a4 + 1) := ⟨_, rfl⟩
              replace h := lt_nx ex75 h
              refine lv_iinc (v := x75) (lv' := [(4, .int x75), (0, .ref (q 0)), (1, .int a1), (2, .int a2), (3, .int a3)]) hx hb dX3_goYears_42 hl (k := 4) rfl (by rw [ex75]; rfl) (by decide) rfl (fun ls hl => ?_)
              refine lv_goto (tgt := 12) hx hb dX3_goYears_45 (by decide) ?_
              exact ih12 a1 a2 a3 x75 d73 _ _ _ hw (lv_sub hl [1, 2, 3, 4, 0] rfl) h
      intro a1 a2 a3 d_ H locs ls hw hl h
      rw [f_X3_goYears_L4] at h
      refine lv_iload_n hx hb dX3_goYears_4 rfl (lv_at hl 3 rfl) ?_
      refine lv_iload_n hx hb dX3_goYears_5 rfl (lv_at hl 1 rfl) ?_
      refine lv_icmp_ge (tgt := 179) hx hb dX3_goYears_6 (by decide) (fun c76 => ?_) (fun c76 => ?_)
      · replace h := ite_t c76 h
        refine lv_iload_n hx hb dX3_goYears_179 rfl (lv_at hl 2 rfl) ?_
        exact r_i cx hr hlocks hw (pr1 h) (congrArg (fun z0 => (VC g q z0)) (pr2 h)) dX3_goYears_180
      · replace h := ite_f c76 h
        refine lv_iconst (v := 0) hx hb dX3_goYears_9 (by decide) ?_
        refine lv_istore (lv' := [(4, .int (0 : Int32)), (0, .ref (q 0)), (1, .int a1), (2, .int a2), (3, .int a3)]) hx hb dX3_goYears_10 hl (by decide) rfl (fun ls hl => ?_)
        exact L12 N a1 a2 a3 (0 : Int32) d_ _ _ _ hw (lv_sub hl [1, 2, 3, 4, 0] rfl) h
  unfold f_X3_goYears at h
  refine lv_iconst (v := 0) hx hb dX3_goYears_0 (by decide) ?_
  refine lv_istore_n (lv' := [(2, .int (0 : Int32)), (0, .ref (q 0)), (1, .int p1)]) hx hb dX3_goYears_1 rfl hl (by decide) rfl (fun ls hl => ?_)
  refine lv_iconst (v := 0) hx hb dX3_goYears_2 (by decide) ?_
  refine lv_istore_n (lv' := [(3, .int (0 : Int32)), (2, .int (0 : Int32)), (0, .ref (q 0)), (1, .int p1)]) hx hb dX3_goYears_3 rfl hl (by decide) rfl (fun ls hl => ?_)
  exact L4 N p1 (0 : Int32) (0 : Int32) d _ _ _ hw (lv_sub hl [2, 3, 1, 0] rfl) h
