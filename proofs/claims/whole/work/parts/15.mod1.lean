def f_X5_turn (N : Nat)  (p1 : Int32) (p2 : Int32) (d : MD) : Option (Int32 × MD) :=
  (f_X5_isOne N p1 d).bind fun x1 =>
  if x1 = 0 then
    bd2 (f_X5_finds N (-1000000001 : Int32) d) fun x4 d5 =>
    some (x4, d5)
  else
    (f_X5_isIn N ((p2).toInt64) (0 : Int64) (5 : Int64)).bind fun x7 =>
    if x7 = 0 then
      bd2 (f_X5_finds N (-1000000001 : Int32) d) fun x10 d11 =>
      some (x10, d11)
    else
      bd2 (f_X5_becomes N ((21 : Int32) + ((15 : Int32) * p1)) p2 d) fun x13 d14 =>
      some (x13, d14)
def f_X5_isUnder_J19 (N : Nat)   (a0 : Int32) (a1 : Int32) : Option (Int32) :=
  if a1 = (3 : Int32) then
    if a0 = (5 : Int32) then
      some (1 : Int32)
    else
      some (0 : Int32)
  else
    some (0 : Int32)
def f_X5_isUnder (N : Nat)  (p0 : Int32) (p1 : Int32)  : Option (Int32) :=
  if p0 = p1 then
    some (1 : Int32)
  else
    if p1 = 0 then
      some (1 : Int32)
    else
      if p1 = (1 : Int32) then
        if p0 = (4 : Int32) then
          some (1 : Int32)
        else
          f_X5_isUnder_J19 N   p0 p1
      else
        f_X5_isUnder_J19 N   p0 p1
def f_X5_as (N : Nat)  (p1 : Int32) (p2 : Int32) (d : MD) : Option (Int32 × MD) :=
  (f_X5_isOne N p1 d).bind fun x1 =>
  if x1 = 0 then
    bd2 (f_X5_finds N (-1000000001 : Int32) d) fun x4 d5 =>
    some (x4, d5)
  else
    (f_X5_isIn N ((p2).toInt64) (0 : Int64) (5 : Int64)).bind fun x7 =>
    if x7 = 0 then
      bd2 (f_X5_finds N (-1000000001 : Int32) d) fun x20 d21 =>
      some (x20, d21)
    else
      (f_X5_is N p1 (0 : Int32) d).bind fun x10 =>
      (f_X5_isUnder N x10 p2).bind fun x12 =>
      if x12 = 0 then
        bd2 (f_X5_finds N (-1000000003 : Int32) d) fun x15 d16 =>
        some (x15, d16)
      else
        (f_X5_is N p1 (2 : Int32) d).bind fun x18 =>
        some (x18, d)
def f_X5_like (N : Nat)  (p1 : Int32) (p2 : Int32) (d : MD) : Option (Int32 × MD) :=
  (f_X5_areTwo N p1 p2 d).bind fun x1 =>
  if x1 = 0 then
    bd2 (f_X5_finds N (-1000000001 : Int32) d) fun x4 d5 =>
    some (x4, d5)
  else
    (f_X5_likeOf N p1 p2 d).bind fun x7 =>
    some (x7, d)
def f_X5_same_L21 (N : Nat)   : Nat → Int32 → Int32 → Int32 → Int32 → MD → Option (Int32 × MD)
  | 0, _, _, _, _, _ => none
  | n21 + 1, a1, a2, a3, a4, d_ =>
  if (9 : Int32) ≤ a4 then
    some (a3, d_)
  else
    (f_X5_is N a1 ((6 : Int32) + a4) d_).bind fun x8 =>
    (f_X5_is N a2 ((6 : Int32) + a4) d_).bind fun x10 =>
    if x8 = x10 then
      lt (a3 + (1 : Int32)) fun x15 =>
      lt (a4 + 1) fun x16 =>
      f_X5_same_L21 N   n21 a1 a2 x15 x16 d_
    else
      lt (a3 + (0 : Int32)) fun x13 =>
      lt (a4 + 1) fun x14 =>
      f_X5_same_L21 N   n21 a1 a2 x13 x14 d_
def f_X5_same (N : Nat)  (p1 : Int32) (p2 : Int32) (d : MD) : Option (Int32 × MD) :=
  (f_X5_areTwo N p1 p2 d).bind fun x1 =>
  if x1 = 0 then
    bd2 (f_X5_finds N (-1000000001 : Int32) d) fun x4 d5 =>
    some (x4, d5)
  else
    f_X5_same_L21 N   N p1 p2 (0 : Int32) (0 : Int32) d
def f_X5_heir (N : Nat)  (p1 : Int32) (d : MD) : Option (Int32 × MD) :=
  (f_X5_isOne N p1 d).bind fun x1 =>
  if x1 = 0 then
    bd2 (f_X5_finds N (-1000000001 : Int32) d) fun x10 d11 =>
    some (x10, d11)
  else
    (f_X5_heirFor N p1 d).bind fun x4 =>
    if 0 ≤ x4 then
      some (x4, d)
    else
      bd2 (f_X5_finds N (-1000000004 : Int32) d) fun x7 d8 =>
      some (x7, d8)
def f_X5_heirsSet_L4 (N : Nat) (d : MD)  : Nat → Int32 → Int32 → Int32 → Option (Int32)
  | 0, _, _, _ => none
  | n4 + 1, a1, a2, a3 =>
  (rd (m_s d) 201 (0 : Int32)).bind fun x1 =>
  if x1 ≤ a3 then
    some a2
  else
    if a3 = a1 then
      lt (a2 ||| (0 : Int32)) fun x4 =>
      lt (a3 + 1) fun x5 =>
      f_X5_heirsSet_L4 N d  n4 a1 x4 x5
    else
      (f_X5_lives N a3 d).bind fun x6 =>
      if x6 = 0 then
        lt (a2 ||| (0 : Int32)) fun x9 =>
        lt (a3 + 1) fun x10 =>
        f_X5_heirsSet_L4 N d  n4 a1 x9 x10
      else
        (f_X5_heirFor N a3 d).bind fun x11 =>
        if x11 = a1 then
          lt (a2 ||| ((1 : Int32) <<< (a3 &&& 31))) fun x16 =>
          lt (a3 + 1) fun x17 =>
          f_X5_heirsSet_L4 N d  n4 a1 x16 x17
        else
          lt (a2 ||| (0 : Int32)) fun x14 =>
          lt (a3 + 1) fun x15 =>
          f_X5_heirsSet_L4 N d  n4 a1 x14 x15
def f_X5_heirsSet (N : Nat)  (p1 : Int32) (d : MD) : Option (Int32) :=
  f_X5_heirsSet_L4 N d  N p1 (0 : Int32) (0 : Int32)
def f_X5_heirOf (N : Nat)  (p1 : Int32) (d : MD) : Option (Int32 × MD) :=
  (f_X5_isOne N p1 d).bind fun x1 =>
  if x1 = 0 then
    bd2 (f_X5_finds N (-1000000001 : Int32) d) fun x4 d5 =>
    some (x4, d5)
  else
    (f_X5_heirsSet N p1 d).bind fun x7 =>
    some (x7, d)
def f_X5_watched_L19 (N : Nat)   : Nat → Int32 → Int32 → Int32 → MD → Option (Int32 × MD)
  | 0, _, _, _, _ => none
  | n19 + 1, a1, a2, a3, d_ =>
  (rd (m_s d_) 201 (0 : Int32)).bind fun x7 =>
  if x7 ≤ a3 then
    some (a2, d_)
  else
    (f_X5_lives N a3 d_).bind fun x9 =>
    if x9 = 0 then
      lt (a2 ||| (0 : Int32)) fun x12 =>
      lt (a3 + 1) fun x13 =>
      f_X5_watched_L19 N   n19 a1 x12 x13 d_
    else
      (f_X5_aimOf N a3 d_).bind fun x14 =>
      if x14 = a1 then
        lt (a2 ||| ((1 : Int32) <<< (a3 &&& 31))) fun x19 =>
        lt (a3 + 1) fun x20 =>
        f_X5_watched_L19 N   n19 a1 x19 x20 d_
      else
        lt (a2 ||| (0 : Int32)) fun x17 =>
        lt (a3 + 1) fun x18 =>
        f_X5_watched_L19 N   n19 a1 x17 x18 d_
def f_X5_watched (N : Nat)  (p1 : Int32) (d : MD) : Option (Int32 × MD) :=
  (f_X5_isOne N p1 d).bind fun x1 =>
  if x1 = 0 then
    bd2 (f_X5_finds N (-1000000001 : Int32) d) fun x4 d5 =>
    some (x4, d5)
  else
    f_X5_watched_L19 N   N p1 (0 : Int32) (0 : Int32) d
def f_X5_wishOf_L62 (N : Nat) (d : MD)  : Nat → Int32 → Int32 → Int32 → Int32 → Int32 → Option (Int32)
  | 0, _, _, _, _, _ => none
  | n62 + 1, a1, a2, a3, a4, a5 =>
  if a4 ≤ a5 then
    some (-1 : Int32)
  else
    (f_X5_is N a1 ((6 : Int32) + a5) d).bind fun x14 =>
    (f_X5_is N a3 ((6 : Int32) + a5) d).bind fun x16 =>
    if x14 = x16 then
      if (1 : Int32) = a2 then
        some a5
      else
        lt (a5 + 1) fun x22 =>
        f_X5_wishOf_L62 N d  n62 a1 a2 a3 a4 x22
    else
      if (0 : Int32) = a2 then
        some a5
      else
        lt (a5 + 1) fun x20 =>
        f_X5_wishOf_L62 N d  n62 a1 a2 a3 a4 x20
def f_X5_wishOf_J33 (N : Nat) (d : MD)  (a1 : Int32) (a2 : Int32) (t0 : Int32) : Option (Int32) :=
  if 0 ≤ t0 then
    (f_X5_is N a1 (0 : Int32) d).bind fun x10 =>
    if x10 = (4 : Int32) then
      f_X5_wishOf_L62 N d  N a1 a2 t0 (8 : Int32) (0 : Int32)
    else
      f_X5_wishOf_L62 N d  N a1 a2 t0 (9 : Int32) (0 : Int32)
  else
    some (-1 : Int32)
def f_X5_wishOf_J15 (N : Nat) (d : MD)  (a1 : Int32) (t0 : Int32) : Option (Int32) :=
  if t0 = 0 then
    (f_X5_aimOf N a1 d).bind fun x5 =>
    f_X5_wishOf_J33 N d  a1 t0 x5
  else
    (f_X5_heirFor N a1 d).bind fun x7 =>
    f_X5_wishOf_J33 N d  a1 t0 x7
def f_X5_wishOf (N : Nat)  (p1 : Int32) (d : MD) : Option (Int32) :=
  (f_X5_is N p1 (0 : Int32) d).bind fun x1 =>
  if x1 = (2 : Int32) then
    f_X5_wishOf_J15 N d  p1 (1 : Int32)
  else
    f_X5_wishOf_J15 N d  p1 (0 : Int32)
def f_X5_changeOf (N : Nat)  (p1 : Int32) (d : MD) : Option (Int32) :=
  (f_X5_wishOf N p1 d).bind fun x1 =>
  if x1 < 0 then
    some (-1 : Int32)
  else
    (f_X5_is N p1 (2 : Int32) d).bind fun x4 =>
    (rd (m_s d) 201 ((12 : Int32) + x1)).bind fun x6 =>
    if x6 ≤ x4 then
      some x1
    else
      some (-1 : Int32)
def f_X5_changes_J32 (N : Nat)   (t0 : Int32) (d_ : MD) : Option (Int32 × MD) :=
  if 0 ≤ t0 then
    some (t0, d_)
  else
    bd2 (f_X5_finds N (-1000000004 : Int32) d_) fun x13 d14 =>
    some (x13, d14)
def f_X5_changes (N : Nat)  (p1 : Int32) (d : MD) : Option (Int32 × MD) :=
  (f_X5_isOne N p1 d).bind fun x1 =>
  if x1 = 0 then
    bd2 (f_X5_finds N (-1000000001 : Int32) d) fun x9 d10 =>
    some (x9, d10)
  else
    (f_X5_lives N p1 d).bind fun x4 =>
    if x4 = 0 then
      f_X5_changes_J32 N   (-1 : Int32) d
    else
      (f_X5_changeOf N p1 d).bind fun x7 =>
      f_X5_changes_J32 N   x7 d
def f_X5_alters_J49 (N : Nat)   (a1 : Int32) (a2 : Int32) (t0 : Int32) (d_ : MD) : Option (MD) :=
  (f_X5_puts N a1 ((6 : Int32) + a2) t0 d_).bind fun d13 =>
  (f_X5_is N a1 (2 : Int32) d13).bind fun x15 =>
  (rd (m_s d13) 201 ((12 : Int32) + a2)).bind fun x17 =>
  (f_X5_puts N a1 (2 : Int32) (x15 - x17) d13).bind fun d18 =>
  some d18
def f_X5_alters (N : Nat)  (p1 : Int32) (d : MD) : Option (MD) :=
  (f_X5_changeOf N p1 d).bind fun x1 =>
  if x1 < 0 then
    some d
  else
    (f_X5_is N p1 (0 : Int32) d).bind fun x4 =>
    if x4 = (2 : Int32) then
      (f_X5_is N p1 ((6 : Int32) + x1) d).bind fun x11 =>
      f_X5_alters_J49 N   p1 x1 ((x11 + (1 : Int32)) - (x11 + (1 : Int32)) / (4 : Int32) * (4 : Int32)) d
    else
      (f_X5_aimOf N p1 d).bind fun x7 =>
      (f_X5_is N x7 ((6 : Int32) + x1) d).bind fun x9 =>
      f_X5_alters_J49 N   p1 x1 x9 d
def f_X5_gains (N : Nat)  (p1 : Int32) (p2 : Int32) (d : MD) : Option (MD) :=
  (f_X5_is N p1 (2 : Int32) d).bind fun x1 =>
  lt (x1 + p2) fun x3 =>
  if x3 ≤ (999999 : Int32) then
    (f_X5_puts N p1 (2 : Int32) x3 d).bind fun d5 =>
    some d5
  else
    (f_X5_puts N p1 (2 : Int32) (999999 : Int32) d).bind fun d7 =>
    some d7
def f_X5_ends_J57 (N : Nat)   (a2 : Int32) (a3 : Int32) (t0 : Int32) (d_ : MD) : Option (MD) :=
  if 0 ≤ t0 then
    (f_X5_gains N a2 (a3 - (a3 / (2 : Int32))) d_).bind fun d16 =>
    (f_X5_gains N t0 (a3 / (2 : Int32)) d16).bind fun d18 =>
    some d18
  else
    (f_X5_gains N a2 a3 d_).bind fun d20 =>
    some d20
def f_X5_ends (N : Nat)  (p1 : Int32) (d : MD) : Option (MD) :=
  (f_X5_puts N p1 (5 : Int32) (0 : Int32) d).bind fun d1 =>
  (f_X5_heirFor N p1 d1).bind fun x3 =>
  lt (m_set_heirThen d1 x3) fun d5 =>
  (f_X5_is N p1 (2 : Int32) d5).bind fun x6 =>
  (f_X5_puts N p1 (2 : Int32) (0 : Int32) d5).bind fun d8 =>
  if 0 ≤ x3 then
    (rd (m_s d8) 201 (2 : Int32)).bind fun x11 =>
    if x11 = (2 : Int32) then
      (f_X5_heirBut N p1 x3 d8).bind fun x13 =>
      f_X5_ends_J57 N   x3 x6 x13 d8
    else
      f_X5_ends_J57 N   x3 x6 (-1 : Int32) d8
  else
    some d8
def f_X5_goesOn_L86 (N : Nat)   : Nat → Int32 → Int32 → MD → Option (Int32 × MD)
  | 0, _, _, _ => none
  | n86 + 1, a1, a2, d_ =>
  (rd (m_s d_) 201 (0 : Int32)).bind fun x25 =>
  if x25 ≤ a2 then
    (rd (m_s d_) 201 (1 : Int32)).bind fun x27 =>
    (ck (1 : Int32) 201).bind fun _ =>
    lt (m_set_s d_ (upd (m_s d_) ((1 : Int32)).toNatClampNeg (x27 + (1 : Int32)))) fun d29 =>
    some (a1, d29)
  else
    (f_X5_lives N a2 d_).bind fun x30 =>
    if x30 = 0 then
      lt (a2 + 1) fun x33 =>
      f_X5_goesOn_L86 N   n86 a1 x33 d_
    else
      (f_X5_is N a2 (1 : Int32) d_).bind fun x34 =>
      (f_X5_is N a2 (3 : Int32) d_).bind fun x36 =>
      if x34 < x36 then
        lt (a2 + 1) fun x39 =>
        f_X5_goesOn_L86 N   n86 a1 x39 d_
      else
        (f_X5_ends N a2 d_).bind fun d40 =>
        if a2 = (m_asked d40) then
          lt (m_set_noted d40 (m_heirThen d40)) fun d46 =>
          lt (a1 + 1) fun x47 =>
          lt (a2 + 1) fun x48 =>
          f_X5_goesOn_L86 N   n86 x47 x48 d46
        else
          lt (m_set_noted d40 (m_noted d40)) fun d43 =>
          lt (a1 + 1) fun x44 =>
          lt (a2 + 1) fun x45 =>
          f_X5_goesOn_L86 N   n86 x44 x45 d43
def f_X5_goesOn_L33 (N : Nat)   : Nat → Int32 → MD → Option (Int32 × MD)
  | 0, _, _ => none
  | n33 + 1, a1, d_ =>
  (rd (m_s d_) 201 (0 : Int32)).bind fun x10 =>
  if x10 ≤ a1 then
    f_X5_goesOn_L86 N   N (0 : Int32) (0 : Int32) d_
  else
    (f_X5_lives N a1 d_).bind fun x12 =>
    if x12 = 0 then
      lt (a1 + 1) fun x15 =>
      f_X5_goesOn_L33 N   n33 x15 d_
    else
      (f_X5_is N a1 (1 : Int32) d_).bind fun x16 =>
      if (120 : Int32) ≤ x16 then
        lt (a1 + 1) fun x19 =>
        f_X5_goesOn_L33 N   n33 x19 d_
      else
        (f_X5_is N a1 (1 : Int32) d_).bind fun x20 =>
        (f_X5_puts N a1 (1 : Int32) (x20 + (1 : Int32)) d_).bind fun d22 =>
        lt (a1 + 1) fun x24 =>
        f_X5_goesOn_L33 N   n33 x24 d22
def f_X5_goesOn_L2 (N : Nat)   : Nat → Int32 → MD → Option (Int32 × MD)
  | 0, _, _ => none
  | n2 + 1, a1, d_ =>
  (rd (m_s d_) 201 (0 : Int32)).bind fun x1 =>
  if x1 ≤ a1 then
    f_X5_goesOn_L33 N   N (0 : Int32) d_
  else
    (f_X5_lives N a1 d_).bind fun x3 =>
    if x3 = 0 then
      lt (a1 + 1) fun x6 =>
      f_X5_goesOn_L2 N   n2 x6 d_
    else
      (f_X5_alters N a1 d_).bind fun d7 =>
      lt (a1 + 1) fun x9 =>
      f_X5_goesOn_L2 N   n2 x9 d7
def f_X5_goesOn (N : Nat)   (d : MD) : Option (Int32 × MD) :=
  f_X5_goesOn_L2 N   N (0 : Int32) d
def f_X5_goesOnMany_L4 (N : Nat)   : Nat → Int32 → Int32 → Int32 → MD → Option (Int32 × MD)
  | 0, _, _, _, _ => none
  | n4 + 1, a1, a2, a3, d_ =>
  if a1 ≤ a3 then
    some (a2, d_)
  else
    bd2 (f_X5_goesOn N d_) fun x2 d3 =>
    lt (a2 + x2) fun x5 =>
    lt (a3 + 1) fun x6 =>
    f_X5_goesOnMany_L4 N   n4 a1 x5 x6 d3
def f_X5_goesOnMany (N : Nat)  (p1 : Int32) (d : MD) : Option (Int32 × MD) :=
  f_X5_goesOnMany_L4 N   N p1 (0 : Int32) (0 : Int32) d
def f_X5_years (N : Nat)  (p1 : Int32) (d : MD) : Option (Int32 × MD) :=
  (f_X5_isIn N ((p1).toInt64) (1 : Int64) (100 : Int64)).bind fun x1 =>
  if x1 = 0 then
    bd2 (f_X5_finds N (-1000000001 : Int32) d) fun x13 d14 =>
    some (x13, d14)
  else
    (f_X5_isFar N p1 d).bind fun x4 =>
    if x4 = 0 then
      bd2 (f_X5_goesOnMany N p1 d) fun x7 d8 =>
      some (x7, d8)
    else
      bd2 (f_X5_finds N (-1000000005 : Int32) d) fun x10 d11 =>
      some (x10, d11)
def f_X5_dies (N : Nat)  (p1 : Int32) (d : MD) : Option (Int32 × MD) :=
  (f_X5_isOne N p1 d).bind fun x1 =>
  if x1 = 0 then
    bd2 (f_X5_finds N (-1000000001 : Int32) d) fun x12 d13 =>
    some (x12, d13)
  else
    (f_X5_lives N p1 d).bind fun x4 =>
    if x4 = 0 then
      bd2 (f_X5_finds N (-1000000005 : Int32) d) fun x9 d10 =>
      some (x9, d10)
    else
      (f_X5_ends N p1 d).bind fun d7 =>
      some ((m_heirThen d7), d7)
def f_X5_livingSet_L4 (N : Nat) (d : MD)  : Nat → Int32 → Int32 → Option (Int32)
  | 0, _, _ => none
  | n4 + 1, a1, a2 =>
  (rd (m_s d) 201 (0 : Int32)).bind fun x1 =>
  if x1 ≤ a2 then
    some a1
  else
    (f_X5_is N a2 (5 : Int32) d).bind fun x3 =>
    lt (a1 ||| (x3 <<< (a2 &&& 31))) fun x5 =>
    lt (a2 + 1) fun x6 =>
    f_X5_livingSet_L4 N d  n4 x5 x6
def f_X5_livingSet (N : Nat)   (d : MD) : Option (Int32) :=
  f_X5_livingSet_L4 N d  N (0 : Int32) (0 : Int32)
def f_X5_allOf_L4 (N : Nat) (d : MD)  : Nat → Int32 → Int32 → Int32 → Option (Int32)
  | 0, _, _, _ => none
  | n4 + 1, a1, a2, a3 =>
  (rd (m_s d) 201 (0 : Int32)).bind fun x1 =>
  if x1 ≤ a3 then
    some a2
  else
    (f_X5_lives N a3 d).bind fun x3 =>
    if x3 = 0 then
      lt (a2 + (0 : Int32)) fun x6 =>
      lt (a3 + 1) fun x7 =>
      f_X5_allOf_L4 N d  n4 a1 x6 x7
    else
      (f_X5_is N a3 a1 d).bind fun x8 =>
      lt (a2 + x8) fun x10 =>
      lt (a3 + 1) fun x11 =>
      f_X5_allOf_L4 N d  n4 a1 x10 x11
def f_X5_allOf (N : Nat)  (p1 : Int32) (d : MD) : Option (Int32) :=
  f_X5_allOf_L4 N d  N p1 (0 : Int32) (0 : Int32)
def f_X5_now (N : Nat)  (p1 : Int32) (d : MD) : Option (Int32 × MD) :=
  if p1 = 0 then
    (rd (m_s d) 201 (1 : Int32)).bind fun x2 =>
    some (x2, d)
  else
    if p1 = 1 then
      (rd (m_s d) 201 (2 : Int32)).bind fun x4 =>
      some (x4, d)
    else
      if p1 = 2 then
        (f_X5_allOf N (5 : Int32) d).bind fun x6 =>
        some (x6, d)
      else
        if p1 = 3 then
          (f_X5_allOf N (2 : Int32) d).bind fun x9 =>
          some (x9, d)
        else
          bd2 (f_X5_finds N (-1000000001 : Int32) d) fun x11 d12 =>
          some (x11, d12)
def f_X5_laysBy (N : Nat)   (d : MD) : Option (MD) :=
  (f_X5_copyRow N (m_s d) (m_close d)).bind fun f1 =>
  lt (m_set_close d f1) fun d3 =>
  some d3
def f_X5_laysBack (N : Nat)   (d : MD) : Option (MD) :=
  (f_X5_copyRow N (m_close d) (m_s d)).bind fun f1 =>
  lt (m_set_s d f1) fun d3 =>
  some d3
def f_X5_barsOn (N : Nat)  (p1 : Int32) (d : MD) : Option (Int32) :=
  (f_X5_isIn N ((p1).toInt64) (0 : Int64) (100 : Int64)).bind fun x1 =>
  if x1 = 0 then
    some (-1000000001 : Int32)
  else
    (f_X5_isFar N p1 d).bind fun x4 =>
    if x4 = 0 then
      some (0 : Int32)
    else
      some (-1000000005 : Int32)
def f_X5_on_J18 (N : Nat)   (a1 : Int32) (a2 : Int32) (t0 : Int32) (d_ : MD) : Option (Int32 × MD) :=
  if t0 = 0 then
    (f_X5_laysBy N d_).bind fun d7 =>
    bd2 (f_X5_goesOnMany N a2 d7) fun x9 d10 =>
    (f_X5_is N a1 (2 : Int32) d10).bind fun x12 =>
    (f_X5_laysBack N d10).bind fun d14 =>
    some (x12, d14)
  else
    bd2 (f_X5_finds N t0 d_) fun x16 d17 =>
    some (x16, d17)
def f_X5_on (N : Nat)  (p1 : Int32) (p2 : Int32) (d : MD) : Option (Int32 × MD) :=
  (f_X5_isOne N p1 d).bind fun x1 =>
  if x1 = 0 then
    f_X5_on_J18 N   p1 p2 (-1000000001 : Int32) d
  else
    (f_X5_barsOn N p2 d).bind fun x4 =>
    f_X5_on_J18 N   p1 p2 x4 d
theorem ct_M__1_3__A_A_1 (g : gE) (q : Nat → Nat) (d : MD) (u0 : (Nat → Int32)) : Ct ((MC g q d)) ((ACI g (q 1) 201 (m_s d)) ++ (ACI g (q 3) 201 (m_close d))) ((MC g q (m_set_close d u0))) ((ACI g (q 1) 201 (m_s d)) ++ (ACI g (q 3) 201 u0)) := ⟨[1, 3], [0, 2, 4, 5, 6, 7, 8, 9], rfl, rfl, rfl, by decide, fun k hk => ct_cov (n := 10) (by decide) k hk, by decide⟩
theorem ct_M__3_1__A_A_1 (g : gE) (q : Nat → Nat) (d : MD) (u0 : (Nat → Int32)) : Ct ((MC g q d)) ((ACI g (q 3) 201 (m_close d)) ++ (ACI g (q 1) 201 (m_s d))) ((MC g q (m_set_s d u0))) ((ACI g (q 3) 201 (m_close d)) ++ (ACI g (q 1) 201 u0)) := ⟨[3, 1], [0, 2, 4, 5, 6, 7, 8, 9], rfl, rfl, rfl, by decide, fun k hk => ct_cov (n := 10) (by decide) k hk, by decide⟩
set_option maxHeartbeats 4000000 in
set_option maxRecDepth 100000 in
theorem c_X5_turn (l : Launch) (g : gE) (q : Nat → Nat) (N : Nat) (p1 : Int32) (p2 : Int32) (d : MD) (r : Int32) (d' : MD) (h : f_X5_turn N  p1 p2 d = some (r, d')) : MO l yX5_turn (Cond.code yX5_turn cX5_turn 3 (some .int) :: TB) rm_X5_turn [.ref (q 0), .int p1, .int p2] g ((MC g q d)) ((MC g q d')) (some (.int r)) 0 0 := by
  refine MO.of (cc := cX5_turn) (maxL := 3) (ret := (some .int)) (by decide) ?_
  intro p e s m below meth c cx hw hr hlocks _
  have hx := cx.1.1
  have hb := cx.1.2.1
  refine en_go (lv := [(0, .ref (q 0)), (1, .int p1), (2, .int p2)]) (Nat.le_of_ble_eq_true rfl) rfl (fun ls hl => ?_)
  unfold f_X5_turn at h
  refine lv_aload_n hx hb dX5_turn_0 rfl (lv_at hl 0 rfl) ?_
  refine lv_iload_n hx hb dX5_turn_1 rfl (lv_at hl 1 rfl) ?_
  obtain ⟨x1, g2, h⟩ := bd_ex h
  refine c_V (As := [.int p1]) (rest := []) (w' := (MC g q d)) cx hw (c_X5_isOne l g q N p1 d x1 g2) (cl_X5_43 cx.1.2.2.2.2 ⟨Nat.le_of_ble_eq_true rfl, Nat.le_of_ble_eq_true rfl⟩) (x_recv cx hw (ci := 5) rfl 0 rfl) (Ct.all (MC_ll ..)) hl.1 rfl rfl (Nat.le_of_ble_eq_true rfl) dX5_turn_2 ⟨Nat.le_of_ble_eq_true rfl, Nat.le_of_ble_eq_true rfl⟩ (st1 := [.int x1]) rfl (fun H locs hw => ?_)
  refine lv_if_eq (tgt := 35) hx hb dX5_turn_5 (by decide) (fun c3 => ?_) (fun c3 => ?_)
  · replace h := ite_t c3 h
    refine lv_aload_n hx hb dX5_turn_35 rfl (lv_at hl 0 rfl) ?_
    refine lv_ldc hx hb cx.1.2.2.2.1 (cx.1.2.2.2.2 _ tw_4_79) dX5_turn_36 ?_
    obtain ⟨x4, d5, g6, h⟩ := bd2_ex h
    refine c_V (As := [.int (-1000000001 : Int32)]) (rest := []) (w' := (MC g q d5)) cx hw (c_X5_finds l g q N (-1000000001 : Int32) d x4 d5 g6) (cl_X5_62 cx.1.2.2.2.2 ⟨Nat.le_of_ble_eq_true rfl, Nat.le_of_ble_eq_true rfl⟩) (x_recv cx hw (ci := 5) rfl 0 rfl) (Ct.all (MC_ll ..)) hl.1 rfl rfl (Nat.le_of_ble_eq_true rfl) dX5_turn_38 ⟨Nat.le_of_ble_eq_true rfl, Nat.le_of_ble_eq_true rfl⟩ (st1 := [.int x4]) rfl (fun H locs hw => ?_)
    exact r_i cx hr hlocks hw (pr1 h) (congrArg (fun z0 => (MC g q z0)) (pr2 h)) dX5_turn_41
  · replace h := ite_f c3 h
    refine lv_iload_n hx hb dX5_turn_8 rfl (lv_at hl 2 rfl) ?_
    refine lv_i2l hx hb dX5_turn_9 rfl ?_
    refine lv_lconst (v := 0) hx hb dX5_turn_10 (by decide) ?_
    refine lv_ldc2 hx hb cx.1.2.2.2.1 (cx.1.2.2.2.2 _ tw_4_97) dX5_turn_11 ?_
    obtain ⟨x7, g8, h⟩ := bd_ex h
    refine c_S (As := [.long ((p2).toInt64), .long (0 : Int64), .long (5 : Int64)]) (rest := []) (w' := (MC g q d)) cx hw (c_X5_isIn l g  N ((p2).toInt64) (0 : Int64) (5 : Int64)  x7 g8) (cl_X5_54 cx.1.2.2.2.2 ⟨Nat.le_of_ble_eq_true rfl, Nat.le_of_ble_eq_true rfl⟩) Ct.nil hl.1 rfl rfl (Nat.le_of_ble_eq_true rfl) dX5_turn_14 ⟨Nat.le_of_ble_eq_true rfl, Nat.le_of_ble_eq_true rfl⟩ (st1 := [.int x7]) rfl (fun H locs hw => ?_)
    refine lv_if_eq (tgt := 35) hx hb dX5_turn_17 (by decide) (fun c9 => ?_) (fun c9 => ?_)
    · replace h := ite_t c9 h
      refine lv_aload_n hx hb dX5_turn_35 rfl (lv_at hl 0 rfl) ?_
      refine lv_ldc hx hb cx.1.2.2.2.1 (cx.1.2.2.2.2 _ tw_4_79) dX5_turn_36 ?_
      obtain ⟨x10, d11, g12, h⟩ := bd2_ex h
      refine c_V (As := [.int (-1000000001 : Int32)]) (rest := []) (w' := (MC g q d11)) cx hw (c_X5_finds l g q N (-1000000001 : Int32) d x10 d11 g12) (cl_X5_62 cx.1.2.2.2.2 ⟨Nat.le_of_ble_eq_true rfl, Nat.le_of_ble_eq_true rfl⟩) (x_recv cx hw (ci := 5) rfl 0 rfl) (Ct.all (MC_ll ..)) hl.1 rfl rfl (Nat.le_of_ble_eq_true rfl) dX5_turn_38 ⟨Nat.le_of_ble_eq_true rfl, Nat.le_of_ble_eq_true rfl⟩ (st1 := [.int x10]) rfl (fun H locs hw => ?_)
      exact r_i cx hr hlocks hw (pr1 h) (congrArg (fun z0 => (MC g q z0)) (pr2 h)) dX5_turn_41
    · replace h := ite_f c9 h
      refine lv_aload_n hx hb dX5_turn_20 rfl (lv_at hl 0 rfl) ?_
      refine lv_bipush (v := 21) hx hb dX5_turn_21 (by decide) ?_
      refine lv_bipush (v := 15) hx hb dX5_turn_23 (by decide) ?_
      refine lv_iload_n hx hb dX5_turn_25 rfl (lv_at hl 1 rfl) ?_
      refine lv_imul hx hb dX5_turn_26 ?_
      refine lv_iadd hx hb dX5_turn_27 ?_
      refine lv_iload_n hx hb dX5_turn_28 rfl (lv_at hl 2 rfl) ?_
      obtain ⟨x13, d14, g15, h⟩ := bd2_ex h
      refine c_V (As := [.int ((21 : Int32) + ((15 : Int32) * p1)), .int p2]) (rest := []) (w' := (MC g q d14)) cx hw (c_X5_becomes l g q N ((21 : Int32) + ((15 : Int32) * p1)) p2 d x13 d14 g15) (cl_X5_66 cx.1.2.2.2.2 ⟨Nat.le_of_ble_eq_true rfl, Nat.le_of_ble_eq_true rfl⟩) (x_recv cx hw (ci := 5) rfl 0 rfl) (Ct.all (MC_ll ..)) hl.1 rfl rfl (Nat.le_of_ble_eq_true rfl) dX5_turn_29 ⟨Nat.le_of_ble_eq_true rfl, Nat.le_of_ble_eq_true rfl⟩ (st1 := [.int x13]) rfl (fun H locs hw => ?_)
      refine lv_goto (tgt := 41) hx hb dX5_turn_32 (by decide) ?_
      exact r_i cx hr hlocks hw (pr1 h) (congrArg (fun z0 => (MC g q z0)) (pr2 h)) dX5_turn_41
set_option maxHeartbeats 4000000 in
set_option maxRecDepth 100000 in
theorem c_X5_isUnder (l : Launch) (g : gE)  (N : Nat) (p0 : Int32) (p1 : Int32)  (r : Int32) (h : f_X5_isUnder N  p0 p1 = some r) : MO l yX5_isUnder (Cond.code yX5_isUnder cX5_isUnder 2 (some .boolean) :: TB) rm_X5_isUnder [.int p0, .int p1] g (([] : va_W)) (([] : va_W)) (some (.int r)) 0 0 := by
  refine MO.of (cc := cX5_isUnder) (maxL := 2) (ret := (some .boolean)) (by decide) ?_
  intro p e s m below meth c cx hw hr hlocks _
  have hx := cx.1.1
  have hb := cx.1.2.1
  refine en_go (lv := [(0, .int p0), (1, .int p1)]) (Nat.le_of_ble_eq_true rfl) rfl (fun ls hl => ?_)
  have J19 : ∀ (a0 : Int32) (a1 : Int32) (H : Heap) (locs : List Loc) (ls : Array Slot), Wd g (va_A (([] : va_W)) s.heap.size) (([] : va_W)) s H locs → lv_has ls 2 [(0, .int a0), (1, .int a1)] → f_X5_isUnder_J19 N   a0 a1 = some r → W p l e rm_X5_isUnder s m ([.int p0, .int p1] : List Value).toArray below meth c H locs 0 0 (MQ below (QO (some (.int r)) g (([] : va_W)) (va_A (([] : va_W)) s.heap.size)) ([.int p0, .int p1] : List Value).toArray s 0 0 (va_A (([] : va_W)) s.heap.size)) (F0 m 19 ls []) := by
    intro a0 a1 H locs ls hw hl h
    unfold f_X5_isUnder_J19 at h
    refine lv_iload_n hx hb dX5_isUnder_19 rfl (lv_at hl 1 rfl) ?_
    refine lv_iconst (v := 3) hx hb dX5_isUnder_20 (by decide) ?_
    refine lv_icmp_ne (tgt := 33) hx hb dX5_isUnder_21 (by decide) (fun c7 => ?_) (fun c7 => ?_)
    · replace h := ite_f c7 h
      refine lv_iconst (v := 0) hx hb dX5_isUnder_33 (by decide) ?_
      exact r_z cx hr hlocks rfl hw (sm_eq h) rfl dX5_isUnder_34
    · replace h := ite_t c7 h
      refine lv_iload_n hx hb dX5_isUnder_24 rfl (lv_at hl 0 rfl) ?_
      refine lv_iconst (v := 5) hx hb dX5_isUnder_25 (by decide) ?_
      refine lv_icmp_ne (tgt := 33) hx hb dX5_isUnder_26 (by decide) (fun c8 => ?_) (fun c8 => ?_)
      · replace h := ite_f c8 h
        refine lv_iconst (v := 0) hx hb dX5_isUnder_33 (by decide) ?_
        exact r_z cx hr hlocks rfl hw (sm_eq h) rfl dX5_isUnder_34
      · replace h := ite_t c8 h
        refine lv_iconst (v := 1) hx hb dX5_isUnder_29 (by decide) ?_
        refine lv_goto (tgt := 34) hx hb dX5_isUnder_30 (by decide) ?_
        exact r_z cx hr hlocks rfl hw (sm_eq h) rfl dX5_isUnder_34
  unfold f_X5_isUnder at h
  refine lv_iload_n hx hb dX5_isUnder_0 rfl (lv_at hl 0 rfl) ?_
  refine lv_iload_n hx hb dX5_isUnder_1 rfl (lv_at hl 1 rfl) ?_
  refine lv_icmp_eq (tgt := 29) hx hb dX5_isUnder_2 (by decide) (fun c1 => ?_) (fun c1 => ?_)
  · replace h := ite_t c1 h
    refine lv_iconst (v := 1) hx hb dX5_isUnder_29 (by decide) ?_
    refine lv_goto (tgt := 34) hx hb dX5_isUnder_30 (by decide) ?_
    exact r_z cx hr hlocks rfl hw (sm_eq h) rfl dX5_isUnder_34
  · replace h := ite_f c1 h
    refine lv_iload_n hx hb dX5_isUnder_5 rfl (lv_at hl 1 rfl) ?_
    refine lv_if_eq (tgt := 29) hx hb dX5_isUnder_6 (by decide) (fun c2 => ?_) (fun c2 => ?_)
    · replace h := ite_t c2 h
      refine lv_iconst (v := 1) hx hb dX5_isUnder_29 (by decide) ?_
      refine lv_goto (tgt := 34) hx hb dX5_isUnder_30 (by decide) ?_
      exact r_z cx hr hlocks rfl hw (sm_eq h) rfl dX5_isUnder_34
    · replace h := ite_f c2 h
      refine lv_iload_n hx hb dX5_isUnder_9 rfl (lv_at hl 1 rfl) ?_
      refine lv_iconst (v := 1) hx hb dX5_isUnder_10 (by decide) ?_
      refine lv_icmp_ne (tgt := 19) hx hb dX5_isUnder_11 (by decide) (fun c3 => ?_) (fun c3 => ?_)
      · replace h := ite_f c3 h
        exact J19 p0 p1 _ _ _ hw (lv_sub hl [0, 1] rfl) h
      · replace h := ite_t c3 h
        refine lv_iload_n hx hb dX5_isUnder_14 rfl (lv_at hl 0 rfl) ?_
        refine lv_iconst (v := 4) hx hb dX5_isUnder_15 (by decide) ?_
        refine lv_icmp_eq (tgt := 29) hx hb dX5_isUnder_16 (by decide) (fun c4 => ?_) (fun c4 => ?_)
        · replace h := ite_t c4 h
          refine lv_iconst (v := 1) hx hb dX5_isUnder_29 (by decide) ?_
          refine lv_goto (tgt := 34) hx hb dX5_isUnder_30 (by decide) ?_
          exact r_z cx hr hlocks rfl hw (sm_eq h) rfl dX5_isUnder_34
        · replace h := ite_f c4 h
          exact J19 p0 p1 _ _ _ hw (lv_sub hl [0, 1] rfl) h
set_option maxHeartbeats 4000000 in
set_option maxRecDepth 100000 in
theorem c_X5_as (l : Launch) (g : gE) (q : Nat → Nat) (N : Nat) (p1 : Int32) (p2 : Int32) (d : MD) (r : Int32) (d' : MD) (h : f_X5_as N  p1 p2 d = some (r, d')) : MO l yX5_as (Cond.code yX5_as cX5_as 3 (some .int) :: TB) rm_X5_as [.ref (q 0), .int p1, .int p2] g ((MC g q d)) ((MC g q d')) (some (.int r)) 0 0 := by
  refine MO.of (cc := cX5_as) (maxL := 3) (ret := (some .int)) (by decide) ?_
  intro p e s m below meth c cx hw hr hlocks _
  have hx := cx.1.1
  have hb := cx.1.2.1
  refine en_go (lv := [(0, .ref (q 0)), (1, .int p1), (2, .int p2)]) (Nat.le_of_ble_eq_true rfl) rfl (fun ls hl => ?_)
  unfold f_X5_as at h
  refine lv_aload_n hx hb dX5_as_0 rfl (lv_at hl 0 rfl) ?_
  refine lv_iload_n hx hb dX5_as_1 rfl (lv_at hl 1 rfl) ?_
  obtain ⟨x1, g2, h⟩ := bd_ex h
  refine c_V (As := [.int p1]) (rest := []) (w' := (MC g q d)) cx hw (c_X5_isOne l g q N p1 d x1 g2) (cl_X5_43 cx.1.2.2.2.2 ⟨Nat.le_of_ble_eq_true rfl, Nat.le_of_ble_eq_true rfl⟩) (x_recv cx hw (ci := 5) rfl 0 rfl) (Ct.all (MC_ll ..)) hl.1 rfl rfl (Nat.le_of_ble_eq_true rfl) dX5_as_2 ⟨Nat.le_of_ble_eq_true rfl, Nat.le_of_ble_eq_true rfl⟩ (st1 := [.int x1]) rfl (fun H locs hw => ?_)
  refine lv_if_eq (tgt := 20) hx hb dX5_as_5 (by decide) (fun c3 => ?_) (fun c3 => ?_)
  · replace h := ite_t c3 h
    refine lv_aload_n hx hb dX5_as_20 rfl (lv_at hl 0 rfl) ?_
    refine lv_ldc hx hb cx.1.2.2.2.1 (cx.1.2.2.2.2 _ tw_4_79) dX5_as_21 ?_
    obtain ⟨x4, d5, g6, h⟩ := bd2_ex h
    refine c_V (As := [.int (-1000000001 : Int32)]) (rest := []) (w' := (MC g q d5)) cx hw (c_X5_finds l g q N (-1000000001 : Int32) d x4 d5 g6) (cl_X5_62 cx.1.2.2.2.2 ⟨Nat.le_of_ble_eq_true rfl, Nat.le_of_ble_eq_true rfl⟩) (x_recv cx hw (ci := 5) rfl 0 rfl) (Ct.all (MC_ll ..)) hl.1 rfl rfl (Nat.le_of_ble_eq_true rfl) dX5_as_23 ⟨Nat.le_of_ble_eq_true rfl, Nat.le_of_ble_eq_true rfl⟩ (st1 := [.int x4]) rfl (fun H locs hw => ?_)
    exact r_i cx hr hlocks hw (pr1 h) (congrArg (fun z0 => (MC g q z0)) (pr2 h)) dX5_as_26
  · replace h := ite_f c3 h
    refine lv_iload_n hx hb dX5_as_8 rfl (lv_at hl 2 rfl) ?_
    refine lv_i2l hx hb dX5_as_9 rfl ?_
    refine lv_lconst (v := 0) hx hb dX5_as_10 (by decide) ?_
    refine lv_ldc2 hx hb cx.1.2.2.2.1 (cx.1.2.2.2.2 _ tw_4_97) dX5_as_11 ?_
    obtain ⟨x7, g8, h⟩ := bd_ex h
    refine c_S (As := [.long ((p2).toInt64), .long (0 : Int64), .long (5 : Int64)]) (rest := []) (w' := (MC g q d)) cx hw (c_X5_isIn l g  N ((p2).toInt64) (0 : Int64) (5 : Int64)  x7 g8) (cl_X5_54 cx.1.2.2.2.2 ⟨Nat.le_of_ble_eq_true rfl, Nat.le_of_ble_eq_true rfl⟩) Ct.nil hl.1 rfl rfl (Nat.le_of_ble_eq_true rfl) dX5_as_14 ⟨Nat.le_of_ble_eq_true rfl, Nat.le_of_ble_eq_true rfl⟩ (st1 := [.int x7]) rfl (fun H locs hw => ?_)
    refine lv_if_ne (tgt := 27) hx hb dX5_as_17 (by decide) (fun c9 => ?_) (fun c9 => ?_)
    · replace h := ite_f c9 h
      refine lv_aload_n hx hb dX5_as_27 rfl (lv_at hl 0 rfl) ?_
      refine lv_iload_n hx hb dX5_as_28 rfl (lv_at hl 1 rfl) ?_
      refine lv_iconst (v := 0) hx hb dX5_as_29 (by decide) ?_
      obtain ⟨x10, g11, h⟩ := bd_ex h
      refine c_V (As := [.int p1, .int (0 : Int32)]) (rest := []) (w' := (MC g q d)) cx hw (c_X5_is l g q N p1 (0 : Int32) d x10 g11) (cl_X5_47 cx.1.2.2.2.2 ⟨Nat.le_of_ble_eq_true rfl, Nat.le_of_ble_eq_true rfl⟩) (x_recv cx hw (ci := 5) rfl 0 rfl) (Ct.all (MC_ll ..)) hl.1 rfl rfl (Nat.le_of_ble_eq_true rfl) dX5_as_30 ⟨Nat.le_of_ble_eq_true rfl, Nat.le_of_ble_eq_true rfl⟩ (st1 := [.int x10]) rfl (fun H locs hw => ?_)
      refine lv_iload_n hx hb dX5_as_33 rfl (lv_at hl 2 rfl) ?_
      obtain ⟨x12, g13, h⟩ := bd_ex h
      refine c_S (As := [.int x10, .int p2]) (rest := []) (w' := (MC g q d)) cx hw (c_X5_isUnder l g  N x10 p2  x12 g13) (cl_X5_100 cx.1.2.2.2.2 ⟨Nat.le_of_ble_eq_true rfl, Nat.le_of_ble_eq_true rfl⟩) Ct.nil hl.1 rfl rfl (Nat.le_of_ble_eq_true rfl) dX5_as_34 ⟨Nat.le_of_ble_eq_true rfl, Nat.le_of_ble_eq_true rfl⟩ (st1 := [.int x12]) rfl (fun H locs hw => ?_)
      refine lv_if_eq (tgt := 49) hx hb dX5_as_37 (by decide) (fun c14 => ?_) (fun c14 => ?_)
      · replace h := ite_t c14 h
        refine lv_aload_n hx hb dX5_as_49 rfl (lv_at hl 0 rfl) ?_
        refine lv_ldc hx hb cx.1.2.2.2.1 (cx.1.2.2.2.2 _ tw_4_182) dX5_as_50 ?_
        obtain ⟨x15, d16, g17, h⟩ := bd2_ex h
        refine c_V (As := [.int (-1000000003 : Int32)]) (rest := []) (w' := (MC g q d16)) cx hw (c_X5_finds l g q N (-1000000003 : Int32) d x15 d16 g17) (cl_X5_62 cx.1.2.2.2.2 ⟨Nat.le_of_ble_eq_true rfl, Nat.le_of_ble_eq_true rfl⟩) (x_recv cx hw (ci := 5) rfl 0 rfl) (Ct.all (MC_ll ..)) hl.1 rfl rfl (Nat.le_of_ble_eq_true rfl) dX5_as_52 ⟨Nat.le_of_ble_eq_true rfl, Nat.le_of_ble_eq_true rfl⟩ (st1 := [.int x15]) rfl (fun H locs hw => ?_)
        exact r_i cx hr hlocks hw (pr1 h) (congrArg (fun z0 => (MC g q z0)) (pr2 h)) dX5_as_55
      · replace h := ite_f c14 h
        refine lv_aload_n hx hb dX5_as_40 rfl (lv_at hl 0 rfl) ?_
        refine lv_iload_n hx hb dX5_as_41 rfl (lv_at hl 1 rfl) ?_
        refine lv_iconst (v := 2) hx hb dX5_as_42 (by decide) ?_
        obtain ⟨x18, g19, h⟩ := bd_ex h
        refine c_V (As := [.int p1, .int (2 : Int32)]) (rest := []) (w' := (MC g q d)) cx hw (c_X5_is l g q N p1 (2 : Int32) d x18 g19) (cl_X5_47 cx.1.2.2.2.2 ⟨Nat.le_of_ble_eq_true rfl, Nat.le_of_ble_eq_true rfl⟩) (x_recv cx hw (ci := 5) rfl 0 rfl) (Ct.all (MC_ll ..)) hl.1 rfl rfl (Nat.le_of_ble_eq_true rfl) dX5_as_43 ⟨Nat.le_of_ble_eq_true rfl, Nat.le_of_ble_eq_true rfl⟩ (st1 := [.int x18]) rfl (fun H locs hw => ?_)
        refine lv_goto (tgt := 55) hx hb dX5_as_46 (by decide) ?_
        exact r_i cx hr hlocks hw (pr1 h) (congrArg (fun z0 => (MC g q z0)) (pr2 h)) dX5_as_55
    · replace h := ite_t c9 h
      refine lv_aload_n hx hb dX5_as_20 rfl (lv_at hl 0 rfl) ?_
      refine lv_ldc hx hb cx.1.2.2.2.1 (cx.1.2.2.2.2 _ tw_4_79) dX5_as_21 ?_
      obtain ⟨x20, d21, g22, h⟩ := bd2_ex h
      refine c_V (As := [.int (-1000000001 : Int32)]) (rest := []) (w' := (MC g q d21)) cx hw (c_X5_finds l g q N (-1000000001 : Int32) d x20 d21 g22) (cl_X5_62 cx.1.2.2.2.2 ⟨Nat.le_of_ble_eq_true rfl, Nat.le_of_ble_eq_true rfl⟩) (x_recv cx hw (ci := 5) rfl 0 rfl) (Ct.all (MC_ll ..)) hl.1 rfl rfl (Nat.le_of_ble_eq_true rfl) dX5_as_23 ⟨Nat.le_of_ble_eq_true rfl, Nat.le_of_ble_eq_true rfl⟩ (st1 := [.int x20]) rfl (fun H locs hw => ?_)
      exact r_i cx hr hlocks hw (pr1 h) (congrArg (fun z0 => (MC g q z0)) (pr2 h)) dX5_as_26
set_option maxHeartbeats 4000000 in
set_option maxRecDepth 100000 in
theorem c_X5_like (l : Launch) (g : gE) (q : Nat → Nat) (N : Nat) (p1 : Int32) (p2 : Int32) (d : MD) (r : Int32) (d' : MD) (h : f_X5_like N  p1 p2 d = some (r, d')) : MO l yX5_like (Cond.code yX5_like cX5_like 3 (some .int) :: TB) rm_X5_like [.ref (q 0), .int p1, .int p2] g ((MC g q d)) ((MC g q d')) (some (.int r)) 0 0 := by
  refine MO.of (cc := cX5_like) (maxL := 3) (ret := (some .int)) (by decide) ?_
  intro p e s m below meth c cx hw hr hlocks _
  have hx := cx.1.1
  have hb := cx.1.2.1
  refine en_go (lv := [(0, .ref (q 0)), (1, .int p1), (2, .int p2)]) (Nat.le_of_ble_eq_true rfl) rfl (fun ls hl => ?_)
  unfold f_X5_like at h
  refine lv_aload_n hx hb dX5_like_0 rfl (lv_at hl 0 rfl) ?_
  refine lv_iload_n hx hb dX5_like_1 rfl (lv_at hl 1 rfl) ?_
  refine lv_iload_n hx hb dX5_like_2 rfl (lv_at hl 2 rfl) ?_
  obtain ⟨x1, g2, h⟩ := bd_ex h
  refine c_V (As := [.int p1, .int p2]) (rest := []) (w' := (MC g q d)) cx hw (c_X5_areTwo l g q N p1 p2 d x1 g2) (cl_X5_90 cx.1.2.2.2.2 ⟨Nat.le_of_ble_eq_true rfl, Nat.le_of_ble_eq_true rfl⟩) (x_recv cx hw (ci := 5) rfl 0 rfl) (Ct.all (MC_ll ..)) hl.1 rfl rfl (Nat.le_of_ble_eq_true rfl) dX5_like_3 ⟨Nat.le_of_ble_eq_true rfl, Nat.le_of_ble_eq_true rfl⟩ (st1 := [.int x1]) rfl (fun H locs hw => ?_)
  refine lv_if_eq (tgt := 18) hx hb dX5_like_6 (by decide) (fun c3 => ?_) (fun c3 => ?_)
  · replace h := ite_t c3 h
    refine lv_aload_n hx hb dX5_like_18 rfl (lv_at hl 0 rfl) ?_
    refine lv_ldc hx hb cx.1.2.2.2.1 (cx.1.2.2.2.2 _ tw_4_79) dX5_like_19 ?_
    obtain ⟨x4, d5, g6, h⟩ := bd2_ex h
    refine c_V (As := [.int (-1000000001 : Int32)]) (rest := []) (w' := (MC g q d5)) cx hw (c_X5_finds l g q N (-1000000001 : Int32) d x4 d5 g6) (cl_X5_62 cx.1.2.2.2.2 ⟨Nat.le_of_ble_eq_true rfl, Nat.le_of_ble_eq_true rfl⟩) (x_recv cx hw (ci := 5) rfl 0 rfl) (Ct.all (MC_ll ..)) hl.1 rfl rfl (Nat.le_of_ble_eq_true rfl) dX5_like_21 ⟨Nat.le_of_ble_eq_true rfl, Nat.le_of_ble_eq_true rfl⟩ (st1 := [.int x4]) rfl (fun H locs hw => ?_)
    exact r_i cx hr hlocks hw (pr1 h) (congrArg (fun z0 => (MC g q z0)) (pr2 h)) dX5_like_24
  · replace h := ite_f c3 h
    refine lv_aload_n hx hb dX5_like_9 rfl (lv_at hl 0 rfl) ?_
    refine lv_iload_n hx hb dX5_like_10 rfl (lv_at hl 1 rfl) ?_
    refine lv_iload_n hx hb dX5_like_11 rfl (lv_at hl 2 rfl) ?_
    obtain ⟨x7, g8, h⟩ := bd_ex h
    refine c_V (As := [.int p1, .int p2]) (rest := []) (w' := (MC g q d)) cx hw (c_X5_likeOf l g q N p1 p2 d x7 g8) (cl_X5_104 cx.1.2.2.2.2 ⟨Nat.le_of_ble_eq_true rfl, Nat.le_of_ble_eq_true rfl⟩) (x_recv cx hw (ci := 5) rfl 0 rfl) (Ct.all (MC_ll ..)) hl.1 rfl rfl (Nat.le_of_ble_eq_true rfl) dX5_like_12 ⟨Nat.le_of_ble_eq_true rfl, Nat.le_of_ble_eq_true rfl⟩ (st1 := [.int x7]) rfl (fun H locs hw => ?_)
    refine lv_goto (tgt := 24) hx hb dX5_like_15 (by decide) ?_
    exact r_i cx hr hlocks hw (pr1 h) (congrArg (fun z0 => (MC g q z0)) (pr2 h)) dX5_like_24
set_option maxHeartbeats 4000000 in
set_option maxRecDepth 100000 in
theorem c_X5_same (l : Launch) (g : gE) (q : Nat → Nat) (N : Nat) (p1 : Int32) (p2 : Int32) (d : MD) (r : Int32) (d' : MD) (h : f_X5_same N  p1 p2 d = some (r, d')) : MO l yX5_same (Cond.code yX5_same cX5_same 5 (some .int) :: TB) rm_X5_same [.ref (q 0), .int p1, .int p2] g ((MC g q d)) ((MC g q d')) (some (.int r)) 0 0 := by
  refine MO.of (cc := cX5_same) (maxL := 5) (ret := (some .int)) (by decide) ?_
  intro p e s m below meth c cx hw hr hlocks _
  have hx := cx.1.1
  have hb := cx.1.2.1
  refine en_go (lv := [(0, .ref (q 0)), (1, .int p1), (2, .int p2)]) (Nat.le_of_ble_eq_true rfl) rfl (fun ls hl => ?_)
  have L21 : ∀ (n21 : Nat) (a1 : Int32) (a2 : Int32) (a3 : Int32) (a4 : Int32) (d_ : MD) (H : Heap) (locs : List Loc) (ls : Array Slot), Wd g (va_A ((MC g q d)) s.heap.size) ((MC g q d_)) s H locs → lv_has ls 5 [(0, .ref (q 0)), (1, .int a1), (2, .int a2), (3, .int a3), (4, .int a4)] → f_X5_same_L21 N   n21 a1 a2 a3 a4 d_ = some (r, d') → W p l e rm_X5_same s m ([.ref (q 0), .int p1, .int p2] : List Value).toArray below meth c H locs 0 0 (MQ below (QO (some (.int r)) g ((MC g q d')) (va_A ((MC g q d)) s.heap.size)) ([.ref (q 0), .int p1, .int p2] : List Value).toArray s 0 0 (va_A ((MC g q d)) s.heap.size)) (F0 m 21 ls []) := by
    intro n21
    induction n21 with
    | zero => intro a1 a2 a3 a4 d_ H locs ls hw hl h; exact (Option.some_ne_none _ h.symm).elim
    | succ n21 ih21 =>
      intro a1 a2 a3 a4 d_ H locs ls hw hl h
      rw [f_X5_same_L21] at h
      refine lv_iload hx hb dX5_same_21 (lv_at hl 4 rfl) ?_
      refine lv_bipush (v := 9) hx hb dX5_same_23 (by decide) ?_
      refine lv_icmp_ge (tgt := 65) hx hb dX5_same_25 (by decide) (fun c17 => ?_) (fun c17 => ?_)
      · replace h := ite_t c17 h
        refine lv_iload_n hx hb dX5_same_65 rfl (lv_at hl 3 rfl) ?_
        exact r_i cx hr hlocks hw (pr1 h) (congrArg (fun z0 => (MC g q z0)) (pr2 h)) dX5_same_66
      · replace h := ite_f c17 h
        refine lv_iload_n hx hb dX5_same_28 rfl (lv_at hl 3 rfl) ?_
        refine lv_aload_n hx hb dX5_same_29 rfl (lv_at hl 0 rfl) ?_
        refine lv_iload_n hx hb dX5_same_30 rfl (lv_at hl 1 rfl) ?_
        refine lv_bipush (v := 6) hx hb dX5_same_31 (by decide) ?_
        refine lv_iload hx hb dX5_same_33 (lv_at hl 4 rfl) ?_
        refine lv_iadd hx hb dX5_same_35 ?_
        obtain ⟨x18, g19, h⟩ := bd_ex h
        refine c_V (As := [.int a1, .int ((6 : Int32) + a4)]) (rest := [.int a3]) (w' := (MC g q d_)) cx hw (c_X5_is l g q N a1 ((6 : Int32) + a4) d_ x18 g19) (cl_X5_47 cx.1.2.2.2.2 ⟨Nat.le_of_ble_eq_true rfl, Nat.le_of_ble_eq_true rfl⟩) (x_recv cx hw (ci := 5) rfl 0 rfl) (Ct.all (MC_ll ..)) hl.1 rfl rfl (Nat.le_of_ble_eq_true rfl) dX5_same_36 ⟨Nat.le_of_ble_eq_true rfl, Nat.le_of_ble_eq_true rfl⟩ (st1 := [.int x18, .int a3]) rfl (fun H locs hw => ?_)
        refine lv_aload_n hx hb dX5_same_39 rfl (lv_at hl 0 rfl) ?_
        refine lv_iload_n hx hb dX5_same_40 rfl (lv_at hl 2 rfl) ?_
        refine lv_bipush (v := 6) hx hb dX5_same_41 (by decide) ?_
        refine lv_iload hx hb dX5_same_43 (lv_at hl 4 rfl) ?_
        refine lv_iadd hx hb dX5_same_45 ?_
        obtain ⟨x20, g21, h⟩ := bd_ex h
        refine c_V (As := [.int a2, .int ((6 : Int32) + a4)]) (rest := [.int x18, .int a3]) (w' := (MC g q d_)) cx hw (c_X5_is l g q N a2 ((6 : Int32) + a4) d_ x20 g21) (cl_X5_47 cx.1.2.2.2.2 ⟨Nat.le_of_ble_eq_true rfl, Nat.le_of_ble_eq_true rfl⟩) (x_recv cx hw (ci := 5) rfl 0 rfl) (Ct.all (MC_ll ..)) hl.1 rfl rfl (Nat.le_of_ble_eq_true rfl) dX5_same_46 ⟨Nat.le_of_ble_eq_true rfl, Nat.le_of_ble_eq_true rfl⟩ (st1 := [.int x20, .int x18, .int a3]) rfl (fun H locs hw => ?_)
        refine lv_icmp_ne (tgt := 56) hx hb dX5_same_49 (by decide) (fun c22 => ?_) (fun c22 => ?_)
        · replace h := ite_f c22 h
          refine lv_iconst (v := 0) hx hb dX5_same_56 (by decide) ?_
          refine lv_iadd hx hb dX5_same_57 ?_
          refine lv_topi (fun x23 ex23 => ?_)
          replace h := lt_nx ex23 h
          refine lv_istore_n (lv' := [(3, .int x23), (0, .ref (q 0)), (1, .int a1), (2, .int a2), (4, .int a4)]) hx hb dX5_same_58 rfl hl (by decide) rfl (fun ls hl => ?_)
          obtain ⟨x24, ex24⟩ : ∃ y : Int32, y = (a4 + 1) := ⟨_, rfl⟩
          replace h := lt_nx ex24 h
          refine lv_iinc (v := x24) (lv' := [(4, .int x24), (3, .int x23), (0, .ref (q 0)), (1, .int a1), (2, .int a2)]) hx hb dX5_same_59 hl (k := 4) rfl (by rw [ex24]; rfl) (by decide) rfl (fun ls hl => ?_)
          refine lv_goto (tgt := 21) hx hb dX5_same_62 (by decide) ?_
          exact ih21 a1 a2 x23 x24 d_ _ _ _ hw (lv_sub hl [2, 3, 4, 1, 0] rfl) h
        · replace h := ite_t c22 h
          refine lv_iconst (v := 1) hx hb dX5_same_52 (by decide) ?_
          refine lv_goto (tgt := 57) hx hb dX5_same_53 (by decide) ?_
          refine lv_iadd hx hb dX5_same_57 ?_
          refine lv_topi (fun x25 ex25 => ?_)
          replace h := lt_nx ex25 h
          refine lv_istore_n (lv' := [(3, .int x25), (0, .ref (q 0)), (1, .int a1), (2, .int a2), (4, .int a4)]) hx hb dX5_same_58 rfl hl (by decide) rfl (fun ls hl => ?_)
          obtain ⟨x26, ex26⟩ : ∃ y : Int32, y = (a4 + 1) := ⟨_, rfl⟩
          replace h := lt_nx ex26 h
          refine lv_iinc (v := x26) (lv' := [(4, .int x26), (3, .int x25), (0, .ref (q 0)), (1, .int a1), (2, .int a2)]) hx hb dX5_same_59 hl (k := 4) rfl (by rw [ex26]; rfl) (by decide) rfl (fun ls hl => ?_)
          refine lv_goto (tgt := 21) hx hb dX5_same_62 (by decide) ?_
          exact ih21 a1 a2 x25 x26 d_ _ _ _ hw (lv_sub hl [2, 3, 4, 1, 0] rfl) h
  unfold f_X5_same at h
  refine lv_aload_n hx hb dX5_same_0 rfl (lv_at hl 0 rfl) ?_
  refine lv_iload_n hx hb dX5_same_1 rfl (lv_at hl 1 rfl) ?_
  refine lv_iload_n hx hb dX5_same_2 rfl (lv_at hl 2 rfl) ?_
  obtain ⟨x1, g2, h⟩ := bd_ex h
  refine c_V (As := [.int p1, .int p2]) (rest := []) (w' := (MC g q d)) cx hw (c_X5_areTwo l g q N p1 p2 d x1 g2) (cl_X5_90 cx.1.2.2.2.2 ⟨Nat.le_of_ble_eq_true rfl, Nat.le_of_ble_eq_true rfl⟩) (x_recv cx hw (ci := 5) rfl 0 rfl) (Ct.all (MC_ll ..)) hl.1 rfl rfl (Nat.le_of_ble_eq_true rfl) dX5_same_3 ⟨Nat.le_of_ble_eq_true rfl, Nat.le_of_ble_eq_true rfl⟩ (st1 := [.int x1]) rfl (fun H locs hw => ?_)
  refine lv_if_ne (tgt := 16) hx hb dX5_same_6 (by decide) (fun c3 => ?_) (fun c3 => ?_)
  · replace h := ite_f c3 h
    refine lv_iconst (v := 0) hx hb dX5_same_16 (by decide) ?_
    refine lv_istore_n (lv' := [(3, .int (0 : Int32)), (0, .ref (q 0)), (1, .int p1), (2, .int p2)]) hx hb dX5_same_17 rfl hl (by decide) rfl (fun ls hl => ?_)
    refine lv_iconst (v := 0) hx hb dX5_same_18 (by decide) ?_
    refine lv_istore (lv' := [(4, .int (0 : Int32)), (3, .int (0 : Int32)), (0, .ref (q 0)), (1, .int p1), (2, .int p2)]) hx hb dX5_same_19 hl (by decide) rfl (fun ls hl => ?_)
    exact L21 N p1 p2 (0 : Int32) (0 : Int32) d _ _ _ hw (lv_sub hl [2, 3, 4, 1, 0] rfl) h
  · replace h := ite_t c3 h
    refine lv_aload_n hx hb dX5_same_9 rfl (lv_at hl 0 rfl) ?_
    refine lv_ldc hx hb cx.1.2.2.2.1 (cx.1.2.2.2.2 _ tw_4_79) dX5_same_10 ?_
    obtain ⟨x4, d5, g6, h⟩ := bd2_ex h
    refine c_V (As := [.int (-1000000001 : Int32)]) (rest := []) (w' := (MC g q d5)) cx hw (c_X5_finds l g q N (-1000000001 : Int32) d x4 d5 g6) (cl_X5_62 cx.1.2.2.2.2 ⟨Nat.le_of_ble_eq_true rfl, Nat.le_of_ble_eq_true rfl⟩) (x_recv cx hw (ci := 5) rfl 0 rfl) (Ct.all (MC_ll ..)) hl.1 rfl rfl (Nat.le_of_ble_eq_true rfl) dX5_same_12 ⟨Nat.le_of_ble_eq_true rfl, Nat.le_of_ble_eq_true rfl⟩ (st1 := [.int x4]) rfl (fun H locs hw => ?_)
    exact r_i cx hr hlocks hw (pr1 h) (congrArg (fun z0 => (MC g q z0)) (pr2 h)) dX5_same_15
set_option maxHeartbeats 4000000 in
set_option maxRecDepth 100000 in
theorem c_X5_heir (l : Launch) (g : gE) (q : Nat → Nat) (N : Nat) (p1 : Int32) (d : MD) (r : Int32) (d' : MD) (h : f_X5_heir N  p1 d = some (r, d')) : MO l yX5_heir (Cond.code yX5_heir cX5_heir 3 (some .int) :: TB) rm_X5_heir [.ref (q 0), .int p1] g ((MC g q d)) ((MC g q d')) (some (.int r)) 0 0 := by
  refine MO.of (cc := cX5_heir) (maxL := 3) (ret := (some .int)) (by decide) ?_
  intro p e s m below meth c cx hw hr hlocks _
  have hx := cx.1.1
  have hb := cx.1.2.1
  refine en_go (lv := [(0, .ref (q 0)), (1, .int p1)]) (Nat.le_of_ble_eq_true rfl) rfl (fun ls hl => ?_)
  unfold f_X5_heir at h
  refine lv_aload_n hx hb dX5_heir_0 rfl (lv_at hl 0 rfl) ?_
  refine lv_iload_n hx hb dX5_heir_1 rfl (lv_at hl 1 rfl) ?_
  obtain ⟨x1, g2, h⟩ := bd_ex h
  refine c_V (As := [.int p1]) (rest := []) (w' := (MC g q d)) cx hw (c_X5_isOne l g q N p1 d x1 g2) (cl_X5_43 cx.1.2.2.2.2 ⟨Nat.le_of_ble_eq_true rfl, Nat.le_of_ble_eq_true rfl⟩) (x_recv cx hw (ci := 5) rfl 0 rfl) (Ct.all (MC_ll ..)) hl.1 rfl rfl (Nat.le_of_ble_eq_true rfl) dX5_heir_2 ⟨Nat.le_of_ble_eq_true rfl, Nat.le_of_ble_eq_true rfl⟩ (st1 := [.int x1]) rfl (fun H locs hw => ?_)
  refine lv_if_ne (tgt := 15) hx hb dX5_heir_5 (by decide) (fun c3 => ?_) (fun c3 => ?_)
  · replace h := ite_f c3 h
    refine lv_aload_n hx hb dX5_heir_15 rfl (lv_at hl 0 rfl) ?_
    refine lv_iload_n hx hb dX5_heir_16 rfl (lv_at hl 1 rfl) ?_
    obtain ⟨x4, g5, h⟩ := bd_ex h
    refine c_V (As := [.int p1]) (rest := []) (w' := (MC g q d)) cx hw (c_X5_heirFor l g q N p1 d x4 g5) (cl_X5_113 cx.1.2.2.2.2 ⟨Nat.le_of_ble_eq_true rfl, Nat.le_of_ble_eq_true rfl⟩) (x_recv cx hw (ci := 5) rfl 0 rfl) (Ct.all (MC_ll ..)) hl.1 rfl rfl (Nat.le_of_ble_eq_true rfl) dX5_heir_17 ⟨Nat.le_of_ble_eq_true rfl, Nat.le_of_ble_eq_true rfl⟩ (st1 := [.int x4]) rfl (fun H locs hw => ?_)
    refine lv_istore_n (lv' := [(2, .int x4), (0, .ref (q 0)), (1, .int p1)]) hx hb dX5_heir_20 rfl hl (by decide) rfl (fun ls hl => ?_)
    refine lv_iload_n hx hb dX5_heir_21 rfl (lv_at hl 0 rfl) ?_
    refine lv_if_ge (tgt := 34) hx hb dX5_heir_22 (by decide) (fun c6 => ?_) (fun c6 => ?_)
    · replace h := ite_t c6 h
      refine lv_iload_n hx hb dX5_heir_34 rfl (lv_at hl 0 rfl) ?_
      exact r_i cx hr hlocks hw (pr1 h) (congrArg (fun z0 => (MC g q z0)) (pr2 h)) dX5_heir_35
    · replace h := ite_f c6 h
      refine lv_aload_n hx hb dX5_heir_25 rfl (lv_at hl 1 rfl) ?_
      refine lv_ldc hx hb cx.1.2.2.2.1 (cx.1.2.2.2.2 _ tw_4_195) dX5_heir_26 ?_
      obtain ⟨x7, d8, g9, h⟩ := bd2_ex h
      refine c_V (As := [.int (-1000000004 : Int32)]) (rest := []) (w' := (MC g q d8)) cx hw (c_X5_finds l g q N (-1000000004 : Int32) d x7 d8 g9) (cl_X5_62 cx.1.2.2.2.2 ⟨Nat.le_of_ble_eq_true rfl, Nat.le_of_ble_eq_true rfl⟩) (x_recv cx hw (ci := 5) rfl 0 rfl) (Ct.all (MC_ll ..)) hl.1 rfl rfl (Nat.le_of_ble_eq_true rfl) dX5_heir_28 ⟨Nat.le_of_ble_eq_true rfl, Nat.le_of_ble_eq_true rfl⟩ (st1 := [.int x7]) rfl (fun H locs hw => ?_)
      refine lv_goto (tgt := 35) hx hb dX5_heir_31 (by decide) ?_
      exact r_i cx hr hlocks hw (pr1 h) (congrArg (fun z0 => (MC g q z0)) (pr2 h)) dX5_heir_35
  · replace h := ite_t c3 h
    refine lv_aload_n hx hb dX5_heir_8 rfl (lv_at hl 0 rfl) ?_
    refine lv_ldc hx hb cx.1.2.2.2.1 (cx.1.2.2.2.2 _ tw_4_79) dX5_heir_9 ?_
    obtain ⟨x10, d11, g12, h⟩ := bd2_ex h
    refine c_V (As := [.int (-1000000001 : Int32)]) (rest := []) (w' := (MC g q d11)) cx hw (c_X5_finds l g q N (-1000000001 : Int32) d x10 d11 g12) (cl_X5_62 cx.1.2.2.2.2 ⟨Nat.le_of_ble_eq_true rfl, Nat.le_of_ble_eq_true rfl⟩) (x_recv cx hw (ci := 5) rfl 0 rfl) (Ct.all (MC_ll ..)) hl.1 rfl rfl (Nat.le_of_ble_eq_true rfl) dX5_heir_11 ⟨Nat.le_of_ble_eq_true rfl, Nat.le_of_ble_eq_true rfl⟩ (st1 := [.int x10]) rfl (fun H locs hw => ?_)
    exact r_i cx hr hlocks hw (pr1 h) (congrArg (fun z0 => (MC g q z0)) (pr2 h)) dX5_heir_14
set_option maxHeartbeats 4000000 in
set_option maxRecDepth 100000 in
theorem c_X5_heirsSet (l : Launch) (g : gE) (q : Nat → Nat) (N : Nat) (p1 : Int32) (d : MD) (r : Int32) (h : f_X5_heirsSet N  p1 d = some r) : MO l yX5_heirsSet (Cond.code yX5_heirsSet cX5_heirsSet 4 (some .int) :: TB) rm_X5_heirsSet [.ref (q 0), .int p1] g ((MC g q d)) ((MC g q d)) (some (.int r)) 0 0 := by
  refine MO.of (cc := cX5_heirsSet) (maxL := 4) (ret := (some .int)) (by decide) ?_
  intro p e s m below meth c cx hw hr hlocks _
  have hx := cx.1.1
  have hb := cx.1.2.1
  refine en_go (lv := [(0, .ref (q 0)), (1, .int p1)]) (Nat.le_of_ble_eq_true rfl) rfl (fun ls hl => ?_)
  have L4 : ∀ (n4 : Nat) (a1 : Int32) (a2 : Int32) (a3 : Int32) (H : Heap) (locs : List Loc) (ls : Array Slot), Wd g (va_A ((MC g q d)) s.heap.size) ((MC g q d)) s H locs → lv_has ls 4 [(0, .ref (q 0)), (1, .int a1), (2, .int a2), (3, .int a3)] → f_X5_heirsSet_L4 N d  n4 a1 a2 a3 = some r → W p l e rm_X5_heirsSet s m ([.ref (q 0), .int p1] : List Value).toArray below meth c H locs 0 0 (MQ below (QO (some (.int r)) g ((MC g q d)) (va_A ((MC g q d)) s.heap.size)) ([.ref (q 0), .int p1] : List Value).toArray s 0 0 (va_A ((MC g q d)) s.heap.size)) (F0 m 4 ls []) := by
    intro n4
    induction n4 with
    | zero => intro a1 a2 a3 H locs ls hw hl h; exact (Option.some_ne_none _ h.symm).elim
    | succ n4 ih4 =>
      intro a1 a2 a3 H locs ls hw hl h
      rw [f_X5_heirsSet_L4] at h
      refine lv_iload_n hx hb dX5_heirsSet_4 rfl (lv_at hl 3 rfl) ?_
      refine lv_aload_n hx hb dX5_heirsSet_5 rfl (lv_at hl 0 rfl) ?_
      refine gf_X5_7 cx hw 0 rfl rfl dX5_heirsSet_6 ?_
      refine lv_iconst (v := 0) hx hb dX5_heirsSet_9 (by decide) ?_
      have ix18 := rd_in h
      refine x_iald cx hw 1 rfl ix18 dX5_heirsSet_10 ?_
      refine lv_topi (fun x18 ex18 => ?_)
      replace h := rd_nx ex18 h
      refine lv_icmp_ge (tgt := 52) hx hb dX5_heirsSet_11 (by decide) (fun c19 => ?_) (fun c19 => ?_)
      · replace h := ite_t c19 h
        refine lv_iload_n hx hb dX5_heirsSet_52 rfl (lv_at hl 2 rfl) ?_
        exact r_i cx hr hlocks hw (sm_eq h) rfl dX5_heirsSet_53
      · replace h := ite_f c19 h
        refine lv_iload_n hx hb dX5_heirsSet_14 rfl (lv_at hl 2 rfl) ?_
        refine lv_iload_n hx hb dX5_heirsSet_15 rfl (lv_at hl 3 rfl) ?_
        refine lv_iload_n hx hb dX5_heirsSet_16 rfl (lv_at hl 1 rfl) ?_
        refine lv_icmp_eq (tgt := 43) hx hb dX5_heirsSet_17 (by decide) (fun c20 => ?_) (fun c20 => ?_)
        · replace h := ite_t c20 h
          refine lv_iconst (v := 0) hx hb dX5_heirsSet_43 (by decide) ?_
          refine lv_ior hx hb dX5_heirsSet_44 ?_
          refine lv_topi (fun x21 ex21 => ?_)
          replace h := lt_nx ex21 h
          refine lv_istore_n (lv' := [(2, .int x21), (0, .ref (q 0)), (1, .int a1), (3, .int a3)]) hx hb dX5_heirsSet_45 rfl hl (by decide) rfl (fun ls hl => ?_)
          obtain ⟨x22, ex22⟩ : ∃ y : Int32, y = (a3 + 1) := ⟨_, rfl⟩
          replace h := lt_nx ex22 h
          refine lv_iinc (v := x22) (lv' := [(3, .int x22), (2, .int x21), (0, .ref (q 0)), (1, .int a1)]) hx hb dX5_heirsSet_46 hl (k := 3) rfl (by rw [ex22]; rfl) (by decide) rfl (fun ls hl => ?_)
          refine lv_goto (tgt := 4) hx hb dX5_heirsSet_49 (by decide) ?_
          exact ih4 a1 x21 x22 _ _ _ hw (lv_sub hl [2, 3, 1, 0] rfl) h
        · replace h := ite_f c20 h
          refine lv_aload_n hx hb dX5_heirsSet_20 rfl (lv_at hl 0 rfl) ?_
          refine lv_iload_n hx hb dX5_heirsSet_21 rfl (lv_at hl 3 rfl) ?_
          obtain ⟨x23, g24, h⟩ := bd_ex h
          refine c_V (As := [.int a3]) (rest := [.int a2]) (w' := (MC g q d)) cx hw (c_X5_lives l g q N a3 d x23 g24) (cl_X5_107 cx.1.2.2.2.2 ⟨Nat.le_of_ble_eq_true rfl, Nat.le_of_ble_eq_true rfl⟩) (x_recv cx hw (ci := 5) rfl 0 rfl) (Ct.all (MC_ll ..)) hl.1 rfl rfl (Nat.le_of_ble_eq_true rfl) dX5_heirsSet_22 ⟨Nat.le_of_ble_eq_true rfl, Nat.le_of_ble_eq_true rfl⟩ (st1 := [.int x23, .int a2]) rfl (fun H locs hw => ?_)
          refine lv_if_eq (tgt := 43) hx hb dX5_heirsSet_25 (by decide) (fun c25 => ?_) (fun c25 => ?_)
          · replace h := ite_t c25 h
            refine lv_iconst (v := 0) hx hb dX5_heirsSet_43 (by decide) ?_
            refine lv_ior hx hb dX5_heirsSet_44 ?_
            refine lv_topi (fun x26 ex26 => ?_)
            replace h := lt_nx ex26 h
            refine lv_istore_n (lv' := [(2, .int x26), (0, .ref (q 0)), (1, .int a1), (3, .int a3)]) hx hb dX5_heirsSet_45 rfl hl (by decide) rfl (fun ls hl => ?_)
            obtain ⟨x27, ex27⟩ : ∃ y : Int32, y = (a3 + 1) := ⟨_, rfl⟩
            replace h := lt_nx ex27 h
            refine lv_iinc (v := x27) (lv' := [(3, .int x27), (2, .int x26), (0, .ref (q 0)), (1, .int a1)]) hx hb dX5_heirsSet_46 hl (k := 3) rfl (by rw [ex27]; rfl) (by decide) rfl (fun ls hl => ?_)
            refine lv_goto (tgt := 4) hx hb dX5_heirsSet_49 (by decide) ?_
            exact ih4 a1 x26 x27 _ _ _ hw (lv_sub hl [2, 3, 1, 0] rfl) h
          · replace h := ite_f c25 h
            refine lv_aload_n hx hb dX5_heirsSet_28 rfl (lv_at hl 0 rfl) ?_
            refine lv_iload_n hx hb dX5_heirsSet_29 rfl (lv_at hl 3 rfl) ?_
            obtain ⟨x28, g29, h⟩ := bd_ex h
            refine c_V (As := [.int a3]) (rest := [.int a2]) (w' := (MC g q d)) cx hw (c_X5_heirFor l g q N a3 d x28 g29) (cl_X5_113 cx.1.2.2.2.2 ⟨Nat.le_of_ble_eq_true rfl, Nat.le_of_ble_eq_true rfl⟩) (x_recv cx hw (ci := 5) rfl 0 rfl) (Ct.all (MC_ll ..)) hl.1 rfl rfl (Nat.le_of_ble_eq_true rfl) dX5_heirsSet_30 ⟨Nat.le_of_ble_eq_true rfl, Nat.le_of_ble_eq_true rfl⟩ (st1 := [.int x28, .int a2]) rfl (fun H locs hw => ?_)
            refine lv_iload_n hx hb dX5_heirsSet_33 rfl (lv_at hl 1 rfl) ?_
            refine lv_icmp_ne (tgt := 43) hx hb dX5_heirsSet_34 (by decide) (fun c30 => ?_) (fun c30 => ?_)
            · replace h := ite_f c30 h
              refine lv_iconst (v := 0) hx hb dX5_heirsSet_43 (by decide) ?_
              refine lv_ior hx hb dX5_heirsSet_44 ?_
              refine lv_topi (fun x31 ex31 => ?_)
              replace h := lt_nx ex31 h
              refine lv_istore_n (lv' := [(2, .int x31), (0, .ref (q 0)), (1, .int a1), (3, .int a3)]) hx hb dX5_heirsSet_45 rfl hl (by decide) rfl (fun ls hl => ?_)
              obtain ⟨x32, ex32⟩ : ∃ y : Int32, y = (a3 + 1) := ⟨_, rfl⟩
              replace h := lt_nx ex32 h
              refine lv_iinc (v := x32) (lv' := [(3, .int x32), (2, .int x31), (0, .ref (q 0)), (1, .int a1)]) hx hb dX5_heirsSet_46 hl (k := 3) rfl (by rw [ex32]; rfl) (by decide) rfl (fun ls hl => ?_)
              refine lv_goto (tgt := 4) hx hb dX5_heirsSet_49 (by decide) ?_
              exact ih4 a1 x31 x32 _ _ _ hw (lv_sub hl [2, 3, 1, 0] rfl) h
            · replace h := ite_t c30 h
              refine lv_iconst (v := 1) hx hb dX5_heirsSet_37 (by decide) ?_
              refine lv_iload_n hx hb dX5_heirsSet_38 rfl (lv_at hl 3 rfl) ?_
              refine lv_ishl hx hb dX5_heirsSet_39 ?_
              refine lv_goto (tgt := 44) hx hb dX5_heirsSet_40 (by decide) ?_
              refine lv_ior hx hb dX5_heirsSet_44 ?_
              refine lv_topi (fun x33 ex33 => ?_)
              replace h := lt_nx ex33 h
              refine lv_istore_n (lv' := [(2, .int x33), (0, .ref (q 0)), (1, .int a1), (3, .int a3)]) hx hb dX5_heirsSet_45 rfl hl (by decide) rfl (fun ls hl => ?_)
              obtain ⟨x34, ex34⟩ : ∃ y : Int32, y = (a3 + 1) := ⟨_, rfl⟩
              replace h := lt_nx ex34 h
              refine lv_iinc (v := x34) (lv' := [(3, .int x34), (2, .int x33), (0, .ref (q 0)), (1, .int a1)]) hx hb dX5_heirsSet_46 hl (k := 3) rfl (by rw [ex34]; rfl) (by decide) rfl (fun ls hl => ?_)
              refine lv_goto (tgt := 4) hx hb dX5_heirsSet_49 (by decide) ?_
              exact ih4 a1 x33 x34 _ _ _ hw (lv_sub hl [2, 3, 1, 0] rfl) h
  unfold f_X5_heirsSet at h
  refine lv_iconst (v := 0) hx hb dX5_heirsSet_0 (by decide) ?_
  refine lv_istore_n (lv' := [(2, .int (0 : Int32)), (0, .ref (q 0)), (1, .int p1)]) hx hb dX5_heirsSet_1 rfl hl (by decide) rfl (fun ls hl => ?_)
  refine lv_iconst (v := 0) hx hb dX5_heirsSet_2 (by decide) ?_
  refine lv_istore_n (lv' := [(3, .int (0 : Int32)), (2, .int (0 : Int32)), (0, .ref (q 0)), (1, .int p1)]) hx hb dX5_heirsSet_3 rfl hl (by decide) rfl (fun ls hl => ?_)
  exact L4 N p1 (0 : Int32) (0 : Int32) _ _ _ hw (lv_sub hl [2, 3, 1, 0] rfl) h
set_option maxHeartbeats 4000000 in
set_option maxRecDepth 100000 in
theorem c_X5_heirOf (l : Launch) (g : gE) (q : Nat → Nat) (N : Nat) (p1 : Int32) (d : MD) (r : Int32) (d' : MD) (h : f_X5_heirOf N  p1 d = some (r, d')) : MO l yX5_heirOf (Cond.code yX5_heirOf cX5_heirOf 2 (some .int) :: TB) rm_X5_heirOf [.ref (q 0), .int p1] g ((MC g q d)) ((MC g q d')) (some (.int r)) 0 0 := by
  refine MO.of (cc := cX5_heirOf) (maxL := 2) (ret := (some .int)) (by decide) ?_
  intro p e s m below meth c cx hw hr hlocks _
  have hx := cx.1.1
  have hb := cx.1.2.1
  refine en_go (lv := [(0, .ref (q 0)), (1, .int p1)]) (Nat.le_of_ble_eq_true rfl) rfl (fun ls hl => ?_)
  unfold f_X5_heirOf at h
  refine lv_aload_n hx hb dX5_heirOf_0 rfl (lv_at hl 0 rfl) ?_
  refine lv_iload_n hx hb dX5_heirOf_1 rfl (lv_at hl 1 rfl) ?_
  obtain ⟨x1, g2, h⟩ := bd_ex h
  refine c_V (As := [.int p1]) (rest := []) (w' := (MC g q d)) cx hw (c_X5_isOne l g q N p1 d x1 g2) (cl_X5_43 cx.1.2.2.2.2 ⟨Nat.le_of_ble_eq_true rfl, Nat.le_of_ble_eq_true rfl⟩) (x_recv cx hw (ci := 5) rfl 0 rfl) (Ct.all (MC_ll ..)) hl.1 rfl rfl (Nat.le_of_ble_eq_true rfl) dX5_heirOf_2 ⟨Nat.le_of_ble_eq_true rfl, Nat.le_of_ble_eq_true rfl⟩ (st1 := [.int x1]) rfl (fun H locs hw => ?_)
  refine lv_if_eq (tgt := 16) hx hb dX5_heirOf_5 (by decide) (fun c3 => ?_) (fun c3 => ?_)
  · replace h := ite_t c3 h
    refine lv_aload_n hx hb dX5_heirOf_16 rfl (lv_at hl 0 rfl) ?_
    refine lv_ldc hx hb cx.1.2.2.2.1 (cx.1.2.2.2.2 _ tw_4_79) dX5_heirOf_17 ?_
    obtain ⟨x4, d5, g6, h⟩ := bd2_ex h
    refine c_V (As := [.int (-1000000001 : Int32)]) (rest := []) (w' := (MC g q d5)) cx hw (c_X5_finds l g q N (-1000000001 : Int32) d x4 d5 g6) (cl_X5_62 cx.1.2.2.2.2 ⟨Nat.le_of_ble_eq_true rfl, Nat.le_of_ble_eq_true rfl⟩) (x_recv cx hw (ci := 5) rfl 0 rfl) (Ct.all (MC_ll ..)) hl.1 rfl rfl (Nat.le_of_ble_eq_true rfl) dX5_heirOf_19 ⟨Nat.le_of_ble_eq_true rfl, Nat.le_of_ble_eq_true rfl⟩ (st1 := [.int x4]) rfl (fun H locs hw => ?_)
    exact r_i cx hr hlocks hw (pr1 h) (congrArg (fun z0 => (MC g q z0)) (pr2 h)) dX5_heirOf_22
  · replace h := ite_f c3 h
    refine lv_aload_n hx hb dX5_heirOf_8 rfl (lv_at hl 0 rfl) ?_
    refine lv_iload_n hx hb dX5_heirOf_9 rfl (lv_at hl 1 rfl) ?_
    obtain ⟨x7, g8, h⟩ := bd_ex h
    refine c_V (As := [.int p1]) (rest := []) (w' := (MC g q d)) cx hw (c_X5_heirsSet l g q N p1 d x7 g8) (cl_X5_117 cx.1.2.2.2.2 ⟨Nat.le_of_ble_eq_true rfl, Nat.le_of_ble_eq_true rfl⟩) (x_recv cx hw (ci := 5) rfl 0 rfl) (Ct.all (MC_ll ..)) hl.1 rfl rfl (Nat.le_of_ble_eq_true rfl) dX5_heirOf_10 ⟨Nat.le_of_ble_eq_true rfl, Nat.le_of_ble_eq_true rfl⟩ (st1 := [.int x7]) rfl (fun H locs hw => ?_)
    refine lv_goto (tgt := 22) hx hb dX5_heirOf_13 (by decide) ?_
    exact r_i cx hr hlocks hw (pr1 h) (congrArg (fun z0 => (MC g q z0)) (pr2 h)) dX5_heirOf_22
set_option maxHeartbeats 4000000 in
set_option maxRecDepth 100000 in
theorem c_X5_watched (l : Launch) (g : gE) (q : Nat → Nat) (N : Nat) (p1 : Int32) (d : MD) (r : Int32) (d' : MD) (h : f_X5_watched N  p1 d = some (r, d')) : MO l yX5_watched (Cond.code yX5_watched cX5_watched 4 (some .int) :: TB) rm_X5_watched [.ref (q 0), .int p1] g ((MC g q d)) ((MC g q d')) (some (.int r)) 0 0 := by
  refine MO.of (cc := cX5_watched) (maxL := 4) (ret := (some .int)) (by decide) ?_
  intro p e s m below meth c cx hw hr hlocks _
  have hx := cx.1.1
  have hb := cx.1.2.1
  refine en_go (lv := [(0, .ref (q 0)), (1, .int p1)]) (Nat.le_of_ble_eq_true rfl) rfl (fun ls hl => ?_)
  have L19 : ∀ (n19 : Nat) (a1 : Int32) (a2 : Int32) (a3 : Int32) (d_ : MD) (H : Heap) (locs : List Loc) (ls : Array Slot), Wd g (va_A ((MC g q d)) s.heap.size) ((MC g q d_)) s H locs → lv_has ls 4 [(0, .ref (q 0)), (1, .int a1), (2, .int a2), (3, .int a3)] → f_X5_watched_L19 N   n19 a1 a2 a3 d_ = some (r, d') → W p l e rm_X5_watched s m ([.ref (q 0), .int p1] : List Value).toArray below meth c H locs 0 0 (MQ below (QO (some (.int r)) g ((MC g q d')) (va_A ((MC g q d)) s.heap.size)) ([.ref (q 0), .int p1] : List Value).toArray s 0 0 (va_A ((MC g q d)) s.heap.size)) (F0 m 19 ls []) := by
    intro n19
    induction n19 with
    | zero => intro a1 a2 a3 d_ H locs ls hw hl h; exact (Option.some_ne_none _ h.symm).elim
    | succ n19 ih19 =>
      intro a1 a2 a3 d_ H locs ls hw hl h
      rw [f_X5_watched_L19] at h
      refine lv_iload_n hx hb dX5_watched_19 rfl (lv_at hl 3 rfl) ?_
      refine lv_aload_n hx hb dX5_watched_20 rfl (lv_at hl 0 rfl) ?_
      refine gf_X5_7 cx hw 0 rfl rfl dX5_watched_21 ?_
      refine lv_iconst (v := 0) hx hb dX5_watched_24 (by decide) ?_
      have ix21 := rd_in h
      refine x_iald cx hw 1 rfl ix21 dX5_watched_25 ?_
      refine lv_topi (fun x21 ex21 => ?_)
      replace h := rd_nx ex21 h
      refine lv_icmp_ge (tgt := 62) hx hb dX5_watched_26 (by decide) (fun c22 => ?_) (fun c22 => ?_)
      · replace h := ite_t c22 h
        refine lv_iload_n hx hb dX5_watched_62 rfl (lv_at hl 2 rfl) ?_
        exact r_i cx hr hlocks hw (pr1 h) (congrArg (fun z0 => (MC g q z0)) (pr2 h)) dX5_watched_63
      · replace h := ite_f c22 h
        refine lv_iload_n hx hb dX5_watched_29 rfl (lv_at hl 2 rfl) ?_
        refine lv_aload_n hx hb dX5_watched_30 rfl (lv_at hl 0 rfl) ?_
        refine lv_iload_n hx hb dX5_watched_31 rfl (lv_at hl 3 rfl) ?_
        obtain ⟨x23, g24, h⟩ := bd_ex h
        refine c_V (As := [.int a3]) (rest := [.int a2]) (w' := (MC g q d_)) cx hw (c_X5_lives l g q N a3 d_ x23 g24) (cl_X5_107 cx.1.2.2.2.2 ⟨Nat.le_of_ble_eq_true rfl, Nat.le_of_ble_eq_true rfl⟩) (x_recv cx hw (ci := 5) rfl 0 rfl) (Ct.all (MC_ll ..)) hl.1 rfl rfl (Nat.le_of_ble_eq_true rfl) dX5_watched_32 ⟨Nat.le_of_ble_eq_true rfl, Nat.le_of_ble_eq_true rfl⟩ (st1 := [.int x23, .int a2]) rfl (fun H locs hw => ?_)
        refine lv_if_eq (tgt := 53) hx hb dX5_watched_35 (by decide) (fun c25 => ?_) (fun c25 => ?_)
        · replace h := ite_t c25 h
          refine lv_iconst (v := 0) hx hb dX5_watched_53 (by decide) ?_
          refine lv_ior hx hb dX5_watched_54 ?_
          refine lv_topi (fun x26 ex26 => ?_)
          replace h := lt_nx ex26 h
          refine lv_istore_n (lv' := [(2, .int x26), (0, .ref (q 0)), (1, .int a1), (3, .int a3)]) hx hb dX5_watched_55 rfl hl (by decide) rfl (fun ls hl => ?_)
          obtain ⟨x27, ex27⟩ : ∃ y : Int32, y = (a3 + 1) := ⟨_, rfl⟩
          replace h := lt_nx ex27 h
          refine lv_iinc (v := x27) (lv' := [(3, .int x27), (2, .int x26), (0, .ref (q 0)), (1, .int a1)]) hx hb dX5_watched_56 hl (k := 3) rfl (by rw [ex27]; rfl) (by decide) rfl (fun ls hl => ?_)
          refine lv_goto (tgt := 19) hx hb dX5_watched_59 (by decide) ?_
          exact ih19 a1 x26 x27 d_ _ _ _ hw (lv_sub hl [2, 3, 1, 0] rfl) h
        · replace h := ite_f c25 h
          refine lv_aload_n hx hb dX5_watched_38 rfl (lv_at hl 0 rfl) ?_
          refine lv_iload_n hx hb dX5_watched_39 rfl (lv_at hl 3 rfl) ?_
          obtain ⟨x28, g29, h⟩ := bd_ex h
          refine c_V (As := [.int a3]) (rest := [.int a2]) (w' := (MC g q d_)) cx hw (c_X5_aimOf l g q N a3 d_ x28 g29) (cl_X5_85 cx.1.2.2.2.2 ⟨Nat.le_of_ble_eq_true rfl, Nat.le_of_ble_eq_true rfl⟩) (x_recv cx hw (ci := 5) rfl 0 rfl) (Ct.all (MC_ll ..)) hl.1 rfl rfl (Nat.le_of_ble_eq_true rfl) dX5_watched_40 ⟨Nat.le_of_ble_eq_true rfl, Nat.le_of_ble_eq_true rfl⟩ (st1 := [.int x28, .int a2]) rfl (fun H locs hw => ?_)
          refine lv_iload_n hx hb dX5_watched_43 rfl (lv_at hl 1 rfl) ?_
          refine lv_icmp_ne (tgt := 53) hx hb dX5_watched_44 (by decide) (fun c30 => ?_) (fun c30 => ?_)
          · replace h := ite_f c30 h
            refine lv_iconst (v := 0) hx hb dX5_watched_53 (by decide) ?_
            refine lv_ior hx hb dX5_watched_54 ?_
            refine lv_topi (fun x31 ex31 => ?_)
            replace h := lt_nx ex31 h
            refine lv_istore_n (lv' := [(2, .int x31), (0, .ref (q 0)), (1, .int a1), (3, .int a3)]) hx hb dX5_watched_55 rfl hl (by decide) rfl (fun ls hl => ?_)
            obtain ⟨x32, ex32⟩ : ∃ y : Int32, y = (a3 + 1) := ⟨_, rfl⟩
            replace h := lt_nx ex32 h
            refine lv_iinc (v := x32) (lv' := [(3, .int x32), (2, .int x31), (0, .ref (q 0)), (1, .int a1)]) hx hb dX5_watched_56 hl (k := 3) rfl (by rw [ex32]; rfl) (by decide) rfl (fun ls hl => ?_)
            refine lv_goto (tgt := 19) hx hb dX5_watched_59 (by decide) ?_
            exact ih19 a1 x31 x32 d_ _ _ _ hw (lv_sub hl [2, 3, 1, 0] rfl) h
          · replace h := ite_t c30 h
            refine lv_iconst (v := 1) hx hb dX5_watched_47 (by decide) ?_
            refine lv_iload_n hx hb dX5_watched_48 rfl (lv_at hl 3 rfl) ?_
            refine lv_ishl hx hb dX5_watched_49 ?_
            refine lv_goto (tgt := 54) hx hb dX5_watched_50 (by decide) ?_
            refine lv_ior hx hb dX5_watched_54 ?_
            refine lv_topi (fun x33 ex33 => ?_)
            replace h := lt_nx ex33 h
            refine lv_istore_n (lv' := [(2, .int x33), (0, .ref (q 0)), (1, .int a1), (3, .int a3)]) hx hb dX5_watched_55 rfl hl (by decide) rfl (fun ls hl => ?_)
            obtain ⟨x34, ex34⟩ : ∃ y : Int32, y = (a3 + 1) := ⟨_, rfl⟩
            replace h := lt_nx ex34 h
            refine lv_iinc (v := x34) (lv' := [(3, .int x34), (2, .int x33), (0, .ref (q 0)), (1, .int a1)]) hx hb dX5_watched_56 hl (k := 3) rfl (by rw [ex34]; rfl) (by decide) rfl (fun ls hl => ?_)
            refine lv_goto (tgt := 19) hx hb dX5_watched_59 (by decide) ?_
            exact ih19 a1 x33 x34 d_ _ _ _ hw (lv_sub hl [2, 3, 1, 0] rfl) h
  unfold f_X5_watched at h
  refine lv_aload_n hx hb dX5_watched_0 rfl (lv_at hl 0 rfl) ?_
  refine lv_iload_n hx hb dX5_watched_1 rfl (lv_at hl 1 rfl) ?_
  obtain ⟨x1, g2, h⟩ := bd_ex h
  refine c_V (As := [.int p1]) (rest := []) (w' := (MC g q d)) cx hw (c_X5_isOne l g q N p1 d x1 g2) (cl_X5_43 cx.1.2.2.2.2 ⟨Nat.le_of_ble_eq_true rfl, Nat.le_of_ble_eq_true rfl⟩) (x_recv cx hw (ci := 5) rfl 0 rfl) (Ct.all (MC_ll ..)) hl.1 rfl rfl (Nat.le_of_ble_eq_true rfl) dX5_watched_2 ⟨Nat.le_of_ble_eq_true rfl, Nat.le_of_ble_eq_true rfl⟩ (st1 := [.int x1]) rfl (fun H locs hw => ?_)
  refine lv_if_ne (tgt := 15) hx hb dX5_watched_5 (by decide) (fun c3 => ?_) (fun c3 => ?_)
  · replace h := ite_f c3 h
    refine lv_iconst (v := 0) hx hb dX5_watched_15 (by decide) ?_
    refine lv_istore_n (lv' := [(2, .int (0 : Int32)), (0, .ref (q 0)), (1, .int p1)]) hx hb dX5_watched_16 rfl hl (by decide) rfl (fun ls hl => ?_)
    refine lv_iconst (v := 0) hx hb dX5_watched_17 (by decide) ?_
    refine lv_istore_n (lv' := [(3, .int (0 : Int32)), (2, .int (0 : Int32)), (0, .ref (q 0)), (1, .int p1)]) hx hb dX5_watched_18 rfl hl (by decide) rfl (fun ls hl => ?_)
    exact L19 N p1 (0 : Int32) (0 : Int32) d _ _ _ hw (lv_sub hl [2, 3, 1, 0] rfl) h
  · replace h := ite_t c3 h
    refine lv_aload_n hx hb dX5_watched_8 rfl (lv_at hl 0 rfl) ?_
    refine lv_ldc hx hb cx.1.2.2.2.1 (cx.1.2.2.2.2 _ tw_4_79) dX5_watched_9 ?_
    obtain ⟨x4, d5, g6, h⟩ := bd2_ex h
    refine c_V (As := [.int (-1000000001 : Int32)]) (rest := []) (w' := (MC g q d5)) cx hw (c_X5_finds l g q N (-1000000001 : Int32) d x4 d5 g6) (cl_X5_62 cx.1.2.2.2.2 ⟨Nat.le_of_ble_eq_true rfl, Nat.le_of_ble_eq_true rfl⟩) (x_recv cx hw (ci := 5) rfl 0 rfl) (Ct.all (MC_ll ..)) hl.1 rfl rfl (Nat.le_of_ble_eq_true rfl) dX5_watched_11 ⟨Nat.le_of_ble_eq_true rfl, Nat.le_of_ble_eq_true rfl⟩ (st1 := [.int x4]) rfl (fun H locs hw => ?_)
    exact r_i cx hr hlocks hw (pr1 h) (congrArg (fun z0 => (MC g q z0)) (pr2 h)) dX5_watched_14
set_option maxHeartbeats 4000000 in
set_option maxRecDepth 100000 in
theorem c_X5_wishOf (l : Launch) (g : gE) (q : Nat → Nat) (N : Nat) (p1 : Int32) (d : MD) (r : Int32) (h : f_X5_wishOf N  p1 d = some r) : MO l yX5_wishOf (Cond.code yX5_wishOf cX5_wishOf 6 (some .int) :: TB) rm_X5_wishOf [.ref (q 0), .int p1] g ((MC g q d)) ((MC g q d)) (some (.int r)) 0 0 := by
  refine MO.of (cc := cX5_wishOf) (maxL := 6) (ret := (some .int)) (by decide) ?_
  intro p e s m below meth c cx hw hr hlocks _
  have hx := cx.1.1
  have hb := cx.1.2.1
  refine en_go (lv := [(0, .ref (q 0)), (1, .int p1)]) (Nat.le_of_ble_eq_true rfl) rfl (fun ls hl => ?_)
  have L62 : ∀ (n62 : Nat) (a1 : Int32) (a2 : Int32) (a3 : Int32) (a4 : Int32) (a5 : Int32) (H : Heap) (locs : List Loc) (ls : Array Slot), Wd g (va_A ((MC g q d)) s.heap.size) ((MC g q d)) s H locs → lv_has ls 6 [(0, .ref (q 0)), (1, .int a1), (2, .int a2), (3, .int a3), (4, .int a4), (5, .int a5)] → f_X5_wishOf_L62 N d  n62 a1 a2 a3 a4 a5 = some r → W p l e rm_X5_wishOf s m ([.ref (q 0), .int p1] : List Value).toArray below meth c H locs 0 0 (MQ below (QO (some (.int r)) g ((MC g q d)) (va_A ((MC g q d)) s.heap.size)) ([.ref (q 0), .int p1] : List Value).toArray s 0 0 (va_A ((MC g q d)) s.heap.size)) (F0 m 62 ls []) := by
    intro n62
    induction n62 with
    | zero => intro a1 a2 a3 a4 a5 H locs ls hw hl h; exact (Option.some_ne_none _ h.symm).elim
    | succ n62 ih62 =>
      intro a1 a2 a3 a4 a5 H locs ls hw hl h
      rw [f_X5_wishOf_L62] at h
      refine lv_iload hx hb dX5_wishOf_62 (lv_at hl 5 rfl) ?_
      refine lv_iload hx hb dX5_wishOf_64 (lv_at hl 4 rfl) ?_
      refine lv_icmp_ge (tgt := 110) hx hb dX5_wishOf_66 (by decide) (fun c23 => ?_) (fun c23 => ?_)
      · replace h := ite_t c23 h
        refine lv_iconst (v := -1) hx hb dX5_wishOf_110 (by decide) ?_
        exact r_i cx hr hlocks hw (sm_eq h) rfl dX5_wishOf_111
      · replace h := ite_f c23 h
        refine lv_aload_n hx hb dX5_wishOf_69 rfl (lv_at hl 0 rfl) ?_
        refine lv_iload_n hx hb dX5_wishOf_70 rfl (lv_at hl 1 rfl) ?_
        refine lv_bipush (v := 6) hx hb dX5_wishOf_71 (by decide) ?_
        refine lv_iload hx hb dX5_wishOf_73 (lv_at hl 5 rfl) ?_
        refine lv_iadd hx hb dX5_wishOf_75 ?_
        obtain ⟨x24, g25, h⟩ := bd_ex h
        refine c_V (As := [.int a1, .int ((6 : Int32) + a5)]) (rest := []) (w' := (MC g q d)) cx hw (c_X5_is l g q N a1 ((6 : Int32) + a5) d x24 g25) (cl_X5_47 cx.1.2.2.2.2 ⟨Nat.le_of_ble_eq_true rfl, Nat.le_of_ble_eq_true rfl⟩) (x_recv cx hw (ci := 5) rfl 0 rfl) (Ct.all (MC_ll ..)) hl.1 rfl rfl (Nat.le_of_ble_eq_true rfl) dX5_wishOf_76 ⟨Nat.le_of_ble_eq_true rfl, Nat.le_of_ble_eq_true rfl⟩ (st1 := [.int x24]) rfl (fun H locs hw => ?_)
        refine lv_aload_n hx hb dX5_wishOf_79 rfl (lv_at hl 0 rfl) ?_
        refine lv_iload_n hx hb dX5_wishOf_80 rfl (lv_at hl 3 rfl) ?_
        refine lv_bipush (v := 6) hx hb dX5_wishOf_81 (by decide) ?_
        refine lv_iload hx hb dX5_wishOf_83 (lv_at hl 5 rfl) ?_
        refine lv_iadd hx hb dX5_wishOf_85 ?_
        obtain ⟨x26, g27, h⟩ := bd_ex h
        refine c_V (As := [.int a3, .int ((6 : Int32) + a5)]) (rest := [.int x24]) (w' := (MC g q d)) cx hw (c_X5_is l g q N a3 ((6 : Int32) + a5) d x26 g27) (cl_X5_47 cx.1.2.2.2.2 ⟨Nat.le_of_ble_eq_true rfl, Nat.le_of_ble_eq_true rfl⟩) (x_recv cx hw (ci := 5) rfl 0 rfl) (Ct.all (MC_ll ..)) hl.1 rfl rfl (Nat.le_of_ble_eq_true rfl) dX5_wishOf_86 ⟨Nat.le_of_ble_eq_true rfl, Nat.le_of_ble_eq_true rfl⟩ (st1 := [.int x26, .int x24]) rfl (fun H locs hw => ?_)
        refine lv_icmp_ne (tgt := 96) hx hb dX5_wishOf_89 (by decide) (fun c28 => ?_) (fun c28 => ?_)
        · replace h := ite_f c28 h
          refine lv_iconst (v := 0) hx hb dX5_wishOf_96 (by decide) ?_
          refine lv_iload_n hx hb dX5_wishOf_97 rfl (lv_at hl 2 rfl) ?_
          refine lv_icmp_ne (tgt := 104) hx hb dX5_wishOf_98 (by decide) (fun c29 => ?_) (fun c29 => ?_)
          · replace h := ite_f c29 h
            obtain ⟨x30, ex30⟩ : ∃ y : Int32, y = (a5 + 1) := ⟨_, rfl⟩
            replace h := lt_nx ex30 h
            refine lv_iinc (v := x30) (lv' := [(5, .int x30), (0, .ref (q 0)), (1, .int a1), (2, .int a2), (3, .int a3), (4, .int a4)]) hx hb dX5_wishOf_104 hl (k := 5) rfl (by rw [ex30]; rfl) (by decide) rfl (fun ls hl => ?_)
            refine lv_goto (tgt := 62) hx hb dX5_wishOf_107 (by decide) ?_
            exact ih62 a1 a2 a3 a4 x30 _ _ _ hw (lv_sub hl [1, 2, 3, 4, 5, 0] rfl) h
          · replace h := ite_t c29 h
            refine lv_iload hx hb dX5_wishOf_101 (lv_at hl 5 rfl) ?_
            exact r_i cx hr hlocks hw (sm_eq h) rfl dX5_wishOf_103
        · replace h := ite_t c28 h
          refine lv_iconst (v := 1) hx hb dX5_wishOf_92 (by decide) ?_
          refine lv_goto (tgt := 97) hx hb dX5_wishOf_93 (by decide) ?_
          refine lv_iload_n hx hb dX5_wishOf_97 rfl (lv_at hl 2 rfl) ?_
          refine lv_icmp_ne (tgt := 104) hx hb dX5_wishOf_98 (by decide) (fun c31 => ?_) (fun c31 => ?_)
          · replace h := ite_f c31 h
            obtain ⟨x32, ex32⟩ : ∃ y : Int32, y = (a5 + 1) := ⟨_, rfl⟩
            replace h := lt_nx ex32 h
            refine lv_iinc (v := x32) (lv' := [(5, .int x32), (0, .ref (q 0)), (1, .int a1), (2, .int a2), (3, .int a3), (4, .int a4)]) hx hb dX5_wishOf_104 hl (k := 5) rfl (by rw [ex32]; rfl) (by decide) rfl (fun ls hl => ?_)
            refine lv_goto (tgt := 62) hx hb dX5_wishOf_107 (by decide) ?_
            exact ih62 a1 a2 a3 a4 x32 _ _ _ hw (lv_sub hl [1, 2, 3, 4, 5, 0] rfl) h
          · replace h := ite_t c31 h
            refine lv_iload hx hb dX5_wishOf_101 (lv_at hl 5 rfl) ?_
            exact r_i cx hr hlocks hw (sm_eq h) rfl dX5_wishOf_103
  have J33 : ∀ (a1 : Int32) (a2 : Int32) (t0 : Int32) (H : Heap) (locs : List Loc) (ls : Array Slot), Wd g (va_A ((MC g q d)) s.heap.size) ((MC g q d)) s H locs → lv_has ls 6 [(0, .ref (q 0)), (1, .int a1), (2, .int a2)] → f_X5_wishOf_J33 N d  a1 a2 t0 = some r → W p l e rm_X5_wishOf s m ([.ref (q 0), .int p1] : List Value).toArray below meth c H locs 0 0 (MQ below (QO (some (.int r)) g ((MC g q d)) (va_A ((MC g q d)) s.heap.size)) ([.ref (q 0), .int p1] : List Value).toArray s 0 0 (va_A ((MC g q d)) s.heap.size)) (F0 m 33 ls [.int t0]) := by
    intro a1 a2 t0 H locs ls hw hl h
    unfold f_X5_wishOf_J33 at h
    refine lv_istore_n (lv' := [(3, .int t0), (0, .ref (q 0)), (1, .int a1), (2, .int a2)]) hx hb dX5_wishOf_33 rfl hl (by decide) rfl (fun ls hl => ?_)
    refine lv_iload_n hx hb dX5_wishOf_34 rfl (lv_at hl 0 rfl) ?_
    refine lv_if_ge (tgt := 40) hx hb dX5_wishOf_35 (by decide) (fun c33 => ?_) (fun c33 => ?_)
    · replace h := ite_t c33 h
      refine lv_aload_n hx hb dX5_wishOf_40 rfl (lv_at hl 1 rfl) ?_
      refine lv_iload_n hx hb dX5_wishOf_41 rfl (lv_at hl 2 rfl) ?_
      refine lv_iconst (v := 0) hx hb dX5_wishOf_42 (by decide) ?_
      obtain ⟨x34, g35, h⟩ := bd_ex h
      refine c_V (As := [.int a1, .int (0 : Int32)]) (rest := []) (w' := (MC g q d)) cx hw (c_X5_is l g q N a1 (0 : Int32) d x34 g35) (cl_X5_47 cx.1.2.2.2.2 ⟨Nat.le_of_ble_eq_true rfl, Nat.le_of_ble_eq_true rfl⟩) (x_recv cx hw (ci := 5) rfl 0 rfl) (Ct.all (MC_ll ..)) hl.1 rfl rfl (Nat.le_of_ble_eq_true rfl) dX5_wishOf_43 ⟨Nat.le_of_ble_eq_true rfl, Nat.le_of_ble_eq_true rfl⟩ (st1 := [.int x34]) rfl (fun H locs hw => ?_)
      refine lv_iconst (v := 4) hx hb dX5_wishOf_46 (by decide) ?_
      refine lv_icmp_ne (tgt := 55) hx hb dX5_wishOf_47 (by decide) (fun c36 => ?_) (fun c36 => ?_)
      · replace h := ite_f c36 h
        refine lv_bipush (v := 9) hx hb dX5_wishOf_55 (by decide) ?_
        refine lv_istore (lv' := [(4, .int (9 : Int32)), (3, .int t0), (0, .ref (q 0)), (1, .int a1), (2, .int a2)]) hx hb dX5_wishOf_57 hl (by decide) rfl (fun ls hl => ?_)
        refine lv_iconst (v := 0) hx hb dX5_wishOf_59 (by decide) ?_
        refine lv_istore (lv' := [(5, .int (0 : Int32)), (4, .int (9 : Int32)), (3, .int t0), (0, .ref (q 0)), (1, .int a1), (2, .int a2)]) hx hb dX5_wishOf_60 hl (by decide) rfl (fun ls hl => ?_)
        exact L62 N a1 a2 t0 (9 : Int32) (0 : Int32) _ _ _ hw (lv_sub hl [3, 4, 5, 2, 1, 0] rfl) h
      · replace h := ite_t c36 h
        refine lv_bipush (v := 8) hx hb dX5_wishOf_50 (by decide) ?_
        refine lv_goto (tgt := 57) hx hb dX5_wishOf_52 (by decide) ?_
        refine lv_istore (lv' := [(4, .int (8 : Int32)), (3, .int t0), (0, .ref (q 0)), (1, .int a1), (2, .int a2)]) hx hb dX5_wishOf_57 hl (by decide) rfl (fun ls hl => ?_)
        refine lv_iconst (v := 0) hx hb dX5_wishOf_59 (by decide) ?_
        refine lv_istore (lv' := [(5, .int (0 : Int32)), (4, .int (8 : Int32)), (3, .int t0), (0, .ref (q 0)), (1, .int a1), (2, .int a2)]) hx hb dX5_wishOf_60 hl (by decide) rfl (fun ls hl => ?_)
        exact L62 N a1 a2 t0 (8 : Int32) (0 : Int32) _ _ _ hw (lv_sub hl [3, 4, 5, 2, 1, 0] rfl) h
    · replace h := ite_f c33 h
      refine lv_iconst (v := -1) hx hb dX5_wishOf_38 (by decide) ?_
      exact r_i cx hr hlocks hw (sm_eq h) rfl dX5_wishOf_39
  have J15 : ∀ (a1 : Int32) (t0 : Int32) (H : Heap) (locs : List Loc) (ls : Array Slot), Wd g (va_A ((MC g q d)) s.heap.size) ((MC g q d)) s H locs → lv_has ls 6 [(0, .ref (q 0)), (1, .int a1)] → f_X5_wishOf_J15 N d  a1 t0 = some r → W p l e rm_X5_wishOf s m ([.ref (q 0), .int p1] : List Value).toArray below meth c H locs 0 0 (MQ below (QO (some (.int r)) g ((MC g q d)) (va_A ((MC g q d)) s.heap.size)) ([.ref (q 0), .int p1] : List Value).toArray s 0 0 (va_A ((MC g q d)) s.heap.size)) (F0 m 15 ls [.int t0]) := by
    intro a1 t0 H locs ls hw hl h
    unfold f_X5_wishOf_J15 at h
    refine lv_istore_n (lv' := [(2, .int t0), (0, .ref (q 0)), (1, .int a1)]) hx hb dX5_wishOf_15 rfl hl (by decide) rfl (fun ls hl => ?_)
    refine lv_iload_n hx hb dX5_wishOf_16 rfl (lv_at hl 0 rfl) ?_
    refine lv_if_eq (tgt := 28) hx hb dX5_wishOf_17 (by decide) (fun c37 => ?_) (fun c37 => ?_)
    · replace h := ite_t c37 h
      refine lv_aload_n hx hb dX5_wishOf_28 rfl (lv_at hl 1 rfl) ?_
      refine lv_iload_n hx hb dX5_wishOf_29 rfl (lv_at hl 2 rfl) ?_
      obtain ⟨x38, g39, h⟩ := bd_ex h
      refine c_V (As := [.int a1]) (rest := []) (w' := (MC g q d)) cx hw (c_X5_aimOf l g q N a1 d x38 g39) (cl_X5_85 cx.1.2.2.2.2 ⟨Nat.le_of_ble_eq_true rfl, Nat.le_of_ble_eq_true rfl⟩) (x_recv cx hw (ci := 5) rfl 0 rfl) (Ct.all (MC_ll ..)) hl.1 rfl rfl (Nat.le_of_ble_eq_true rfl) dX5_wishOf_30 ⟨Nat.le_of_ble_eq_true rfl, Nat.le_of_ble_eq_true rfl⟩ (st1 := [.int x38]) rfl (fun H locs hw => ?_)
      exact J33 a1 t0 x38 _ _ _ hw (lv_sub hl [1, 2, 0] rfl) h
    · replace h := ite_f c37 h
      refine lv_aload_n hx hb dX5_wishOf_20 rfl (lv_at hl 1 rfl) ?_
      refine lv_iload_n hx hb dX5_wishOf_21 rfl (lv_at hl 2 rfl) ?_
      obtain ⟨x40, g41, h⟩ := bd_ex h
      refine c_V (As := [.int a1]) (rest := []) (w' := (MC g q d)) cx hw (c_X5_heirFor l g q N a1 d x40 g41) (cl_X5_113 cx.1.2.2.2.2 ⟨Nat.le_of_ble_eq_true rfl, Nat.le_of_ble_eq_true rfl⟩) (x_recv cx hw (ci := 5) rfl 0 rfl) (Ct.all (MC_ll ..)) hl.1 rfl rfl (Nat.le_of_ble_eq_true rfl) dX5_wishOf_22 ⟨Nat.le_of_ble_eq_true rfl, Nat.le_of_ble_eq_true rfl⟩ (st1 := [.int x40]) rfl (fun H locs hw => ?_)
      refine lv_goto (tgt := 33) hx hb dX5_wishOf_25 (by decide) ?_
      exact J33 a1 t0 x40 _ _ _ hw (lv_sub hl [1, 2, 0] rfl) h
  unfold f_X5_wishOf at h
  refine lv_aload_n hx hb dX5_wishOf_0 rfl (lv_at hl 0 rfl) ?_
  refine lv_iload_n hx hb dX5_wishOf_1 rfl (lv_at hl 1 rfl) ?_
  refine lv_iconst (v := 0) hx hb dX5_wishOf_2 (by decide) ?_
  obtain ⟨x1, g2, h⟩ := bd_ex h
  refine c_V (As := [.int p1, .int (0 : Int32)]) (rest := []) (w' := (MC g q d)) cx hw (c_X5_is l g q N p1 (0 : Int32) d x1 g2) (cl_X5_47 cx.1.2.2.2.2 ⟨Nat.le_of_ble_eq_true rfl, Nat.le_of_ble_eq_true rfl⟩) (x_recv cx hw (ci := 5) rfl 0 rfl) (Ct.all (MC_ll ..)) hl.1 rfl rfl (Nat.le_of_ble_eq_true rfl) dX5_wishOf_3 ⟨Nat.le_of_ble_eq_true rfl, Nat.le_of_ble_eq_true rfl⟩ (st1 := [.int x1]) rfl (fun H locs hw => ?_)
  refine lv_iconst (v := 2) hx hb dX5_wishOf_6 (by decide) ?_
  refine lv_icmp_ne (tgt := 14) hx hb dX5_wishOf_7 (by decide) (fun c3 => ?_) (fun c3 => ?_)
  · replace h := ite_f c3 h
    refine lv_iconst (v := 0) hx hb dX5_wishOf_14 (by decide) ?_
    exact J15 p1 (0 : Int32) _ _ _ hw (lv_sub hl [0, 1] rfl) h
  · replace h := ite_t c3 h
    refine lv_iconst (v := 1) hx hb dX5_wishOf_10 (by decide) ?_
    refine lv_goto (tgt := 15) hx hb dX5_wishOf_11 (by decide) ?_
    exact J15 p1 (1 : Int32) _ _ _ hw (lv_sub hl [0, 1] rfl) h
set_option maxHeartbeats 4000000 in
set_option maxRecDepth 100000 in
theorem c_X5_changeOf (l : Launch) (g : gE) (q : Nat → Nat) (N : Nat) (p1 : Int32) (d : MD) (r : Int32) (h : f_X5_changeOf N  p1 d = some r) : MO l yX5_changeOf (Cond.code yX5_changeOf cX5_changeOf 3 (some .int) :: TB) rm_X5_changeOf [.ref (q 0), .int p1] g ((MC g q d)) ((MC g q d)) (some (.int r)) 0 0 := by
  refine MO.of (cc := cX5_changeOf) (maxL := 3) (ret := (some .int)) (by decide) ?_
  intro p e s m below meth c cx hw hr hlocks _
  have hx := cx.1.1
  have hb := cx.1.2.1
  refine en_go (lv := [(0, .ref (q 0)), (1, .int p1)]) (Nat.le_of_ble_eq_true rfl) rfl (fun ls hl => ?_)
  unfold f_X5_changeOf at h
  refine lv_aload_n hx hb dX5_changeOf_0 rfl (lv_at hl 0 rfl) ?_
  refine lv_iload_n hx hb dX5_changeOf_1 rfl (lv_at hl 1 rfl) ?_
  obtain ⟨x1, g2, h⟩ := bd_ex h
  refine c_V (As := [.int p1]) (rest := []) (w' := (MC g q d)) cx hw (c_X5_wishOf l g q N p1 d x1 g2) (cl_X5_126 cx.1.2.2.2.2 ⟨Nat.le_of_ble_eq_true rfl, Nat.le_of_ble_eq_true rfl⟩) (x_recv cx hw (ci := 5) rfl 0 rfl) (Ct.all (MC_ll ..)) hl.1 rfl rfl (Nat.le_of_ble_eq_true rfl) dX5_changeOf_2 ⟨Nat.le_of_ble_eq_true rfl, Nat.le_of_ble_eq_true rfl⟩ (st1 := [.int x1]) rfl (fun H locs hw => ?_)
  refine lv_istore_n (lv' := [(2, .int x1), (0, .ref (q 0)), (1, .int p1)]) hx hb dX5_changeOf_5 rfl hl (by decide) rfl (fun ls hl => ?_)
  refine lv_iload_n hx hb dX5_changeOf_6 rfl (lv_at hl 0 rfl) ?_
  refine lv_if_lt (tgt := 28) hx hb dX5_changeOf_7 (by decide) (fun c3 => ?_) (fun c3 => ?_)
  · replace h := ite_t c3 h
    refine lv_iconst (v := -1) hx hb dX5_changeOf_28 (by decide) ?_
    refine lv_goto (tgt := 33) hx hb dX5_changeOf_29 (by decide) ?_
    exact r_i cx hr hlocks hw (sm_eq h) rfl dX5_changeOf_33
  · replace h := ite_f c3 h
    refine lv_aload_n hx hb dX5_changeOf_10 rfl (lv_at hl 1 rfl) ?_
    refine lv_iload_n hx hb dX5_changeOf_11 rfl (lv_at hl 2 rfl) ?_
    refine lv_iconst (v := 2) hx hb dX5_changeOf_12 (by decide) ?_
    obtain ⟨x4, g5, h⟩ := bd_ex h
    refine c_V (As := [.int p1, .int (2 : Int32)]) (rest := []) (w' := (MC g q d)) cx hw (c_X5_is l g q N p1 (2 : Int32) d x4 g5) (cl_X5_47 cx.1.2.2.2.2 ⟨Nat.le_of_ble_eq_true rfl, Nat.le_of_ble_eq_true rfl⟩) (x_recv cx hw (ci := 5) rfl 0 rfl) (Ct.all (MC_ll ..)) hl.1 rfl rfl (Nat.le_of_ble_eq_true rfl) dX5_changeOf_13 ⟨Nat.le_of_ble_eq_true rfl, Nat.le_of_ble_eq_true rfl⟩ (st1 := [.int x4]) rfl (fun H locs hw => ?_)
    refine lv_aload_n hx hb dX5_changeOf_16 rfl (lv_at hl 1 rfl) ?_
    refine gf_X5_7 cx hw 0 rfl rfl dX5_changeOf_17 ?_
    refine lv_bipush (v := 12) hx hb dX5_changeOf_20 (by decide) ?_
    refine lv_iload_n hx hb dX5_changeOf_22 rfl (lv_at hl 0 rfl) ?_
    refine lv_iadd hx hb dX5_changeOf_23 ?_
    have ix6 := rd_in h
    refine x_iald cx hw 1 rfl ix6 dX5_changeOf_24 ?_
    refine lv_topi (fun x6 ex6 => ?_)
    replace h := rd_nx ex6 h
    refine lv_icmp_ge (tgt := 32) hx hb dX5_changeOf_25 (by decide) (fun c7 => ?_) (fun c7 => ?_)
    · replace h := ite_t c7 h
      refine lv_iload_n hx hb dX5_changeOf_32 rfl (lv_at hl 0 rfl) ?_
      exact r_i cx hr hlocks hw (sm_eq h) rfl dX5_changeOf_33
    · replace h := ite_f c7 h
      refine lv_iconst (v := -1) hx hb dX5_changeOf_28 (by decide) ?_
      refine lv_goto (tgt := 33) hx hb dX5_changeOf_29 (by decide) ?_
      exact r_i cx hr hlocks hw (sm_eq h) rfl dX5_changeOf_33
set_option maxHeartbeats 4000000 in
set_option maxRecDepth 100000 in
theorem c_X5_changes (l : Launch) (g : gE) (q : Nat → Nat) (N : Nat) (p1 : Int32) (d : MD) (r : Int32) (d' : MD) (h : f_X5_changes N  p1 d = some (r, d')) : MO l yX5_changes (Cond.code yX5_changes cX5_changes 3 (some .int) :: TB) rm_X5_changes [.ref (q 0), .int p1] g ((MC g q d)) ((MC g q d')) (some (.int r)) 0 0 := by
  refine MO.of (cc := cX5_changes) (maxL := 3) (ret := (some .int)) (by decide) ?_
  intro p e s m below meth c cx hw hr hlocks _
  have hx := cx.1.1
  have hb := cx.1.2.1
  refine en_go (lv := [(0, .ref (q 0)), (1, .int p1)]) (Nat.le_of_ble_eq_true rfl) rfl (fun ls hl => ?_)
  have J32 : ∀ (t0 : Int32) (d_ : MD) (H : Heap) (locs : List Loc) (ls : Array Slot), Wd g (va_A ((MC g q d)) s.heap.size) ((MC g q d_)) s H locs → lv_has ls 3 [(0, .ref (q 0))] → f_X5_changes_J32 N   t0 d_ = some (r, d') → W p l e rm_X5_changes s m ([.ref (q 0), .int p1] : List Value).toArray below meth c H locs 0 0 (MQ below (QO (some (.int r)) g ((MC g q d')) (va_A ((MC g q d)) s.heap.size)) ([.ref (q 0), .int p1] : List Value).toArray s 0 0 (va_A ((MC g q d)) s.heap.size)) (F0 m 32 ls [.int t0]) := by
    intro t0 d_ H locs ls hw hl h
    unfold f_X5_changes_J32 at h
    refine lv_istore_n (lv' := [(2, .int t0), (0, .ref (q 0))]) hx hb dX5_changes_32 rfl hl (by decide) rfl (fun ls hl => ?_)
    refine lv_iload_n hx hb dX5_changes_33 rfl (lv_at hl 0 rfl) ?_
    refine lv_if_ge (tgt := 46) hx hb dX5_changes_34 (by decide) (fun c16 => ?_) (fun c16 => ?_)
    · replace h := ite_t c16 h
      refine lv_iload_n hx hb dX5_changes_46 rfl (lv_at hl 0 rfl) ?_
      exact r_i cx hr hlocks hw (pr1 h) (congrArg (fun z0 => (MC g q z0)) (pr2 h)) dX5_changes_47
    · replace h := ite_f c16 h
      refine lv_aload_n hx hb dX5_changes_37 rfl (lv_at hl 1 rfl) ?_
      refine lv_ldc hx hb cx.1.2.2.2.1 (cx.1.2.2.2.2 _ tw_4_195) dX5_changes_38 ?_
      obtain ⟨x17, d18, g19, h⟩ := bd2_ex h
      refine c_V (As := [.int (-1000000004 : Int32)]) (rest := []) (w' := (MC g q d18)) cx hw (c_X5_finds l g q N (-1000000004 : Int32) d_ x17 d18 g19) (cl_X5_62 cx.1.2.2.2.2 ⟨Nat.le_of_ble_eq_true rfl, Nat.le_of_ble_eq_true rfl⟩) (x_recv cx hw (ci := 5) rfl 0 rfl) (Ct.all (MC_ll ..)) hl.1 rfl rfl (Nat.le_of_ble_eq_true rfl) dX5_changes_40 ⟨Nat.le_of_ble_eq_true rfl, Nat.le_of_ble_eq_true rfl⟩ (st1 := [.int x17]) rfl (fun H locs hw => ?_)
      refine lv_goto (tgt := 47) hx hb dX5_changes_43 (by decide) ?_
      exact r_i cx hr hlocks hw (pr1 h) (congrArg (fun z0 => (MC g q z0)) (pr2 h)) dX5_changes_47
  unfold f_X5_changes at h
  refine lv_aload_n hx hb dX5_changes_0 rfl (lv_at hl 0 rfl) ?_
  refine lv_iload_n hx hb dX5_changes_1 rfl (lv_at hl 1 rfl) ?_
  obtain ⟨x1, g2, h⟩ := bd_ex h
  refine c_V (As := [.int p1]) (rest := []) (w' := (MC g q d)) cx hw (c_X5_isOne l g q N p1 d x1 g2) (cl_X5_43 cx.1.2.2.2.2 ⟨Nat.le_of_ble_eq_true rfl, Nat.le_of_ble_eq_true rfl⟩) (x_recv cx hw (ci := 5) rfl 0 rfl) (Ct.all (MC_ll ..)) hl.1 rfl rfl (Nat.le_of_ble_eq_true rfl) dX5_changes_2 ⟨Nat.le_of_ble_eq_true rfl, Nat.le_of_ble_eq_true rfl⟩ (st1 := [.int x1]) rfl (fun H locs hw => ?_)
  refine lv_if_ne (tgt := 15) hx hb dX5_changes_5 (by decide) (fun c3 => ?_) (fun c3 => ?_)
  · replace h := ite_f c3 h
    refine lv_aload_n hx hb dX5_changes_15 rfl (lv_at hl 0 rfl) ?_
    refine lv_iload_n hx hb dX5_changes_16 rfl (lv_at hl 1 rfl) ?_
    obtain ⟨x4, g5, h⟩ := bd_ex h
    refine c_V (As := [.int p1]) (rest := []) (w' := (MC g q d)) cx hw (c_X5_lives l g q N p1 d x4 g5) (cl_X5_107 cx.1.2.2.2.2 ⟨Nat.le_of_ble_eq_true rfl, Nat.le_of_ble_eq_true rfl⟩) (x_recv cx hw (ci := 5) rfl 0 rfl) (Ct.all (MC_ll ..)) hl.1 rfl rfl (Nat.le_of_ble_eq_true rfl) dX5_changes_17 ⟨Nat.le_of_ble_eq_true rfl, Nat.le_of_ble_eq_true rfl⟩ (st1 := [.int x4]) rfl (fun H locs hw => ?_)
    refine lv_if_eq (tgt := 31) hx hb dX5_changes_20 (by decide) (fun c6 => ?_) (fun c6 => ?_)
    · replace h := ite_t c6 h
      refine lv_iconst (v := -1) hx hb dX5_changes_31 (by decide) ?_
      exact J32 (-1 : Int32) d _ _ _ hw (lv_sub hl [0] rfl) h
    · replace h := ite_f c6 h
      refine lv_aload_n hx hb dX5_changes_23 rfl (lv_at hl 0 rfl) ?_
      refine lv_iload_n hx hb dX5_changes_24 rfl (lv_at hl 1 rfl) ?_
      obtain ⟨x7, g8, h⟩ := bd_ex h
      refine c_V (As := [.int p1]) (rest := []) (w' := (MC g q d)) cx hw (c_X5_changeOf l g q N p1 d x7 g8) (cl_X5_129 cx.1.2.2.2.2 ⟨Nat.le_of_ble_eq_true rfl, Nat.le_of_ble_eq_true rfl⟩) (x_recv cx hw (ci := 5) rfl 0 rfl) (Ct.all (MC_ll ..)) hl.1 rfl rfl (Nat.le_of_ble_eq_true rfl) dX5_changes_25 ⟨Nat.le_of_ble_eq_true rfl, Nat.le_of_ble_eq_true rfl⟩ (st1 := [.int x7]) rfl (fun H locs hw => ?_)
      refine lv_goto (tgt := 32) hx hb dX5_changes_28 (by decide) ?_
      exact J32 x7 d _ _ _ hw (lv_sub hl [0] rfl) h
  · replace h := ite_t c3 h
    refine lv_aload_n hx hb dX5_changes_8 rfl (lv_at hl 0 rfl) ?_
    refine lv_ldc hx hb cx.1.2.2.2.1 (cx.1.2.2.2.2 _ tw_4_79) dX5_changes_9 ?_
    obtain ⟨x9, d10, g11, h⟩ := bd2_ex h
    refine c_V (As := [.int (-1000000001 : Int32)]) (rest := []) (w' := (MC g q d10)) cx hw (c_X5_finds l g q N (-1000000001 : Int32) d x9 d10 g11) (cl_X5_62 cx.1.2.2.2.2 ⟨Nat.le_of_ble_eq_true rfl, Nat.le_of_ble_eq_true rfl⟩) (x_recv cx hw (ci := 5) rfl 0 rfl) (Ct.all (MC_ll ..)) hl.1 rfl rfl (Nat.le_of_ble_eq_true rfl) dX5_changes_11 ⟨Nat.le_of_ble_eq_true rfl, Nat.le_of_ble_eq_true rfl⟩ (st1 := [.int x9]) rfl (fun H locs hw => ?_)
    exact r_i cx hr hlocks hw (pr1 h) (congrArg (fun z0 => (MC g q z0)) (pr2 h)) dX5_changes_14
set_option maxHeartbeats 4000000 in
set_option maxRecDepth 100000 in
theorem c_X5_alters (l : Launch) (g : gE) (q : Nat → Nat) (N : Nat) (p1 : Int32) (d : MD) (d' : MD) (h : f_X5_alters N  p1 d = some d') : MO l yX5_alters (Cond.code yX5_alters cX5_alters 4 none :: TB) rm_X5_alters [.ref (q 0), .int p1] g ((MC g q d)) ((MC g q d')) none 0 0 := by
  refine MO.of (cc := cX5_alters) (maxL := 4) (ret := none) (by decide) ?_
  intro p e s m below meth c cx hw hr hlocks _
  have hx := cx.1.1
  have hb := cx.1.2.1
  refine en_go (lv := [(0, .ref (q 0)), (1, .int p1)]) (Nat.le_of_ble_eq_true rfl) rfl (fun ls hl => ?_)
  have J49 : ∀ (a1 : Int32) (a2 : Int32) (t0 : Int32) (d_ : MD) (H : Heap) (locs : List Loc) (ls : Array Slot), Wd g (va_A ((MC g q d)) s.heap.size) ((MC g q d_)) s H locs → lv_has ls 4 [(0, .ref (q 0)), (1, .int a1), (2, .int a2)] → f_X5_alters_J49 N   a1 a2 t0 d_ = some d' → W p l e rm_X5_alters s m ([.ref (q 0), .int p1] : List Value).toArray below meth c H locs 0 0 (MQ below (QO none g ((MC g q d')) (va_A ((MC g q d)) s.heap.size)) ([.ref (q 0), .int p1] : List Value).toArray s 0 0 (va_A ((MC g q d)) s.heap.size)) (F0 m 49 ls [.int t0]) := by
    intro a1 a2 t0 d_ H locs ls hw hl h
    unfold f_X5_alters_J49 at h
    refine lv_istore_n (lv' := [(3, .int t0), (0, .ref (q 0)), (1, .int a1), (2, .int a2)]) hx hb dX5_alters_49 rfl hl (by decide) rfl (fun ls hl => ?_)
    refine lv_aload_n hx hb dX5_alters_50 rfl (lv_at hl 1 rfl) ?_
    refine lv_iload_n hx hb dX5_alters_51 rfl (lv_at hl 2 rfl) ?_
    refine lv_bipush (v := 6) hx hb dX5_alters_52 (by decide) ?_
    refine lv_iload_n hx hb dX5_alters_54 rfl (lv_at hl 3 rfl) ?_
    refine lv_iadd hx hb dX5_alters_55 ?_
    refine lv_iload_n hx hb dX5_alters_56 rfl (lv_at hl 0 rfl) ?_
    obtain ⟨d20, g21, h⟩ := bd_ex h
    refine c_V (As := [.int a1, .int ((6 : Int32) + a2), .int t0]) (rest := []) (w' := (MC g q d20)) cx hw (c_X5_puts l g q N a1 ((6 : Int32) + a2) t0 d_ d20 g21) (cl_X5_71 cx.1.2.2.2.2 ⟨Nat.le_of_ble_eq_true rfl, Nat.le_of_ble_eq_true rfl⟩) (x_recv cx hw (ci := 5) rfl 0 rfl) (Ct.all (MC_ll ..)) hl.1 rfl rfl (Nat.le_of_ble_eq_true rfl) dX5_alters_57 ⟨Nat.le_of_ble_eq_true rfl, Nat.le_of_ble_eq_true rfl⟩ (st1 := []) rfl (fun H locs hw => ?_)
    refine lv_aload_n hx hb dX5_alters_60 rfl (lv_at hl 1 rfl) ?_
    refine lv_iload_n hx hb dX5_alters_61 rfl (lv_at hl 2 rfl) ?_
    refine lv_iconst (v := 2) hx hb dX5_alters_62 (by decide) ?_
    refine lv_aload_n hx hb dX5_alters_63 rfl (lv_at hl 1 rfl) ?_
    refine lv_iload_n hx hb dX5_alters_64 rfl (lv_at hl 2 rfl) ?_
    refine lv_iconst (v := 2) hx hb dX5_alters_65 (by decide) ?_
    obtain ⟨x22, g23, h⟩ := bd_ex h
    refine c_V (As := [.int a1, .int (2 : Int32)]) (rest := [.int (2 : Int32), .int a1, .ref (q 0)]) (w' := (MC g q d20)) cx hw (c_X5_is l g q N a1 (2 : Int32) d20 x22 g23) (cl_X5_47 cx.1.2.2.2.2 ⟨Nat.le_of_ble_eq_true rfl, Nat.le_of_ble_eq_true rfl⟩) (x_recv cx hw (ci := 5) rfl 0 rfl) (Ct.all (MC_ll ..)) hl.1 rfl rfl (Nat.le_of_ble_eq_true rfl) dX5_alters_66 ⟨Nat.le_of_ble_eq_true rfl, Nat.le_of_ble_eq_true rfl⟩ (st1 := [.int x22, .int (2 : Int32), .int a1, .ref (q 0)]) rfl (fun H locs hw => ?_)
    refine lv_aload_n hx hb dX5_alters_69 rfl (lv_at hl 1 rfl) ?_
    refine gf_X5_7 cx hw 0 rfl rfl dX5_alters_70 ?_
    refine lv_bipush (v := 12) hx hb dX5_alters_73 (by decide) ?_
    refine lv_iload_n hx hb dX5_alters_75 rfl (lv_at hl 3 rfl) ?_
    refine lv_iadd hx hb dX5_alters_76 ?_
    have ix24 := rd_in h
    refine x_iald cx hw 1 rfl ix24 dX5_alters_77 ?_
    refine lv_topi (fun x24 ex24 => ?_)
    replace h := rd_nx ex24 h
    refine lv_isub hx hb dX5_alters_78 ?_
    obtain ⟨d25, g26, h⟩ := bd_ex h
    refine c_V (As := [.int a1, .int (2 : Int32), .int (x22 - x24)]) (rest := []) (w' := (MC g q d25)) cx hw (c_X5_puts l g q N a1 (2 : Int32) (x22 - x24) d20 d25 g26) (cl_X5_71 cx.1.2.2.2.2 ⟨Nat.le_of_ble_eq_true rfl, Nat.le_of_ble_eq_true rfl⟩) (x_recv cx hw (ci := 5) rfl 0 rfl) (Ct.all (MC_ll ..)) hl.1 rfl rfl (Nat.le_of_ble_eq_true rfl) dX5_alters_79 ⟨Nat.le_of_ble_eq_true rfl, Nat.le_of_ble_eq_true rfl⟩ (st1 := []) rfl (fun H locs hw => ?_)
    exact r_v cx hr hlocks hw (congrArg (fun z0 => (MC g q z0)) (sm_eq h)) dX5_alters_82
  unfold f_X5_alters at h
  refine lv_aload_n hx hb dX5_alters_0 rfl (lv_at hl 0 rfl) ?_
  refine lv_iload_n hx hb dX5_alters_1 rfl (lv_at hl 1 rfl) ?_
  obtain ⟨x1, g2, h⟩ := bd_ex h
  refine c_V (As := [.int p1]) (rest := []) (w' := (MC g q d)) cx hw (c_X5_changeOf l g q N p1 d x1 g2) (cl_X5_129 cx.1.2.2.2.2 ⟨Nat.le_of_ble_eq_true rfl, Nat.le_of_ble_eq_true rfl⟩) (x_recv cx hw (ci := 5) rfl 0 rfl) (Ct.all (MC_ll ..)) hl.1 rfl rfl (Nat.le_of_ble_eq_true rfl) dX5_alters_2 ⟨Nat.le_of_ble_eq_true rfl, Nat.le_of_ble_eq_true rfl⟩ (st1 := [.int x1]) rfl (fun H locs hw => ?_)
  refine lv_istore_n (lv' := [(2, .int x1), (0, .ref (q 0)), (1, .int p1)]) hx hb dX5_alters_5 rfl hl (by decide) rfl (fun ls hl => ?_)
  refine lv_iload_n hx hb dX5_alters_6 rfl (lv_at hl 0 rfl) ?_
  refine lv_if_lt (tgt := 82) hx hb dX5_alters_7 (by decide) (fun c3 => ?_) (fun c3 => ?_)
  · replace h := ite_t c3 h
    exact r_v cx hr hlocks hw (congrArg (fun z0 => (MC g q z0)) (sm_eq h)) dX5_alters_82
  · replace h := ite_f c3 h
    refine lv_aload_n hx hb dX5_alters_10 rfl (lv_at hl 1 rfl) ?_
    refine lv_iload_n hx hb dX5_alters_11 rfl (lv_at hl 2 rfl) ?_
    refine lv_iconst (v := 0) hx hb dX5_alters_12 (by decide) ?_
    obtain ⟨x4, g5, h⟩ := bd_ex h
    refine c_V (As := [.int p1, .int (0 : Int32)]) (rest := []) (w' := (MC g q d)) cx hw (c_X5_is l g q N p1 (0 : Int32) d x4 g5) (cl_X5_47 cx.1.2.2.2.2 ⟨Nat.le_of_ble_eq_true rfl, Nat.le_of_ble_eq_true rfl⟩) (x_recv cx hw (ci := 5) rfl 0 rfl) (Ct.all (MC_ll ..)) hl.1 rfl rfl (Nat.le_of_ble_eq_true rfl) dX5_alters_13 ⟨Nat.le_of_ble_eq_true rfl, Nat.le_of_ble_eq_true rfl⟩ (st1 := [.int x4]) rfl (fun H locs hw => ?_)
    refine lv_iconst (v := 2) hx hb dX5_alters_16 (by decide) ?_
    refine lv_icmp_ne (tgt := 36) hx hb dX5_alters_17 (by decide) (fun c6 => ?_) (fun c6 => ?_)
    · replace h := ite_f c6 h
      refine lv_aload_n hx hb dX5_alters_36 rfl (lv_at hl 1 rfl) ?_
      refine lv_aload_n hx hb dX5_alters_37 rfl (lv_at hl 1 rfl) ?_
      refine lv_iload_n hx hb dX5_alters_38 rfl (lv_at hl 2 rfl) ?_
      obtain ⟨x7, g8, h⟩ := bd_ex h
      refine c_V (As := [.int p1]) (rest := [.ref (q 0)]) (w' := (MC g q d)) cx hw (c_X5_aimOf l g q N p1 d x7 g8) (cl_X5_85 cx.1.2.2.2.2 ⟨Nat.le_of_ble_eq_true rfl, Nat.le_of_ble_eq_true rfl⟩) (x_recv cx hw (ci := 5) rfl 0 rfl) (Ct.all (MC_ll ..)) hl.1 rfl rfl (Nat.le_of_ble_eq_true rfl) dX5_alters_39 ⟨Nat.le_of_ble_eq_true rfl, Nat.le_of_ble_eq_true rfl⟩ (st1 := [.int x7, .ref (q 0)]) rfl (fun H locs hw => ?_)
      refine lv_bipush (v := 6) hx hb dX5_alters_42 (by decide) ?_
      refine lv_iload_n hx hb dX5_alters_44 rfl (lv_at hl 0 rfl) ?_
      refine lv_iadd hx hb dX5_alters_45 ?_
      obtain ⟨x9, g10, h⟩ := bd_ex h
      refine c_V (As := [.int x7, .int ((6 : Int32) + x1)]) (rest := []) (w' := (MC g q d)) cx hw (c_X5_is l g q N x7 ((6 : Int32) + x1) d x9 g10) (cl_X5_47 cx.1.2.2.2.2 ⟨Nat.le_of_ble_eq_true rfl, Nat.le_of_ble_eq_true rfl⟩) (x_recv cx hw (ci := 5) rfl 0 rfl) (Ct.all (MC_ll ..)) hl.1 rfl rfl (Nat.le_of_ble_eq_true rfl) dX5_alters_46 ⟨Nat.le_of_ble_eq_true rfl, Nat.le_of_ble_eq_true rfl⟩ (st1 := [.int x9]) rfl (fun H locs hw => ?_)
      exact J49 p1 x1 x9 d _ _ _ hw (lv_sub hl [1, 2, 0] rfl) h
    · replace h := ite_t c6 h
      refine lv_aload_n hx hb dX5_alters_20 rfl (lv_at hl 1 rfl) ?_
      refine lv_iload_n hx hb dX5_alters_21 rfl (lv_at hl 2 rfl) ?_
      refine lv_bipush (v := 6) hx hb dX5_alters_22 (by decide) ?_
      refine lv_iload_n hx hb dX5_alters_24 rfl (lv_at hl 0 rfl) ?_
      refine lv_iadd hx hb dX5_alters_25 ?_
      obtain ⟨x11, g12, h⟩ := bd_ex h
      refine c_V (As := [.int p1, .int ((6 : Int32) + x1)]) (rest := []) (w' := (MC g q d)) cx hw (c_X5_is l g q N p1 ((6 : Int32) + x1) d x11 g12) (cl_X5_47 cx.1.2.2.2.2 ⟨Nat.le_of_ble_eq_true rfl, Nat.le_of_ble_eq_true rfl⟩) (x_recv cx hw (ci := 5) rfl 0 rfl) (Ct.all (MC_ll ..)) hl.1 rfl rfl (Nat.le_of_ble_eq_true rfl) dX5_alters_26 ⟨Nat.le_of_ble_eq_true rfl, Nat.le_of_ble_eq_true rfl⟩ (st1 := [.int x11]) rfl (fun H locs hw => ?_)
      refine lv_iconst (v := 1) hx hb dX5_alters_29 (by decide) ?_
      refine lv_iadd hx hb dX5_alters_30 ?_
      refine lv_iconst (v := 4) hx hb dX5_alters_31 (by decide) ?_
      refine lv_irem hx hb dX5_alters_32 (by decide) ?_
      refine lv_goto (tgt := 49) hx hb dX5_alters_33 (by decide) ?_
      exact J49 p1 x1 ((x11 + (1 : Int32)) - (x11 + (1 : Int32)) / (4 : Int32) * (4 : Int32)) d _ _ _ hw (lv_sub hl [1, 2, 0] rfl) h
set_option maxHeartbeats 4000000 in
set_option maxRecDepth 100000 in
theorem c_X5_gains (l : Launch) (g : gE) (q : Nat → Nat) (N : Nat) (p1 : Int32) (p2 : Int32) (d : MD) (d' : MD) (h : f_X5_gains N  p1 p2 d = some d') : MO l yX5_gains (Cond.code yX5_gains cX5_gains 4 none :: TB) rm_X5_gains [.ref (q 0), .int p1, .int p2] g ((MC g q d)) ((MC g q d')) none 0 0 := by
  refine MO.of (cc := cX5_gains) (maxL := 4) (ret := none) (by decide) ?_
  intro p e s m below meth c cx hw hr hlocks _
  have hx := cx.1.1
  have hb := cx.1.2.1
  refine en_go (lv := [(0, .ref (q 0)), (1, .int p1), (2, .int p2)]) (Nat.le_of_ble_eq_true rfl) rfl (fun ls hl => ?_)
  unfold f_X5_gains at h
  refine lv_aload_n hx hb dX5_gains_0 rfl (lv_at hl 0 rfl) ?_
  refine lv_iload_n hx hb dX5_gains_1 rfl (lv_at hl 1 rfl) ?_
  refine lv_iconst (v := 2) hx hb dX5_gains_2 (by decide) ?_
  obtain ⟨x1, g2, h⟩ := bd_ex h
  refine c_V (As := [.int p1, .int (2 : Int32)]) (rest := []) (w' := (MC g q d)) cx hw (c_X5_is l g q N p1 (2 : Int32) d x1 g2) (cl_X5_47 cx.1.2.2.2.2 ⟨Nat.le_of_ble_eq_true rfl, Nat.le_of_ble_eq_true rfl⟩) (x_recv cx hw (ci := 5) rfl 0 rfl) (Ct.all (MC_ll ..)) hl.1 rfl rfl (Nat.le_of_ble_eq_true rfl) dX5_gains_3 ⟨Nat.le_of_ble_eq_true rfl, Nat.le_of_ble_eq_true rfl⟩ (st1 := [.int x1]) rfl (fun H locs hw => ?_)
  refine lv_iload_n hx hb dX5_gains_6 rfl (lv_at hl 2 rfl) ?_
  refine lv_iadd hx hb dX5_gains_7 ?_
  refine lv_topi (fun x3 ex3 => ?_)
  replace h := lt_nx ex3 h
  refine lv_istore_n (lv' := [(3, .int x3), (0, .ref (q 0)), (1, .int p1), (2, .int p2)]) hx hb dX5_gains_8 rfl hl (by decide) rfl (fun ls hl => ?_)
  refine lv_aload_n hx hb dX5_gains_9 rfl (lv_at hl 1 rfl) ?_
  refine lv_iload_n hx hb dX5_gains_10 rfl (lv_at hl 2 rfl) ?_
  refine lv_iconst (v := 2) hx hb dX5_gains_11 (by decide) ?_
  refine lv_iload_n hx hb dX5_gains_12 rfl (lv_at hl 0 rfl) ?_
  refine lv_ldc hx hb cx.1.2.2.2.1 (cx.1.2.2.2.2 _ tw_5_10) dX5_gains_13 ?_
  refine lv_icmp_le (tgt := 23) hx hb dX5_gains_15 (by decide) (fun c4 => ?_) (fun c4 => ?_)
  · replace h := ite_t c4 h
    refine lv_iload_n hx hb dX5_gains_23 rfl (lv_at hl 0 rfl) ?_
    obtain ⟨d5, g6, h⟩ := bd_ex h
    refine c_V (As := [.int p1, .int (2 : Int32), .int x3]) (rest := []) (w' := (MC g q d5)) cx hw (c_X5_puts l g q N p1 (2 : Int32) x3 d d5 g6) (cl_X5_71 cx.1.2.2.2.2 ⟨Nat.le_of_ble_eq_true rfl, Nat.le_of_ble_eq_true rfl⟩) (x_recv cx hw (ci := 5) rfl 0 rfl) (Ct.all (MC_ll ..)) hl.1 rfl rfl (Nat.le_of_ble_eq_true rfl) dX5_gains_24 ⟨Nat.le_of_ble_eq_true rfl, Nat.le_of_ble_eq_true rfl⟩ (st1 := []) rfl (fun H locs hw => ?_)
    exact r_v cx hr hlocks hw (congrArg (fun z0 => (MC g q z0)) (sm_eq h)) dX5_gains_27
  · replace h := ite_f c4 h
    refine lv_ldc hx hb cx.1.2.2.2.1 (cx.1.2.2.2.2 _ tw_5_10) dX5_gains_18 ?_
    refine lv_goto (tgt := 24) hx hb dX5_gains_20 (by decide) ?_
    obtain ⟨d7, g8, h⟩ := bd_ex h
    refine c_V (As := [.int p1, .int (2 : Int32), .int (999999 : Int32)]) (rest := []) (w' := (MC g q d7)) cx hw (c_X5_puts l g q N p1 (2 : Int32) (999999 : Int32) d d7 g8) (cl_X5_71 cx.1.2.2.2.2 ⟨Nat.le_of_ble_eq_true rfl, Nat.le_of_ble_eq_true rfl⟩) (x_recv cx hw (ci := 5) rfl 0 rfl) (Ct.all (MC_ll ..)) hl.1 rfl rfl (Nat.le_of_ble_eq_true rfl) dX5_gains_24 ⟨Nat.le_of_ble_eq_true rfl, Nat.le_of_ble_eq_true rfl⟩ (st1 := []) rfl (fun H locs hw => ?_)
    exact r_v cx hr hlocks hw (congrArg (fun z0 => (MC g q z0)) (sm_eq h)) dX5_gains_27
set_option maxHeartbeats 4000000 in
set_option maxRecDepth 100000 in
theorem c_X5_ends (l : Launch) (g : gE) (q : Nat → Nat) (N : Nat) (p1 : Int32) (d : MD) (d' : MD) (h : f_X5_ends N  p1 d = some d') : MO l yX5_ends (Cond.code yX5_ends cX5_ends 5 none :: TB) rm_X5_ends [.ref (q 0), .int p1] g ((MC g q d)) ((MC g q d')) none 0 0 := by
  refine MO.of (cc := cX5_ends) (maxL := 5) (ret := none) (by decide) ?_
  intro p e s m below meth c cx hw hr hlocks _
  have hx := cx.1.1
  have hb := cx.1.2.1
  refine en_go (lv := [(0, .ref (q 0)), (1, .int p1)]) (Nat.le_of_ble_eq_true rfl) rfl (fun ls hl => ?_)
  have J57 : ∀ (a2 : Int32) (a3 : Int32) (t0 : Int32) (d_ : MD) (H : Heap) (locs : List Loc) (ls : Array Slot), Wd g (va_A ((MC g q d)) s.heap.size) ((MC g q d_)) s H locs → lv_has ls 5 [(0, .ref (q 0)), (2, .int a2), (3, .int a3)] → f_X5_ends_J57 N   a2 a3 t0 d_ = some d' → W p l e rm_X5_ends s m ([.ref (q 0), .int p1] : List Value).toArray below meth c H locs 0 0 (MQ below (QO none g ((MC g q d')) (va_A ((MC g q d)) s.heap.size)) ([.ref (q 0), .int p1] : List Value).toArray s 0 0 (va_A ((MC g q d)) s.heap.size)) (F0 m 57 ls [.int t0]) := by
    intro a2 a3 t0 d_ H locs ls hw hl h
    unfold f_X5_ends_J57 at h
    refine lv_istore (lv' := [(4, .int t0), (0, .ref (q 0)), (2, .int a2), (3, .int a3)]) hx hb dX5_ends_57 hl (by decide) rfl (fun ls hl => ?_)
    refine lv_iload hx hb dX5_ends_59 (lv_at hl 0 rfl) ?_
    refine lv_if_ge (tgt := 73) hx hb dX5_ends_61 (by decide) (fun c22 => ?_) (fun c22 => ?_)
    · replace h := ite_t c22 h
      refine lv_aload_n hx hb dX5_ends_73 rfl (lv_at hl 1 rfl) ?_
      refine lv_iload_n hx hb dX5_ends_74 rfl (lv_at hl 2 rfl) ?_
      refine lv_iload_n hx hb dX5_ends_75 rfl (lv_at hl 3 rfl) ?_
      refine lv_iload_n hx hb dX5_ends_76 rfl (lv_at hl 3 rfl) ?_
      refine lv_iconst (v := 2) hx hb dX5_ends_77 (by decide) ?_
      refine lv_idiv hx hb dX5_ends_78 (by decide) ?_
      refine lv_isub hx hb dX5_ends_79 ?_
      obtain ⟨d23, g24, h⟩ := bd_ex h
      refine c_V (As := [.int a2, .int (a3 - (a3 / (2 : Int32)))]) (rest := []) (w' := (MC g q d23)) cx hw (c_X5_gains l g q N a2 (a3 - (a3 / (2 : Int32))) d_ d23 g24) (cl_X5_136 cx.1.2.2.2.2 ⟨Nat.le_of_ble_eq_true rfl, Nat.le_of_ble_eq_true rfl⟩) (x_recv cx hw (ci := 5) rfl 0 rfl) (Ct.all (MC_ll ..)) hl.1 rfl rfl (Nat.le_of_ble_eq_true rfl) dX5_ends_80 ⟨Nat.le_of_ble_eq_true rfl, Nat.le_of_ble_eq_true rfl⟩ (st1 := []) rfl (fun H locs hw => ?_)
      refine lv_aload_n hx hb dX5_ends_83 rfl (lv_at hl 1 rfl) ?_
      refine lv_iload hx hb dX5_ends_84 (lv_at hl 0 rfl) ?_
      refine lv_iload_n hx hb dX5_ends_86 rfl (lv_at hl 3 rfl) ?_
      refine lv_iconst (v := 2) hx hb dX5_ends_87 (by decide) ?_
      refine lv_idiv hx hb dX5_ends_88 (by decide) ?_
      obtain ⟨d25, g26, h⟩ := bd_ex h
      refine c_V (As := [.int t0, .int (a3 / (2 : Int32))]) (rest := []) (w' := (MC g q d25)) cx hw (c_X5_gains l g q N t0 (a3 / (2 : Int32)) d23 d25 g26) (cl_X5_136 cx.1.2.2.2.2 ⟨Nat.le_of_ble_eq_true rfl, Nat.le_of_ble_eq_true rfl⟩) (x_recv cx hw (ci := 5) rfl 0 rfl) (Ct.all (MC_ll ..)) hl.1 rfl rfl (Nat.le_of_ble_eq_true rfl) dX5_ends_89 ⟨Nat.le_of_ble_eq_true rfl, Nat.le_of_ble_eq_true rfl⟩ (st1 := []) rfl (fun H locs hw => ?_)
      exact r_v cx hr hlocks hw (congrArg (fun z0 => (MC g q z0)) (sm_eq h)) dX5_ends_92
    · replace h := ite_f c22 h
      refine lv_aload_n hx hb dX5_ends_64 rfl (lv_at hl 1 rfl) ?_
      refine lv_iload_n hx hb dX5_ends_65 rfl (lv_at hl 2 rfl) ?_
      refine lv_iload_n hx hb dX5_ends_66 rfl (lv_at hl 3 rfl) ?_
      obtain ⟨d27, g28, h⟩ := bd_ex h
      refine c_V (As := [.int a2, .int a3]) (rest := []) (w' := (MC g q d27)) cx hw (c_X5_gains l g q N a2 a3 d_ d27 g28) (cl_X5_136 cx.1.2.2.2.2 ⟨Nat.le_of_ble_eq_true rfl, Nat.le_of_ble_eq_true rfl⟩) (x_recv cx hw (ci := 5) rfl 0 rfl) (Ct.all (MC_ll ..)) hl.1 rfl rfl (Nat.le_of_ble_eq_true rfl) dX5_ends_67 ⟨Nat.le_of_ble_eq_true rfl, Nat.le_of_ble_eq_true rfl⟩ (st1 := []) rfl (fun H locs hw => ?_)
      refine lv_goto (tgt := 92) hx hb dX5_ends_70 (by decide) ?_
      exact r_v cx hr hlocks hw (congrArg (fun z0 => (MC g q z0)) (sm_eq h)) dX5_ends_92
  unfold f_X5_ends at h
  refine lv_aload_n hx hb dX5_ends_0 rfl (lv_at hl 0 rfl) ?_
  refine lv_iload_n hx hb dX5_ends_1 rfl (lv_at hl 1 rfl) ?_
  refine lv_iconst (v := 5) hx hb dX5_ends_2 (by decide) ?_
  refine lv_iconst (v := 0) hx hb dX5_ends_3 (by decide) ?_
  obtain ⟨d1, g2, h⟩ := bd_ex h
  refine c_V (As := [.int p1, .int (5 : Int32), .int (0 : Int32)]) (rest := []) (w' := (MC g q d1)) cx hw (c_X5_puts l g q N p1 (5 : Int32) (0 : Int32) d d1 g2) (cl_X5_71 cx.1.2.2.2.2 ⟨Nat.le_of_ble_eq_true rfl, Nat.le_of_ble_eq_true rfl⟩) (x_recv cx hw (ci := 5) rfl 0 rfl) (Ct.all (MC_ll ..)) hl.1 rfl rfl (Nat.le_of_ble_eq_true rfl) dX5_ends_4 ⟨Nat.le_of_ble_eq_true rfl, Nat.le_of_ble_eq_true rfl⟩ (st1 := []) rfl (fun H locs hw => ?_)
  refine lv_aload_n hx hb dX5_ends_7 rfl (lv_at hl 0 rfl) ?_
  refine lv_iload_n hx hb dX5_ends_8 rfl (lv_at hl 1 rfl) ?_
  obtain ⟨x3, g4, h⟩ := bd_ex h
  refine c_V (As := [.int p1]) (rest := []) (w' := (MC g q d1)) cx hw (c_X5_heirFor l g q N p1 d1 x3 g4) (cl_X5_113 cx.1.2.2.2.2 ⟨Nat.le_of_ble_eq_true rfl, Nat.le_of_ble_eq_true rfl⟩) (x_recv cx hw (ci := 5) rfl 0 rfl) (Ct.all (MC_ll ..)) hl.1 rfl rfl (Nat.le_of_ble_eq_true rfl) dX5_ends_9 ⟨Nat.le_of_ble_eq_true rfl, Nat.le_of_ble_eq_true rfl⟩ (st1 := [.int x3]) rfl (fun H locs hw => ?_)
  refine lv_istore_n (lv' := [(2, .int x3), (0, .ref (q 0)), (1, .int p1)]) hx hb dX5_ends_12 rfl hl (by decide) rfl (fun ls hl => ?_)
  refine lv_aload_n hx hb dX5_ends_13 rfl (lv_at hl 1 rfl) ?_
  refine lv_iload_n hx hb dX5_ends_14 rfl (lv_at hl 0 rfl) ?_
  refine pf_X5_133 cx hw 0 rfl rfl rfl (Nat.le_of_ble_eq_true rfl) dX5_ends_15 (fun H locs hw => ?_)
  obtain ⟨d5, ed5, h⟩ := lt_ex h
  have hw : Wd g (va_A ((MC g q d)) s.heap.size) ((MC g q d5)) s H locs := by rw [ed5]; exact hw
  refine lv_aload_n hx hb dX5_ends_18 rfl (lv_at hl 1 rfl) ?_
  refine lv_iload_n hx hb dX5_ends_19 rfl (lv_at hl 2 rfl) ?_
  refine lv_iconst (v := 2) hx hb dX5_ends_20 (by decide) ?_
  obtain ⟨x6, g7, h⟩ := bd_ex h
  refine c_V (As := [.int p1, .int (2 : Int32)]) (rest := []) (w' := (MC g q d5)) cx hw (c_X5_is l g q N p1 (2 : Int32) d5 x6 g7) (cl_X5_47 cx.1.2.2.2.2 ⟨Nat.le_of_ble_eq_true rfl, Nat.le_of_ble_eq_true rfl⟩) (x_recv cx hw (ci := 5) rfl 0 rfl) (Ct.all (MC_ll ..)) hl.1 rfl rfl (Nat.le_of_ble_eq_true rfl) dX5_ends_21 ⟨Nat.le_of_ble_eq_true rfl, Nat.le_of_ble_eq_true rfl⟩ (st1 := [.int x6]) rfl (fun H locs hw => ?_)
  refine lv_istore_n (lv' := [(3, .int x6), (2, .int x3), (0, .ref (q 0)), (1, .int p1)]) hx hb dX5_ends_24 rfl hl (by decide) rfl (fun ls hl => ?_)
  refine lv_aload_n hx hb dX5_ends_25 rfl (lv_at hl 2 rfl) ?_
  refine lv_iload_n hx hb dX5_ends_26 rfl (lv_at hl 3 rfl) ?_
  refine lv_iconst (v := 2) hx hb dX5_ends_27 (by decide) ?_
  refine lv_iconst (v := 0) hx hb dX5_ends_28 (by decide) ?_
  obtain ⟨d8, g9, h⟩ := bd_ex h
  refine c_V (As := [.int p1, .int (2 : Int32), .int (0 : Int32)]) (rest := []) (w' := (MC g q d8)) cx hw (c_X5_puts l g q N p1 (2 : Int32) (0 : Int32) d5 d8 g9) (cl_X5_71 cx.1.2.2.2.2 ⟨Nat.le_of_ble_eq_true rfl, Nat.le_of_ble_eq_true rfl⟩) (x_recv cx hw (ci := 5) rfl 0 rfl) (Ct.all (MC_ll ..)) hl.1 rfl rfl (Nat.le_of_ble_eq_true rfl) dX5_ends_29 ⟨Nat.le_of_ble_eq_true rfl, Nat.le_of_ble_eq_true rfl⟩ (st1 := []) rfl (fun H locs hw => ?_)
  refine lv_iload_n hx hb dX5_ends_32 rfl (lv_at hl 1 rfl) ?_
  refine lv_if_ge (tgt := 37) hx hb dX5_ends_33 (by decide) (fun c10 => ?_) (fun c10 => ?_)
  · replace h := ite_t c10 h
    refine lv_aload_n hx hb dX5_ends_37 rfl (lv_at hl 2 rfl) ?_
    refine gf_X5_7 cx hw 0 rfl rfl dX5_ends_38 ?_
    refine lv_iconst (v := 2) hx hb dX5_ends_41 (by decide) ?_
    have ix11 := rd_in h
    refine x_iald cx hw 1 rfl ix11 dX5_ends_42 ?_
    refine lv_topi (fun x11 ex11 => ?_)
    replace h := rd_nx ex11 h
    refine lv_iconst (v := 2) hx hb dX5_ends_43 (by decide) ?_
    refine lv_icmp_ne (tgt := 56) hx hb dX5_ends_44 (by decide) (fun c12 => ?_) (fun c12 => ?_)
    · replace h := ite_f c12 h
      refine lv_iconst (v := -1) hx hb dX5_ends_56 (by decide) ?_
      exact J57 x3 x6 (-1 : Int32) d8 _ _ _ hw (lv_sub hl [2, 1, 0] rfl) h
    · replace h := ite_t c12 h
      refine lv_aload_n hx hb dX5_ends_47 rfl (lv_at hl 2 rfl) ?_
      refine lv_iload_n hx hb dX5_ends_48 rfl (lv_at hl 3 rfl) ?_
      refine lv_iload_n hx hb dX5_ends_49 rfl (lv_at hl 1 rfl) ?_
      obtain ⟨x13, g14, h⟩ := bd_ex h
      refine c_V (As := [.int p1, .int x3]) (rest := []) (w' := (MC g q d8)) cx hw (c_X5_heirBut l g q N p1 x3 d8 x13 g14) (cl_X5_110 cx.1.2.2.2.2 ⟨Nat.le_of_ble_eq_true rfl, Nat.le_of_ble_eq_true rfl⟩) (x_recv cx hw (ci := 5) rfl 0 rfl) (Ct.all (MC_ll ..)) hl.1 rfl rfl (Nat.le_of_ble_eq_true rfl) dX5_ends_50 ⟨Nat.le_of_ble_eq_true rfl, Nat.le_of_ble_eq_true rfl⟩ (st1 := [.int x13]) rfl (fun H locs hw => ?_)
      refine lv_goto (tgt := 57) hx hb dX5_ends_53 (by decide) ?_
      exact J57 x3 x6 x13 d8 _ _ _ hw (lv_sub hl [2, 1, 0] rfl) h
  · replace h := ite_f c10 h
    exact r_v cx hr hlocks hw (congrArg (fun z0 => (MC g q z0)) (sm_eq h)) dX5_ends_36
set_option maxHeartbeats 4000000 in
set_option maxRecDepth 100000 in
theorem c_X5_goesOn (l : Launch) (g : gE) (q : Nat → Nat) (N : Nat)  (d : MD) (r : Int32) (d' : MD) (h : f_X5_goesOn N  d = some (r, d')) : MO l yX5_goesOn (Cond.code yX5_goesOn cX5_goesOn 3 (some .int) :: TB) rm_X5_goesOn [.ref (q 0)] g ((MC g q d)) ((MC g q d')) (some (.int r)) 0 0 := by
  refine MO.of (cc := cX5_goesOn) (maxL := 3) (ret := (some .int)) (by decide) ?_
  intro p e s m below meth c cx hw hr hlocks _
  have hx := cx.1.1
  have hb := cx.1.2.1
  refine en_go (lv := [(0, .ref (q 0))]) (Nat.le_of_ble_eq_true rfl) rfl (fun ls hl => ?_)
  have L86 : ∀ (n86 : Nat) (a1 : Int32) (a2 : Int32) (d_ : MD) (H : Heap) (locs : List Loc) (ls : Array Slot), Wd g (va_A ((MC g q d)) s.heap.size) ((MC g q d_)) s H locs → lv_has ls 3 [(0, .ref (q 0)), (1, .int a1), (2, .int a2)] → f_X5_goesOn_L86 N   n86 a1 a2 d_ = some (r, d') → W p l e rm_X5_goesOn s m ([.ref (q 0)] : List Value).toArray below meth c H locs 0 0 (MQ below (QO (some (.int r)) g ((MC g q d')) (va_A ((MC g q d)) s.heap.size)) ([.ref (q 0)] : List Value).toArray s 0 0 (va_A ((MC g q d)) s.heap.size)) (F0 m 86 ls []) := by
    intro n86
    induction n86 with
    | zero => intro a1 a2 d_ H locs ls hw hl h; exact (Option.some_ne_none _ h.symm).elim
    | succ n86 ih86 =>
      intro a1 a2 d_ H locs ls hw hl h
      rw [f_X5_goesOn_L86] at h
      refine lv_iload_n hx hb dX5_goesOn_86 rfl (lv_at hl 2 rfl) ?_
      refine lv_aload_n hx hb dX5_goesOn_87 rfl (lv_at hl 0 rfl) ?_
      refine gf_X5_7 cx hw 0 rfl rfl dX5_goesOn_88 ?_
      refine lv_iconst (v := 0) hx hb dX5_goesOn_91 (by decide) ?_
      have ix49 := rd_in h
      refine x_iald cx hw 1 rfl ix49 dX5_goesOn_92 ?_
      refine lv_topi (fun x49 ex49 => ?_)
      replace h := rd_nx ex49 h
      refine lv_icmp_ge (tgt := 156) hx hb dX5_goesOn_93 (by decide) (fun c50 => ?_) (fun c50 => ?_)
      · replace h := ite_t c50 h
        refine lv_aload_n hx hb dX5_goesOn_156 rfl (lv_at hl 0 rfl) ?_
        refine gf_X5_7 cx hw 0 rfl rfl dX5_goesOn_157 ?_
        refine lv_iconst (v := 1) hx hb dX5_goesOn_160 (by decide) ?_
        refine lv_dup2_11 hx hb dX5_goesOn_161 rfl rfl ?_
        have ix51 := rd_in h
        refine x_iald cx hw 1 rfl ix51 dX5_goesOn_162 ?_
        refine lv_topi (fun x51 ex51 => ?_)
        replace h := rd_nx ex51 h
        refine lv_iconst (v := 1) hx hb dX5_goesOn_163 (by decide) ?_
        refine lv_iadd hx hb dX5_goesOn_164 ?_
        have i52 := ck_in h
        replace h := ck_nx h
        refine x_iast cx hw 1 rfl i52 dX5_goesOn_165 (fun H locs hw => ?_)
        obtain ⟨d53, ed53, h⟩ := lt_ex h
        have hw : Wd g (va_A ((MC g q d)) s.heap.size) ((MC g q d53)) s H locs := by rw [ed53]; exact hw
        refine lv_iload_n hx hb dX5_goesOn_166 rfl (lv_at hl 1 rfl) ?_
        exact r_i cx hr hlocks hw (pr1 h) (congrArg (fun z0 => (MC g q z0)) (pr2 h)) dX5_goesOn_167
      · replace h := ite_f c50 h
        refine lv_aload_n hx hb dX5_goesOn_96 rfl (lv_at hl 0 rfl) ?_
        refine lv_iload_n hx hb dX5_goesOn_97 rfl (lv_at hl 2 rfl) ?_
        obtain ⟨x54, g55, h⟩ := bd_ex h
        refine c_V (As := [.int a2]) (rest := []) (w' := (MC g q d_)) cx hw (c_X5_lives l g q N a2 d_ x54 g55) (cl_X5_107 cx.1.2.2.2.2 ⟨Nat.le_of_ble_eq_true rfl, Nat.le_of_ble_eq_true rfl⟩) (x_recv cx hw (ci := 5) rfl 0 rfl) (Ct.all (MC_ll ..)) hl.1 rfl rfl (Nat.le_of_ble_eq_true rfl) dX5_goesOn_98 ⟨Nat.le_of_ble_eq_true rfl, Nat.le_of_ble_eq_true rfl⟩ (st1 := [.int x54]) rfl (fun H locs hw => ?_)
        refine lv_if_eq (tgt := 150) hx hb dX5_goesOn_101 (by decide) (fun c56 => ?_) (fun c56 => ?_)
        · replace h := ite_t c56 h
          obtain ⟨x57, ex57⟩ : ∃ y : Int32, y = (a2 + 1) := ⟨_, rfl⟩
          replace h := lt_nx ex57 h
          refine lv_iinc (v := x57) (lv' := [(2, .int x57), (0, .ref (q 0)), (1, .int a1)]) hx hb dX5_goesOn_150 hl (k := 2) rfl (by rw [ex57]; rfl) (by decide) rfl (fun ls hl => ?_)
          refine lv_goto (tgt := 86) hx hb dX5_goesOn_153 (by decide) ?_
          exact ih86 a1 x57 d_ _ _ _ hw (lv_sub hl [1, 2, 0] rfl) h
        · replace h := ite_f c56 h
          refine lv_aload_n hx hb dX5_goesOn_104 rfl (lv_at hl 0 rfl) ?_
          refine lv_iload_n hx hb dX5_goesOn_105 rfl (lv_at hl 2 rfl) ?_
          refine lv_iconst (v := 1) hx hb dX5_goesOn_106 (by decide) ?_
          obtain ⟨x58, g59, h⟩ := bd_ex h
          refine c_V (As := [.int a2, .int (1 : Int32)]) (rest := []) (w' := (MC g q d_)) cx hw (c_X5_is l g q N a2 (1 : Int32) d_ x58 g59) (cl_X5_47 cx.1.2.2.2.2 ⟨Nat.le_of_ble_eq_true rfl, Nat.le_of_ble_eq_true rfl⟩) (x_recv cx hw (ci := 5) rfl 0 rfl) (Ct.all (MC_ll ..)) hl.1 rfl rfl (Nat.le_of_ble_eq_true rfl) dX5_goesOn_107 ⟨Nat.le_of_ble_eq_true rfl, Nat.le_of_ble_eq_true rfl⟩ (st1 := [.int x58]) rfl (fun H locs hw => ?_)
          refine lv_aload_n hx hb dX5_goesOn_110 rfl (lv_at hl 0 rfl) ?_
          refine lv_iload_n hx hb dX5_goesOn_111 rfl (lv_at hl 2 rfl) ?_
          refine lv_iconst (v := 3) hx hb dX5_goesOn_112 (by decide) ?_
          obtain ⟨x60, g61, h⟩ := bd_ex h
          refine c_V (As := [.int a2, .int (3 : Int32)]) (rest := [.int x58]) (w' := (MC g q d_)) cx hw (c_X5_is l g q N a2 (3 : Int32) d_ x60 g61) (cl_X5_47 cx.1.2.2.2.2 ⟨Nat.le_of_ble_eq_true rfl, Nat.le_of_ble_eq_true rfl⟩) (x_recv cx hw (ci := 5) rfl 0 rfl) (Ct.all (MC_ll ..)) hl.1 rfl rfl (Nat.le_of_ble_eq_true rfl) dX5_goesOn_113 ⟨Nat.le_of_ble_eq_true rfl, Nat.le_of_ble_eq_true rfl⟩ (st1 := [.int x60, .int x58]) rfl (fun H locs hw => ?_)
          refine lv_icmp_lt (tgt := 150) hx hb dX5_goesOn_116 (by decide) (fun c62 => ?_) (fun c62 => ?_)
          · replace h := ite_t c62 h
            obtain ⟨x63, ex63⟩ : ∃ y : Int32, y = (a2 + 1) := ⟨_, rfl⟩
            replace h := lt_nx ex63 h
            refine lv_iinc (v := x63) (lv' := [(2, .int x63), (0, .ref (q 0)), (1, .int a1)]) hx hb dX5_goesOn_150 hl (k := 2) rfl (by rw [ex63]; rfl) (by decide) rfl (fun ls hl => ?_)
            refine lv_goto (tgt := 86) hx hb dX5_goesOn_153 (by decide) ?_
            exact ih86 a1 x63 d_ _ _ _ hw (lv_sub hl [1, 2, 0] rfl) h
          · replace h := ite_f c62 h
            refine lv_aload_n hx hb dX5_goesOn_119 rfl (lv_at hl 0 rfl) ?_
            refine lv_iload_n hx hb dX5_goesOn_120 rfl (lv_at hl 2 rfl) ?_
            obtain ⟨d64, g65, h⟩ := bd_ex h
            refine c_V (As := [.int a2]) (rest := []) (w' := (MC g q d64)) cx hw (c_X5_ends l g q N a2 d_ d64 g65) (cl_X5_144 cx.1.2.2.2.2 ⟨Nat.le_of_ble_eq_true rfl, Nat.le_of_ble_eq_true rfl⟩) (x_recv cx hw (ci := 5) rfl 0 rfl) (Ct.all (MC_ll ..)) hl.1 rfl rfl (Nat.le_of_ble_eq_true rfl) dX5_goesOn_121 ⟨Nat.le_of_ble_eq_true rfl, Nat.le_of_ble_eq_true rfl⟩ (st1 := []) rfl (fun H locs hw => ?_)
            refine lv_aload_n hx hb dX5_goesOn_124 rfl (lv_at hl 0 rfl) ?_
            refine lv_iload_n hx hb dX5_goesOn_125 rfl (lv_at hl 2 rfl) ?_
            refine lv_aload_n hx hb dX5_goesOn_126 rfl (lv_at hl 0 rfl) ?_
            refine gf_X5_38 cx hw 0 rfl rfl dX5_goesOn_127 ?_
            refine lv_icmp_ne (tgt := 140) hx hb dX5_goesOn_130 (by decide) (fun c66 => ?_) (fun c66 => ?_)
            · replace h := ite_f c66 h
              refine lv_aload_n hx hb dX5_goesOn_140 rfl (lv_at hl 0 rfl) ?_
              refine gf_X5_147 cx hw 0 rfl rfl dX5_goesOn_141 ?_
              refine pf_X5_147 cx hw 0 rfl rfl rfl (Nat.le_of_ble_eq_true rfl) dX5_goesOn_144 (fun H locs hw => ?_)
              obtain ⟨d67, ed67, h⟩ := lt_ex h
              have hw : Wd g (va_A ((MC g q d)) s.heap.size) ((MC g q d67)) s H locs := by rw [ed67]; exact hw
              obtain ⟨x68, ex68⟩ : ∃ y : Int32, y = (a1 + 1) := ⟨_, rfl⟩
              replace h := lt_nx ex68 h
              refine lv_iinc (v := x68) (lv' := [(1, .int x68), (0, .ref (q 0)), (2, .int a2)]) hx hb dX5_goesOn_147 hl (k := 1) rfl (by rw [ex68]; rfl) (by decide) rfl (fun ls hl => ?_)
              obtain ⟨x69, ex69⟩ : ∃ y : Int32, y = (a2 + 1) := ⟨_, rfl⟩
              replace h := lt_nx ex69 h
              refine lv_iinc (v := x69) (lv' := [(2, .int x69), (1, .int x68), (0, .ref (q 0))]) hx hb dX5_goesOn_150 hl (k := 2) rfl (by rw [ex69]; rfl) (by decide) rfl (fun ls hl => ?_)
              refine lv_goto (tgt := 86) hx hb dX5_goesOn_153 (by decide) ?_
              exact ih86 x68 x69 d67 _ _ _ hw (lv_sub hl [2, 1, 0] rfl) h
            · replace h := ite_t c66 h
              refine lv_aload_n hx hb dX5_goesOn_133 rfl (lv_at hl 0 rfl) ?_
              refine gf_X5_133 cx hw 0 rfl rfl dX5_goesOn_134 ?_
              refine lv_goto (tgt := 144) hx hb dX5_goesOn_137 (by decide) ?_
              refine pf_X5_147 cx hw 0 rfl rfl rfl (Nat.le_of_ble_eq_true rfl) dX5_goesOn_144 (fun H locs hw => ?_)
              obtain ⟨d70, ed70, h⟩ := lt_ex h
              have hw : Wd g (va_A ((MC g q d)) s.heap.size) ((MC g q d70)) s H locs := by rw [ed70]; exact hw
              obtain ⟨x71, ex71⟩ : ∃ y : Int32, y = (a1 + 1) := ⟨_, rfl⟩
              replace h := lt_nx ex71 h
              refine lv_iinc (v := x71) (lv' := [(1, .int x71), (0, .ref (q 0)), (2, .int a2)]) hx hb dX5_goesOn_147 hl (k := 1) rfl (by rw [ex71]; rfl) (by decide) rfl (fun ls hl => ?_)
              obtain ⟨x72, ex72⟩ : ∃ y : Int32, y = (a2 + 1) := ⟨_, rfl⟩
              replace h := lt_nx ex72 h
              refine lv_iinc (v := x72) (lv' := [(2, .int x72), (1, .int x71), (0, .ref (q 0))]) hx hb dX5_goesOn_150 hl (k := 2) rfl (by rw [ex72]; rfl) (by decide) rfl (fun ls hl => ?_)
              refine lv_goto (tgt := 86) hx hb dX5_goesOn_153 (by decide) ?_
              exact ih86 x71 x72 d70 _ _ _ hw (lv_sub hl [2, 1, 0] rfl) h
  have L33 : ∀ (n33 : Nat) (a1 : Int32) (d_ : MD) (H : Heap) (locs : List Loc) (ls : Array Slot), Wd g (va_A ((MC g q d)) s.heap.size) ((MC g q d_)) s H locs → lv_has ls 3 [(0, .ref (q 0)), (1, .int a1)] → f_X5_goesOn_L33 N   n33 a1 d_ = some (r, d') → W p l e rm_X5_goesOn s m ([.ref (q 0)] : List Value).toArray below meth c H locs 0 0 (MQ below (QO (some (.int r)) g ((MC g q d')) (va_A ((MC g q d)) s.heap.size)) ([.ref (q 0)] : List Value).toArray s 0 0 (va_A ((MC g q d)) s.heap.size)) (F0 m 33 ls []) := by
    intro n33
    induction n33 with
    | zero => intro a1 d_ H locs ls hw hl h; exact (Option.some_ne_none _ h.symm).elim
    | succ n33 ih33 =>
      intro a1 d_ H locs ls hw hl h
      rw [f_X5_goesOn_L33] at h
      refine lv_iload_n hx hb dX5_goesOn_33 rfl (lv_at hl 1 rfl) ?_
      refine lv_aload_n hx hb dX5_goesOn_34 rfl (lv_at hl 0 rfl) ?_
      refine gf_X5_7 cx hw 0 rfl rfl dX5_goesOn_35 ?_
      refine lv_iconst (v := 0) hx hb dX5_goesOn_38 (by decide) ?_
      have ix73 := rd_in h
      refine x_iald cx hw 1 rfl ix73 dX5_goesOn_39 ?_
      refine lv_topi (fun x73 ex73 => ?_)
      replace h := rd_nx ex73 h
      refine lv_icmp_ge (tgt := 82) hx hb dX5_goesOn_40 (by decide) (fun c74 => ?_) (fun c74 => ?_)
      · replace h := ite_t c74 h
        refine lv_iconst (v := 0) hx hb dX5_goesOn_82 (by decide) ?_
        refine lv_istore_n (lv' := [(1, .int (0 : Int32)), (0, .ref (q 0))]) hx hb dX5_goesOn_83 rfl hl (by decide) rfl (fun ls hl => ?_)
        refine lv_iconst (v := 0) hx hb dX5_goesOn_84 (by decide) ?_
        refine lv_istore_n (lv' := [(2, .int (0 : Int32)), (1, .int (0 : Int32)), (0, .ref (q 0))]) hx hb dX5_goesOn_85 rfl hl (by decide) rfl (fun ls hl => ?_)
        exact L86 N (0 : Int32) (0 : Int32) d_ _ _ _ hw (lv_sub hl [2, 1, 0] rfl) h
      · replace h := ite_f c74 h
        refine lv_aload_n hx hb dX5_goesOn_43 rfl (lv_at hl 0 rfl) ?_
        refine lv_iload_n hx hb dX5_goesOn_44 rfl (lv_at hl 1 rfl) ?_
        obtain ⟨x75, g76, h⟩ := bd_ex h
        refine c_V (As := [.int a1]) (rest := []) (w' := (MC g q d_)) cx hw (c_X5_lives l g q N a1 d_ x75 g76) (cl_X5_107 cx.1.2.2.2.2 ⟨Nat.le_of_ble_eq_true rfl, Nat.le_of_ble_eq_true rfl⟩) (x_recv cx hw (ci := 5) rfl 0 rfl) (Ct.all (MC_ll ..)) hl.1 rfl rfl (Nat.le_of_ble_eq_true rfl) dX5_goesOn_45 ⟨Nat.le_of_ble_eq_true rfl, Nat.le_of_ble_eq_true rfl⟩ (st1 := [.int x75]) rfl (fun H locs hw => ?_)
        refine lv_if_eq (tgt := 76) hx hb dX5_goesOn_48 (by decide) (fun c77 => ?_) (fun c77 => ?_)
        · replace h := ite_t c77 h
          obtain ⟨x78, ex78⟩ : ∃ y : Int32, y = (a1 + 1) := ⟨_, rfl⟩
          replace h := lt_nx ex78 h
          refine lv_iinc (v := x78) (lv' := [(1, .int x78), (0, .ref (q 0))]) hx hb dX5_goesOn_76 hl (k := 1) rfl (by rw [ex78]; rfl) (by decide) rfl (fun ls hl => ?_)
          refine lv_goto (tgt := 33) hx hb dX5_goesOn_79 (by decide) ?_
          exact ih33 x78 d_ _ _ _ hw (lv_sub hl [1, 0] rfl) h
        · replace h := ite_f c77 h
          refine lv_aload_n hx hb dX5_goesOn_51 rfl (lv_at hl 0 rfl) ?_
          refine lv_iload_n hx hb dX5_goesOn_52 rfl (lv_at hl 1 rfl) ?_
          refine lv_iconst (v := 1) hx hb dX5_goesOn_53 (by decide) ?_
          obtain ⟨x79, g80, h⟩ := bd_ex h
          refine c_V (As := [.int a1, .int (1 : Int32)]) (rest := []) (w' := (MC g q d_)) cx hw (c_X5_is l g q N a1 (1 : Int32) d_ x79 g80) (cl_X5_47 cx.1.2.2.2.2 ⟨Nat.le_of_ble_eq_true rfl, Nat.le_of_ble_eq_true rfl⟩) (x_recv cx hw (ci := 5) rfl 0 rfl) (Ct.all (MC_ll ..)) hl.1 rfl rfl (Nat.le_of_ble_eq_true rfl) dX5_goesOn_54 ⟨Nat.le_of_ble_eq_true rfl, Nat.le_of_ble_eq_true rfl⟩ (st1 := [.int x79]) rfl (fun H locs hw => ?_)
          refine lv_bipush (v := 120) hx hb dX5_goesOn_57 (by decide) ?_
          refine lv_icmp_ge (tgt := 76) hx hb dX5_goesOn_59 (by decide) (fun c81 => ?_) (fun c81 => ?_)
          · replace h := ite_t c81 h
            obtain ⟨x82, ex82⟩ : ∃ y : Int32, y = (a1 + 1) := ⟨_, rfl⟩
            replace h := lt_nx ex82 h
            refine lv_iinc (v := x82) (lv' := [(1, .int x82), (0, .ref (q 0))]) hx hb dX5_goesOn_76 hl (k := 1) rfl (by rw [ex82]; rfl) (by decide) rfl (fun ls hl => ?_)
            refine lv_goto (tgt := 33) hx hb dX5_goesOn_79 (by decide) ?_
            exact ih33 x82 d_ _ _ _ hw (lv_sub hl [1, 0] rfl) h
          · replace h := ite_f c81 h
            refine lv_aload_n hx hb dX5_goesOn_62 rfl (lv_at hl 0 rfl) ?_
            refine lv_iload_n hx hb dX5_goesOn_63 rfl (lv_at hl 1 rfl) ?_
            refine lv_iconst (v := 1) hx hb dX5_goesOn_64 (by decide) ?_
            refine lv_aload_n hx hb dX5_goesOn_65 rfl (lv_at hl 0 rfl) ?_
            refine lv_iload_n hx hb dX5_goesOn_66 rfl (lv_at hl 1 rfl) ?_
            refine lv_iconst (v := 1) hx hb dX5_goesOn_67 (by decide) ?_
            obtain ⟨x83, g84, h⟩ := bd_ex h
            refine c_V (As := [.int a1, .int (1 : Int32)]) (rest := [.int (1 : Int32), .int a1, .ref (q 0)]) (w' := (MC g q d_)) cx hw (c_X5_is l g q N a1 (1 : Int32) d_ x83 g84) (cl_X5_47 cx.1.2.2.2.2 ⟨Nat.le_of_ble_eq_true rfl, Nat.le_of_ble_eq_true rfl⟩) (x_recv cx hw (ci := 5) rfl 0 rfl) (Ct.all (MC_ll ..)) hl.1 rfl rfl (Nat.le_of_ble_eq_true rfl) dX5_goesOn_68 ⟨Nat.le_of_ble_eq_true rfl, Nat.le_of_ble_eq_true rfl⟩ (st1 := [.int x83, .int (1 : Int32), .int a1, .ref (q 0)]) rfl (fun H locs hw => ?_)
            refine lv_iconst (v := 1) hx hb dX5_goesOn_71 (by decide) ?_
            refine lv_iadd hx hb dX5_goesOn_72 ?_
            obtain ⟨d85, g86, h⟩ := bd_ex h
            refine c_V (As := [.int a1, .int (1 : Int32), .int (x83 + (1 : Int32))]) (rest := []) (w' := (MC g q d85)) cx hw (c_X5_puts l g q N a1 (1 : Int32) (x83 + (1 : Int32)) d_ d85 g86) (cl_X5_71 cx.1.2.2.2.2 ⟨Nat.le_of_ble_eq_true rfl, Nat.le_of_ble_eq_true rfl⟩) (x_recv cx hw (ci := 5) rfl 0 rfl) (Ct.all (MC_ll ..)) hl.1 rfl rfl (Nat.le_of_ble_eq_true rfl) dX5_goesOn_73 ⟨Nat.le_of_ble_eq_true rfl, Nat.le_of_ble_eq_true rfl⟩ (st1 := []) rfl (fun H locs hw => ?_)
            obtain ⟨x87, ex87⟩ : ∃ y : Int32, y = (a1 + 1) := ⟨_, rfl⟩
            replace h := lt_nx ex87 h
            refine lv_iinc (v := x87) (lv' := [(1, .int x87), (0, .ref (q 0))]) hx hb dX5_goesOn_76 hl (k := 1) rfl (by rw [ex87]; rfl) (by decide) rfl (fun ls hl => ?_)
            refine lv_goto (tgt := 33) hx hb dX5_goesOn_79 (by decide) ?_
            exact ih33 x87 d85 _ _ _ hw (lv_sub hl [1, 0] rfl) h
  have L2 : ∀ (n2 : Nat) (a1 : Int32) (d_ : MD) (H : Heap) (locs : List Loc) (ls : Array Slot), Wd g (va_A ((MC g q d)) s.heap.size) ((MC g q d_)) s H locs → lv_has ls 3 [(0, .ref (q 0)), (1, .int a1)] → f_X5_goesOn_L2 N   n2 a1 d_ = some (r, d') → W p l e rm_X5_goesOn s m ([.ref (q 0)] : List Value).toArray below meth c H locs 0 0 (MQ below (QO (some (.int r)) g ((MC g q d')) (va_A ((MC g q d)) s.heap.size)) ([.ref (q 0)] : List Value).toArray s 0 0 (va_A ((MC g q d)) s.heap.size)) (F0 m 2 ls []) := by
    intro n2
    induction n2 with
    | zero => intro a1 d_ H locs ls hw hl h; exact (Option.some_ne_none _ h.symm).elim
    | succ n2 ih2 =>
      intro a1 d_ H locs ls hw hl h
      rw [f_X5_goesOn_L2] at h
      refine lv_iload_n hx hb dX5_goesOn_2 rfl (lv_at hl 1 rfl) ?_
      refine lv_aload_n hx hb dX5_goesOn_3 rfl (lv_at hl 0 rfl) ?_
      refine gf_X5_7 cx hw 0 rfl rfl dX5_goesOn_4 ?_
      refine lv_iconst (v := 0) hx hb dX5_goesOn_7 (by decide) ?_
      have ix88 := rd_in h
      refine x_iald cx hw 1 rfl ix88 dX5_goesOn_8 ?_
      refine lv_topi (fun x88 ex88 => ?_)
      replace h := rd_nx ex88 h
      refine lv_icmp_ge (tgt := 31) hx hb dX5_goesOn_9 (by decide) (fun c89 => ?_) (fun c89 => ?_)
      · replace h := ite_t c89 h
        refine lv_iconst (v := 0) hx hb dX5_goesOn_31 (by decide) ?_
        refine lv_istore_n (lv' := [(1, .int (0 : Int32)), (0, .ref (q 0))]) hx hb dX5_goesOn_32 rfl hl (by decide) rfl (fun ls hl => ?_)
        exact L33 N (0 : Int32) d_ _ _ _ hw (lv_sub hl [1, 0] rfl) h
      · replace h := ite_f c89 h
        refine lv_aload_n hx hb dX5_goesOn_12 rfl (lv_at hl 0 rfl) ?_
        refine lv_iload_n hx hb dX5_goesOn_13 rfl (lv_at hl 1 rfl) ?_
        obtain ⟨x90, g91, h⟩ := bd_ex h
        refine c_V (As := [.int a1]) (rest := []) (w' := (MC g q d_)) cx hw (c_X5_lives l g q N a1 d_ x90 g91) (cl_X5_107 cx.1.2.2.2.2 ⟨Nat.le_of_ble_eq_true rfl, Nat.le_of_ble_eq_true rfl⟩) (x_recv cx hw (ci := 5) rfl 0 rfl) (Ct.all (MC_ll ..)) hl.1 rfl rfl (Nat.le_of_ble_eq_true rfl) dX5_goesOn_14 ⟨Nat.le_of_ble_eq_true rfl, Nat.le_of_ble_eq_true rfl⟩ (st1 := [.int x90]) rfl (fun H locs hw => ?_)
        refine lv_if_eq (tgt := 25) hx hb dX5_goesOn_17 (by decide) (fun c92 => ?_) (fun c92 => ?_)
        · replace h := ite_t c92 h
          obtain ⟨x93, ex93⟩ : ∃ y : Int32, y = (a1 + 1) := ⟨_, rfl⟩
          replace h := lt_nx ex93 h
          refine lv_iinc (v := x93) (lv' := [(1, .int x93), (0, .ref (q 0))]) hx hb dX5_goesOn_25 hl (k := 1) rfl (by rw [ex93]; rfl) (by decide) rfl (fun ls hl => ?_)
          refine lv_goto (tgt := 2) hx hb dX5_goesOn_28 (by decide) ?_
          exact ih2 x93 d_ _ _ _ hw (lv_sub hl [1, 0] rfl) h
        · replace h := ite_f c92 h
          refine lv_aload_n hx hb dX5_goesOn_20 rfl (lv_at hl 0 rfl) ?_
          refine lv_iload_n hx hb dX5_goesOn_21 rfl (lv_at hl 1 rfl) ?_
          obtain ⟨d94, g95, h⟩ := bd_ex h
          refine c_V (As := [.int a1]) (rest := []) (w' := (MC g q d94)) cx hw (c_X5_alters l g q N a1 d_ d94 g95) (cl_X5_140 cx.1.2.2.2.2 ⟨Nat.le_of_ble_eq_true rfl, Nat.le_of_ble_eq_true rfl⟩) (x_recv cx hw (ci := 5) rfl 0 rfl) (Ct.all (MC_ll ..)) hl.1 rfl rfl (Nat.le_of_ble_eq_true rfl) dX5_goesOn_22 ⟨Nat.le_of_ble_eq_true rfl, Nat.le_of_ble_eq_true rfl⟩ (st1 := []) rfl (fun H locs hw => ?_)
          obtain ⟨x96, ex96⟩ : ∃ y : Int32, y = (a1 + 1) := ⟨_, rfl⟩
          replace h := lt_nx ex96 h
          refine lv_iinc (v := x96) (lv' := [(1, .int x96), (0, .ref (q 0))]) hx hb dX5_goesOn_25 hl (k := 1) rfl (by rw [ex96]; rfl) (by decide) rfl (fun ls hl => ?_)
          refine lv_goto (tgt := 2) hx hb dX5_goesOn_28 (by decide) ?_
          exact ih2 x96 d94 _ _ _ hw (lv_sub hl [1, 0] rfl) h
  unfold f_X5_goesOn at h
  refine lv_iconst (v := 0) hx hb dX5_goesOn_0 (by decide) ?_
  refine lv_istore_n (lv' := [(1, .int (0 : Int32)), (0, .ref (q 0))]) hx hb dX5_goesOn_1 rfl hl (by decide) rfl (fun ls hl => ?_)
  exact L2 N (0 : Int32) d _ _ _ hw (lv_sub hl [1, 0] rfl) h
set_option maxHeartbeats 4000000 in
set_option maxRecDepth 100000 in
theorem c_X5_goesOnMany (l : Launch) (g : gE) (q : Nat → Nat) (N : Nat) (p1 : Int32) (d : MD) (r : Int32) (d' : MD) (h : f_X5_goesOnMany N  p1 d = some (r, d')) : MO l yX5_goesOnMany (Cond.code yX5_goesOnMany cX5_goesOnMany 4 (some .int) :: TB) rm_X5_goesOnMany [.ref (q 0), .int p1] g ((MC g q d)) ((MC g q d')) (some (.int r)) 0 0 := by
  refine MO.of (cc := cX5_goesOnMany) (maxL := 4) (ret := (some .int)) (by decide) ?_
  intro p e s m below meth c cx hw hr hlocks _
  have hx := cx.1.1
  have hb := cx.1.2.1
  refine en_go (lv := [(0, .ref (q 0)), (1, .int p1)]) (Nat.le_of_ble_eq_true rfl) rfl (fun ls hl => ?_)
  have L4 : ∀ (n4 : Nat) (a1 : Int32) (a2 : Int32) (a3 : Int32) (d_ : MD) (H : Heap) (locs : List Loc) (ls : Array Slot), Wd g (va_A ((MC g q d)) s.heap.size) ((MC g q d_)) s H locs → lv_has ls 4 [(0, .ref (q 0)), (1, .int a1), (2, .int a2), (3, .int a3)] → f_X5_goesOnMany_L4 N   n4 a1 a2 a3 d_ = some (r, d') → W p l e rm_X5_goesOnMany s m ([.ref (q 0), .int p1] : List Value).toArray below meth c H locs 0 0 (MQ below (QO (some (.int r)) g ((MC g q d')) (va_A ((MC g q d)) s.heap.size)) ([.ref (q 0), .int p1] : List Value).toArray s 0 0 (va_A ((MC g q d)) s.heap.size)) (F0 m 4 ls []) := by
    intro n4
    induction n4 with
    | zero => intro a1 a2 a3 d_ H locs ls hw hl h; exact (Option.some_ne_none _ h.symm).elim
    | succ n4 ih4 =>
      intro a1 a2 a3 d_ H locs ls hw hl h
      rw [f_X5_goesOnMany_L4] at h
      refine lv_iload_n hx hb dX5_goesOnMany_4 rfl (lv_at hl 3 rfl) ?_
      refine lv_iload_n hx hb dX5_goesOnMany_5 rfl (lv_at hl 1 rfl) ?_
      refine lv_icmp_ge (tgt := 22) hx hb dX5_goesOnMany_6 (by decide) (fun c7 => ?_) (fun c7 => ?_)
      · replace h := ite_t c7 h
        refine lv_iload_n hx hb dX5_goesOnMany_22 rfl (lv_at hl 2 rfl) ?_
        exact r_i cx hr hlocks hw (pr1 h) (congrArg (fun z0 => (MC g q z0)) (pr2 h)) dX5_goesOnMany_23
      · replace h := ite_f c7 h
        refine lv_iload_n hx hb dX5_goesOnMany_9 rfl (lv_at hl 2 rfl) ?_
        refine lv_aload_n hx hb dX5_goesOnMany_10 rfl (lv_at hl 0 rfl) ?_
        obtain ⟨x8, d9, g10, h⟩ := bd2_ex h
        refine c_V (As := []) (rest := [.int a2]) (w' := (MC g q d9)) cx hw (c_X5_goesOn l g q N  d_ x8 d9 g10) (cl_X5_150 cx.1.2.2.2.2 ⟨Nat.le_of_ble_eq_true rfl, Nat.le_of_ble_eq_true rfl⟩) (x_recv cx hw (ci := 5) rfl 0 rfl) (Ct.all (MC_ll ..)) hl.1 rfl rfl (Nat.le_of_ble_eq_true rfl) dX5_goesOnMany_11 ⟨Nat.le_of_ble_eq_true rfl, Nat.le_of_ble_eq_true rfl⟩ (st1 := [.int x8, .int a2]) rfl (fun H locs hw => ?_)
        refine lv_iadd hx hb dX5_goesOnMany_14 ?_
        refine lv_topi (fun x11 ex11 => ?_)
        replace h := lt_nx ex11 h
        refine lv_istore_n (lv' := [(2, .int x11), (0, .ref (q 0)), (1, .int a1), (3, .int a3)]) hx hb dX5_goesOnMany_15 rfl hl (by decide) rfl (fun ls hl => ?_)
        obtain ⟨x12, ex12⟩ : ∃ y : Int32, y = (a3 + 1) := ⟨_, rfl⟩
        replace h := lt_nx ex12 h
        refine lv_iinc (v := x12) (lv' := [(3, .int x12), (2, .int x11), (0, .ref (q 0)), (1, .int a1)]) hx hb dX5_goesOnMany_16 hl (k := 3) rfl (by rw [ex12]; rfl) (by decide) rfl (fun ls hl => ?_)
        refine lv_goto (tgt := 4) hx hb dX5_goesOnMany_19 (by decide) ?_
        exact ih4 a1 x11 x12 d9 _ _ _ hw (lv_sub hl [2, 3, 1, 0] rfl) h
  unfold f_X5_goesOnMany at h
  refine lv_iconst (v := 0) hx hb dX5_goesOnMany_0 (by decide) ?_
  refine lv_istore_n (lv' := [(2, .int (0 : Int32)), (0, .ref (q 0)), (1, .int p1)]) hx hb dX5_goesOnMany_1 rfl hl (by decide) rfl (fun ls hl => ?_)
  refine lv_iconst (v := 0) hx hb dX5_goesOnMany_2 (by decide) ?_
  refine lv_istore_n (lv' := [(3, .int (0 : Int32)), (2, .int (0 : Int32)), (0, .ref (q 0)), (1, .int p1)]) hx hb dX5_goesOnMany_3 rfl hl (by decide) rfl (fun ls hl => ?_)
  exact L4 N p1 (0 : Int32) (0 : Int32) d _ _ _ hw (lv_sub hl [2, 3, 1, 0] rfl) h
set_option maxHeartbeats 4000000 in
set_option maxRecDepth 100000 in
theorem c_X5_years (l : Launch) (g : gE) (q : Nat → Nat) (N : Nat) (p1 : Int32) (d : MD) (r : Int32) (d' : MD) (h : f_X5_years N  p1 d = some (r, d')) : MO l yX5_years (Cond.code yX5_years cX5_years 2 (some .int) :: TB) rm_X5_years [.ref (q 0), .int p1] g ((MC g q d)) ((MC g q d')) (some (.int r)) 0 0 := by
  refine MO.of (cc := cX5_years) (maxL := 2) (ret := (some .int)) (by decide) ?_
  intro p e s m below meth c cx hw hr hlocks _
  have hx := cx.1.1
  have hb := cx.1.2.1
  refine en_go (lv := [(0, .ref (q 0)), (1, .int p1)]) (Nat.le_of_ble_eq_true rfl) rfl (fun ls hl => ?_)
  unfold f_X5_years at h
  refine lv_iload_n hx hb dX5_years_0 rfl (lv_at hl 1 rfl) ?_
  refine lv_i2l hx hb dX5_years_1 rfl ?_
  refine lv_lconst (v := 1) hx hb dX5_years_2 (by decide) ?_
  refine lv_ldc2 hx hb cx.1.2.2.2.1 (cx.1.2.2.2.2 _ tw_4_224) dX5_years_3 ?_
  obtain ⟨x1, g2, h⟩ := bd_ex h
  refine c_S (As := [.long ((p1).toInt64), .long (1 : Int64), .long (100 : Int64)]) (rest := []) (w' := (MC g q d)) cx hw (c_X5_isIn l g  N ((p1).toInt64) (1 : Int64) (100 : Int64)  x1 g2) (cl_X5_54 cx.1.2.2.2.2 ⟨Nat.le_of_ble_eq_true rfl, Nat.le_of_ble_eq_true rfl⟩) Ct.nil hl.1 rfl rfl (Nat.le_of_ble_eq_true rfl) dX5_years_6 ⟨Nat.le_of_ble_eq_true rfl, Nat.le_of_ble_eq_true rfl⟩ (st1 := [.int x1]) rfl (fun H locs hw => ?_)
  refine lv_if_ne (tgt := 19) hx hb dX5_years_9 (by decide) (fun c3 => ?_) (fun c3 => ?_)
  · replace h := ite_f c3 h
    refine lv_aload_n hx hb dX5_years_19 rfl (lv_at hl 0 rfl) ?_
    refine lv_iload_n hx hb dX5_years_20 rfl (lv_at hl 1 rfl) ?_
    obtain ⟨x4, g5, h⟩ := bd_ex h
    refine c_V (As := [.int p1]) (rest := []) (w' := (MC g q d)) cx hw (c_X5_isFar l g q N p1 d x4 g5) (cl_X5_156 cx.1.2.2.2.2 ⟨Nat.le_of_ble_eq_true rfl, Nat.le_of_ble_eq_true rfl⟩) (x_recv cx hw (ci := 5) rfl 0 rfl) (Ct.all (MC_ll ..)) hl.1 rfl rfl (Nat.le_of_ble_eq_true rfl) dX5_years_21 ⟨Nat.le_of_ble_eq_true rfl, Nat.le_of_ble_eq_true rfl⟩ (st1 := [.int x4]) rfl (fun H locs hw => ?_)
    refine lv_if_eq (tgt := 36) hx hb dX5_years_24 (by decide) (fun c6 => ?_) (fun c6 => ?_)
    · replace h := ite_t c6 h
      refine lv_aload_n hx hb dX5_years_36 rfl (lv_at hl 0 rfl) ?_
      refine lv_iload_n hx hb dX5_years_37 rfl (lv_at hl 1 rfl) ?_
      obtain ⟨x7, d8, g9, h⟩ := bd2_ex h
      refine c_V (As := [.int p1]) (rest := []) (w' := (MC g q d8)) cx hw (c_X5_goesOnMany l g q N p1 d x7 d8 g9) (cl_X5_160 cx.1.2.2.2.2 ⟨Nat.le_of_ble_eq_true rfl, Nat.le_of_ble_eq_true rfl⟩) (x_recv cx hw (ci := 5) rfl 0 rfl) (Ct.all (MC_ll ..)) hl.1 rfl rfl (Nat.le_of_ble_eq_true rfl) dX5_years_38 ⟨Nat.le_of_ble_eq_true rfl, Nat.le_of_ble_eq_true rfl⟩ (st1 := [.int x7]) rfl (fun H locs hw => ?_)
      exact r_i cx hr hlocks hw (pr1 h) (congrArg (fun z0 => (MC g q z0)) (pr2 h)) dX5_years_41
    · replace h := ite_f c6 h
      refine lv_aload_n hx hb dX5_years_27 rfl (lv_at hl 0 rfl) ?_
      refine lv_ldc hx hb cx.1.2.2.2.1 (cx.1.2.2.2.2 _ tw_4_229) dX5_years_28 ?_
      obtain ⟨x10, d11, g12, h⟩ := bd2_ex h
      refine c_V (As := [.int (-1000000005 : Int32)]) (rest := []) (w' := (MC g q d11)) cx hw (c_X5_finds l g q N (-1000000005 : Int32) d x10 d11 g12) (cl_X5_62 cx.1.2.2.2.2 ⟨Nat.le_of_ble_eq_true rfl, Nat.le_of_ble_eq_true rfl⟩) (x_recv cx hw (ci := 5) rfl 0 rfl) (Ct.all (MC_ll ..)) hl.1 rfl rfl (Nat.le_of_ble_eq_true rfl) dX5_years_30 ⟨Nat.le_of_ble_eq_true rfl, Nat.le_of_ble_eq_true rfl⟩ (st1 := [.int x10]) rfl (fun H locs hw => ?_)
      refine lv_goto (tgt := 41) hx hb dX5_years_33 (by decide) ?_
      exact r_i cx hr hlocks hw (pr1 h) (congrArg (fun z0 => (MC g q z0)) (pr2 h)) dX5_years_41
  · replace h := ite_t c3 h
    refine lv_aload_n hx hb dX5_years_12 rfl (lv_at hl 0 rfl) ?_
    refine lv_ldc hx hb cx.1.2.2.2.1 (cx.1.2.2.2.2 _ tw_4_79) dX5_years_13 ?_
    obtain ⟨x13, d14, g15, h⟩ := bd2_ex h
    refine c_V (As := [.int (-1000000001 : Int32)]) (rest := []) (w' := (MC g q d14)) cx hw (c_X5_finds l g q N (-1000000001 : Int32) d x13 d14 g15) (cl_X5_62 cx.1.2.2.2.2 ⟨Nat.le_of_ble_eq_true rfl, Nat.le_of_ble_eq_true rfl⟩) (x_recv cx hw (ci := 5) rfl 0 rfl) (Ct.all (MC_ll ..)) hl.1 rfl rfl (Nat.le_of_ble_eq_true rfl) dX5_years_15 ⟨Nat.le_of_ble_eq_true rfl, Nat.le_of_ble_eq_true rfl⟩ (st1 := [.int x13]) rfl (fun H locs hw => ?_)
    exact r_i cx hr hlocks hw (pr1 h) (congrArg (fun z0 => (MC g q z0)) (pr2 h)) dX5_years_18
set_option maxHeartbeats 4000000 in
set_option maxRecDepth 100000 in
theorem c_X5_dies (l : Launch) (g : gE) (q : Nat → Nat) (N : Nat) (p1 : Int32) (d : MD) (r : Int32) (d' : MD) (h : f_X5_dies N  p1 d = some (r, d')) : MO l yX5_dies (Cond.code yX5_dies cX5_dies 2 (some .int) :: TB) rm_X5_dies [.ref (q 0), .int p1] g ((MC g q d)) ((MC g q d')) (some (.int r)) 0 0 := by
  refine MO.of (cc := cX5_dies) (maxL := 2) (ret := (some .int)) (by decide) ?_
  intro p e s m below meth c cx hw hr hlocks _
  have hx := cx.1.1
  have hb := cx.1.2.1
  refine en_go (lv := [(0, .ref (q 0)), (1, .int p1)]) (Nat.le_of_ble_eq_true rfl) rfl (fun ls hl => ?_)
  unfold f_X5_dies at h
  refine lv_aload_n hx hb dX5_dies_0 rfl (lv_at hl 0 rfl) ?_
  refine lv_iload_n hx hb dX5_dies_1 rfl (lv_at hl 1 rfl) ?_
  obtain ⟨x1, g2, h⟩ := bd_ex h
  refine c_V (As := [.int p1]) (rest := []) (w' := (MC g q d)) cx hw (c_X5_isOne l g q N p1 d x1 g2) (cl_X5_43 cx.1.2.2.2.2 ⟨Nat.le_of_ble_eq_true rfl, Nat.le_of_ble_eq_true rfl⟩) (x_recv cx hw (ci := 5) rfl 0 rfl) (Ct.all (MC_ll ..)) hl.1 rfl rfl (Nat.le_of_ble_eq_true rfl) dX5_dies_2 ⟨Nat.le_of_ble_eq_true rfl, Nat.le_of_ble_eq_true rfl⟩ (st1 := [.int x1]) rfl (fun H locs hw => ?_)
  refine lv_if_ne (tgt := 15) hx hb dX5_dies_5 (by decide) (fun c3 => ?_) (fun c3 => ?_)
  · replace h := ite_f c3 h
    refine lv_aload_n hx hb dX5_dies_15 rfl (lv_at hl 0 rfl) ?_
    refine lv_iload_n hx hb dX5_dies_16 rfl (lv_at hl 1 rfl) ?_
    obtain ⟨x4, g5, h⟩ := bd_ex h
    refine c_V (As := [.int p1]) (rest := []) (w' := (MC g q d)) cx hw (c_X5_lives l g q N p1 d x4 g5) (cl_X5_107 cx.1.2.2.2.2 ⟨Nat.le_of_ble_eq_true rfl, Nat.le_of_ble_eq_true rfl⟩) (x_recv cx hw (ci := 5) rfl 0 rfl) (Ct.all (MC_ll ..)) hl.1 rfl rfl (Nat.le_of_ble_eq_true rfl) dX5_dies_17 ⟨Nat.le_of_ble_eq_true rfl, Nat.le_of_ble_eq_true rfl⟩ (st1 := [.int x4]) rfl (fun H locs hw => ?_)
    refine lv_if_ne (tgt := 30) hx hb dX5_dies_20 (by decide) (fun c6 => ?_) (fun c6 => ?_)
    · replace h := ite_f c6 h
      refine lv_aload_n hx hb dX5_dies_30 rfl (lv_at hl 0 rfl) ?_
      refine lv_iload_n hx hb dX5_dies_31 rfl (lv_at hl 1 rfl) ?_
      obtain ⟨d7, g8, h⟩ := bd_ex h
      refine c_V (As := [.int p1]) (rest := []) (w' := (MC g q d7)) cx hw (c_X5_ends l g q N p1 d d7 g8) (cl_X5_144 cx.1.2.2.2.2 ⟨Nat.le_of_ble_eq_true rfl, Nat.le_of_ble_eq_true rfl⟩) (x_recv cx hw (ci := 5) rfl 0 rfl) (Ct.all (MC_ll ..)) hl.1 rfl rfl (Nat.le_of_ble_eq_true rfl) dX5_dies_32 ⟨Nat.le_of_ble_eq_true rfl, Nat.le_of_ble_eq_true rfl⟩ (st1 := []) rfl (fun H locs hw => ?_)
      refine lv_aload_n hx hb dX5_dies_35 rfl (lv_at hl 0 rfl) ?_
      refine gf_X5_133 cx hw 0 rfl rfl dX5_dies_36 ?_
      exact r_i cx hr hlocks hw (pr1 h) (congrArg (fun z0 => (MC g q z0)) (pr2 h)) dX5_dies_39
    · replace h := ite_t c6 h
      refine lv_aload_n hx hb dX5_dies_23 rfl (lv_at hl 0 rfl) ?_
      refine lv_ldc hx hb cx.1.2.2.2.1 (cx.1.2.2.2.2 _ tw_4_229) dX5_dies_24 ?_
      obtain ⟨x9, d10, g11, h⟩ := bd2_ex h
      refine c_V (As := [.int (-1000000005 : Int32)]) (rest := []) (w' := (MC g q d10)) cx hw (c_X5_finds l g q N (-1000000005 : Int32) d x9 d10 g11) (cl_X5_62 cx.1.2.2.2.2 ⟨Nat.le_of_ble_eq_true rfl, Nat.le_of_ble_eq_true rfl⟩) (x_recv cx hw (ci := 5) rfl 0 rfl) (Ct.all (MC_ll ..)) hl.1 rfl rfl (Nat.le_of_ble_eq_true rfl) dX5_dies_26 ⟨Nat.le_of_ble_eq_true rfl, Nat.le_of_ble_eq_true rfl⟩ (st1 := [.int x9]) rfl (fun H locs hw => ?_)
      exact r_i cx hr hlocks hw (pr1 h) (congrArg (fun z0 => (MC g q z0)) (pr2 h)) dX5_dies_29
  · replace h := ite_t c3 h
    refine lv_aload_n hx hb dX5_dies_8 rfl (lv_at hl 0 rfl) ?_
    refine lv_ldc hx hb cx.1.2.2.2.1 (cx.1.2.2.2.2 _ tw_4_79) dX5_dies_9 ?_
    obtain ⟨x12, d13, g14, h⟩ := bd2_ex h
    refine c_V (As := [.int (-1000000001 : Int32)]) (rest := []) (w' := (MC g q d13)) cx hw (c_X5_finds l g q N (-1000000001 : Int32) d x12 d13 g14) (cl_X5_62 cx.1.2.2.2.2 ⟨Nat.le_of_ble_eq_true rfl, Nat.le_of_ble_eq_true rfl⟩) (x_recv cx hw (ci := 5) rfl 0 rfl) (Ct.all (MC_ll ..)) hl.1 rfl rfl (Nat.le_of_ble_eq_true rfl) dX5_dies_11 ⟨Nat.le_of_ble_eq_true rfl, Nat.le_of_ble_eq_true rfl⟩ (st1 := [.int x12]) rfl (fun H locs hw => ?_)
    exact r_i cx hr hlocks hw (pr1 h) (congrArg (fun z0 => (MC g q z0)) (pr2 h)) dX5_dies_14
set_option maxHeartbeats 4000000 in
set_option maxRecDepth 100000 in
theorem c_X5_livingSet (l : Launch) (g : gE) (q : Nat → Nat) (N : Nat)  (d : MD) (r : Int32) (h : f_X5_livingSet N  d = some r) : MO l yX5_livingSet (Cond.code yX5_livingSet cX5_livingSet 3 (some .int) :: TB) rm_X5_livingSet [.ref (q 0)] g ((MC g q d)) ((MC g q d)) (some (.int r)) 0 0 := by
  refine MO.of (cc := cX5_livingSet) (maxL := 3) (ret := (some .int)) (by decide) ?_
  intro p e s m below meth c cx hw hr hlocks _
  have hx := cx.1.1
  have hb := cx.1.2.1
  refine en_go (lv := [(0, .ref (q 0))]) (Nat.le_of_ble_eq_true rfl) rfl (fun ls hl => ?_)
  have L4 : ∀ (n4 : Nat) (a1 : Int32) (a2 : Int32) (H : Heap) (locs : List Loc) (ls : Array Slot), Wd g (va_A ((MC g q d)) s.heap.size) ((MC g q d)) s H locs → lv_has ls 3 [(0, .ref (q 0)), (1, .int a1), (2, .int a2)] → f_X5_livingSet_L4 N d  n4 a1 a2 = some r → W p l e rm_X5_livingSet s m ([.ref (q 0)] : List Value).toArray below meth c H locs 0 0 (MQ below (QO (some (.int r)) g ((MC g q d)) (va_A ((MC g q d)) s.heap.size)) ([.ref (q 0)] : List Value).toArray s 0 0 (va_A ((MC g q d)) s.heap.size)) (F0 m 4 ls []) := by
    intro n4
    induction n4 with
    | zero => intro a1 a2 H locs ls hw hl h; exact (Option.some_ne_none _ h.symm).elim
    | succ n4 ih4 =>
      intro a1 a2 H locs ls hw hl h
      rw [f_X5_livingSet_L4] at h
      refine lv_iload_n hx hb dX5_livingSet_4 rfl (lv_at hl 2 rfl) ?_
      refine lv_aload_n hx hb dX5_livingSet_5 rfl (lv_at hl 0 rfl) ?_
      refine gf_X5_7 cx hw 0 rfl rfl dX5_livingSet_6 ?_
      refine lv_iconst (v := 0) hx hb dX5_livingSet_9 (by decide) ?_
      have ix7 := rd_in h
      refine x_iald cx hw 1 rfl ix7 dX5_livingSet_10 ?_
      refine lv_topi (fun x7 ex7 => ?_)
      replace h := rd_nx ex7 h
      refine lv_icmp_ge (tgt := 31) hx hb dX5_livingSet_11 (by decide) (fun c8 => ?_) (fun c8 => ?_)
      · replace h := ite_t c8 h
        refine lv_iload_n hx hb dX5_livingSet_31 rfl (lv_at hl 1 rfl) ?_
        exact r_i cx hr hlocks hw (sm_eq h) rfl dX5_livingSet_32
      · replace h := ite_f c8 h
        refine lv_iload_n hx hb dX5_livingSet_14 rfl (lv_at hl 1 rfl) ?_
        refine lv_aload_n hx hb dX5_livingSet_15 rfl (lv_at hl 0 rfl) ?_
        refine lv_iload_n hx hb dX5_livingSet_16 rfl (lv_at hl 2 rfl) ?_
        refine lv_iconst (v := 5) hx hb dX5_livingSet_17 (by decide) ?_
        obtain ⟨x9, g10, h⟩ := bd_ex h
        refine c_V (As := [.int a2, .int (5 : Int32)]) (rest := [.int a1]) (w' := (MC g q d)) cx hw (c_X5_is l g q N a2 (5 : Int32) d x9 g10) (cl_X5_47 cx.1.2.2.2.2 ⟨Nat.le_of_ble_eq_true rfl, Nat.le_of_ble_eq_true rfl⟩) (x_recv cx hw (ci := 5) rfl 0 rfl) (Ct.all (MC_ll ..)) hl.1 rfl rfl (Nat.le_of_ble_eq_true rfl) dX5_livingSet_18 ⟨Nat.le_of_ble_eq_true rfl, Nat.le_of_ble_eq_true rfl⟩ (st1 := [.int x9, .int a1]) rfl (fun H locs hw => ?_)
        refine lv_iload_n hx hb dX5_livingSet_21 rfl (lv_at hl 2 rfl) ?_
        refine lv_ishl hx hb dX5_livingSet_22 ?_
        refine lv_ior hx hb dX5_livingSet_23 ?_
        refine lv_topi (fun x11 ex11 => ?_)
        replace h := lt_nx ex11 h
        refine lv_istore_n (lv' := [(1, .int x11), (0, .ref (q 0)), (2, .int a2)]) hx hb dX5_livingSet_24 rfl hl (by decide) rfl (fun ls hl => ?_)
        obtain ⟨x12, ex12⟩ : ∃ y : Int32, y = (a2 + 1) := ⟨_, rfl⟩
        replace h := lt_nx ex12 h
        refine lv_iinc (v := x12) (lv' := [(2, .int x12), (1, .int x11), (0, .ref (q 0))]) hx hb dX5_livingSet_25 hl (k := 2) rfl (by rw [ex12]; rfl) (by decide) rfl (fun ls hl => ?_)
        refine lv_goto (tgt := 4) hx hb dX5_livingSet_28 (by decide) ?_
        exact ih4 x11 x12 _ _ _ hw (lv_sub hl [2, 1, 0] rfl) h
  unfold f_X5_livingSet at h
  refine lv_iconst (v := 0) hx hb dX5_livingSet_0 (by decide) ?_
  refine lv_istore_n (lv' := [(1, .int (0 : Int32)), (0, .ref (q 0))]) hx hb dX5_livingSet_1 rfl hl (by decide) rfl (fun ls hl => ?_)
  refine lv_iconst (v := 0) hx hb dX5_livingSet_2 (by decide) ?_
  refine lv_istore_n (lv' := [(2, .int (0 : Int32)), (1, .int (0 : Int32)), (0, .ref (q 0))]) hx hb dX5_livingSet_3 rfl hl (by decide) rfl (fun ls hl => ?_)
  exact L4 N (0 : Int32) (0 : Int32) _ _ _ hw (lv_sub hl [2, 1, 0] rfl) h
set_option maxHeartbeats 4000000 in
set_option maxRecDepth 100000 in
theorem c_X5_allOf (l : Launch) (g : gE) (q : Nat → Nat) (N : Nat) (p1 : Int32) (d : MD) (r : Int32) (h : f_X5_allOf N  p1 d = some r) : MO l yX5_allOf (Cond.code yX5_allOf cX5_allOf 4 (some .int) :: TB) rm_X5_allOf [.ref (q 0), .int p1] g ((MC g q d)) ((MC g q d)) (some (.int r)) 0 0 := by
  refine MO.of (cc := cX5_allOf) (maxL := 4) (ret := (some .int)) (by decide) ?_
  intro p e s m below meth c cx hw hr hlocks _
  have hx := cx.1.1
  have hb := cx.1.2.1
  refine en_go (lv := [(0, .ref (q 0)), (1, .int p1)]) (Nat.le_of_ble_eq_true rfl) rfl (fun ls hl => ?_)
  have L4 : ∀ (n4 : Nat) (a1 : Int32) (a2 : Int32) (a3 : Int32) (H : Heap) (locs : List Loc) (ls : Array Slot), Wd g (va_A ((MC g q d)) s.heap.size) ((MC g q d)) s H locs → lv_has ls 4 [(0, .ref (q 0)), (1, .int a1), (2, .int a2), (3, .int a3)] → f_X5_allOf_L4 N d  n4 a1 a2 a3 = some r → W p l e rm_X5_allOf s m ([.ref (q 0), .int p1] : List Value).toArray below meth c H locs 0 0 (MQ below (QO (some (.int r)) g ((MC g q d)) (va_A ((MC g q d)) s.heap.size)) ([.ref (q 0), .int p1] : List Value).toArray s 0 0 (va_A ((MC g q d)) s.heap.size)) (F0 m 4 ls []) := by
    intro n4
    induction n4 with
    | zero => intro a1 a2 a3 H locs ls hw hl h; exact (Option.some_ne_none _ h.symm).elim
    | succ n4 ih4 =>
      intro a1 a2 a3 H locs ls hw hl h
      rw [f_X5_allOf_L4] at h
      refine lv_iload_n hx hb dX5_allOf_4 rfl (lv_at hl 3 rfl) ?_
      refine lv_aload_n hx hb dX5_allOf_5 rfl (lv_at hl 0 rfl) ?_
      refine gf_X5_7 cx hw 0 rfl rfl dX5_allOf_6 ?_
      refine lv_iconst (v := 0) hx hb dX5_allOf_9 (by decide) ?_
      have ix12 := rd_in h
      refine x_iald cx hw 1 rfl ix12 dX5_allOf_10 ?_
      refine lv_topi (fun x12 ex12 => ?_)
      replace h := rd_nx ex12 h
      refine lv_icmp_ge (tgt := 41) hx hb dX5_allOf_11 (by decide) (fun c13 => ?_) (fun c13 => ?_)
      · replace h := ite_t c13 h
        refine lv_iload_n hx hb dX5_allOf_41 rfl (lv_at hl 2 rfl) ?_
        exact r_i cx hr hlocks hw (sm_eq h) rfl dX5_allOf_42
      · replace h := ite_f c13 h
        refine lv_iload_n hx hb dX5_allOf_14 rfl (lv_at hl 2 rfl) ?_
        refine lv_aload_n hx hb dX5_allOf_15 rfl (lv_at hl 0 rfl) ?_
        refine lv_iload_n hx hb dX5_allOf_16 rfl (lv_at hl 3 rfl) ?_
        obtain ⟨x14, g15, h⟩ := bd_ex h
        refine c_V (As := [.int a3]) (rest := [.int a2]) (w' := (MC g q d)) cx hw (c_X5_lives l g q N a3 d x14 g15) (cl_X5_107 cx.1.2.2.2.2 ⟨Nat.le_of_ble_eq_true rfl, Nat.le_of_ble_eq_true rfl⟩) (x_recv cx hw (ci := 5) rfl 0 rfl) (Ct.all (MC_ll ..)) hl.1 rfl rfl (Nat.le_of_ble_eq_true rfl) dX5_allOf_17 ⟨Nat.le_of_ble_eq_true rfl, Nat.le_of_ble_eq_true rfl⟩ (st1 := [.int x14, .int a2]) rfl (fun H locs hw => ?_)
        refine lv_if_eq (tgt := 32) hx hb dX5_allOf_20 (by decide) (fun c16 => ?_) (fun c16 => ?_)
        · replace h := ite_t c16 h
          refine lv_iconst (v := 0) hx hb dX5_allOf_32 (by decide) ?_
          refine lv_iadd hx hb dX5_allOf_33 ?_
          refine lv_topi (fun x17 ex17 => ?_)
          replace h := lt_nx ex17 h
          refine lv_istore_n (lv' := [(2, .int x17), (0, .ref (q 0)), (1, .int a1), (3, .int a3)]) hx hb dX5_allOf_34 rfl hl (by decide) rfl (fun ls hl => ?_)
          obtain ⟨x18, ex18⟩ : ∃ y : Int32, y = (a3 + 1) := ⟨_, rfl⟩
          replace h := lt_nx ex18 h
          refine lv_iinc (v := x18) (lv' := [(3, .int x18), (2, .int x17), (0, .ref (q 0)), (1, .int a1)]) hx hb dX5_allOf_35 hl (k := 3) rfl (by rw [ex18]; rfl) (by decide) rfl (fun ls hl => ?_)
          refine lv_goto (tgt := 4) hx hb dX5_allOf_38 (by decide) ?_
          exact ih4 a1 x17 x18 _ _ _ hw (lv_sub hl [2, 3, 1, 0] rfl) h
        · replace h := ite_f c16 h
          refine lv_aload_n hx hb dX5_allOf_23 rfl (lv_at hl 0 rfl) ?_
          refine lv_iload_n hx hb dX5_allOf_24 rfl (lv_at hl 3 rfl) ?_
          refine lv_iload_n hx hb dX5_allOf_25 rfl (lv_at hl 1 rfl) ?_
          obtain ⟨x19, g20, h⟩ := bd_ex h
          refine c_V (As := [.int a3, .int a1]) (rest := [.int a2]) (w' := (MC g q d)) cx hw (c_X5_is l g q N a3 a1 d x19 g20) (cl_X5_47 cx.1.2.2.2.2 ⟨Nat.le_of_ble_eq_true rfl, Nat.le_of_ble_eq_true rfl⟩) (x_recv cx hw (ci := 5) rfl 0 rfl) (Ct.all (MC_ll ..)) hl.1 rfl rfl (Nat.le_of_ble_eq_true rfl) dX5_allOf_26 ⟨Nat.le_of_ble_eq_true rfl, Nat.le_of_ble_eq_true rfl⟩ (st1 := [.int x19, .int a2]) rfl (fun H locs hw => ?_)
          refine lv_goto (tgt := 33) hx hb dX5_allOf_29 (by decide) ?_
          refine lv_iadd hx hb dX5_allOf_33 ?_
          refine lv_topi (fun x21 ex21 => ?_)
          replace h := lt_nx ex21 h
          refine lv_istore_n (lv' := [(2, .int x21), (0, .ref (q 0)), (1, .int a1), (3, .int a3)]) hx hb dX5_allOf_34 rfl hl (by decide) rfl (fun ls hl => ?_)
          obtain ⟨x22, ex22⟩ : ∃ y : Int32, y = (a3 + 1) := ⟨_, rfl⟩
          replace h := lt_nx ex22 h
          refine lv_iinc (v := x22) (lv' := [(3, .int x22), (2, .int x21), (0, .ref (q 0)), (1, .int a1)]) hx hb dX5_allOf_35 hl (k := 3) rfl (by rw [ex22]; rfl) (by decide) rfl (fun ls hl => ?_)
          refine lv_goto (tgt := 4) hx hb dX5_allOf_38 (by decide) ?_
          exact ih4 a1 x21 x22 _ _ _ hw (lv_sub hl [2, 3, 1, 0] rfl) h
  unfold f_X5_allOf at h
  refine lv_iconst (v := 0) hx hb dX5_allOf_0 (by decide) ?_
  refine lv_istore_n (lv' := [(2, .int (0 : Int32)), (0, .ref (q 0)), (1, .int p1)]) hx hb dX5_allOf_1 rfl hl (by decide) rfl (fun ls hl => ?_)
  refine lv_iconst (v := 0) hx hb dX5_allOf_2 (by decide) ?_
  refine lv_istore_n (lv' := [(3, .int (0 : Int32)), (2, .int (0 : Int32)), (0, .ref (q 0)), (1, .int p1)]) hx hb dX5_allOf_3 rfl hl (by decide) rfl (fun ls hl => ?_)
  exact L4 N p1 (0 : Int32) (0 : Int32) _ _ _ hw (lv_sub hl [2, 3, 1, 0] rfl) h
set_option maxHeartbeats 4000000 in
set_option maxRecDepth 100000 in
theorem c_X5_now (l : Launch) (g : gE) (q : Nat → Nat) (N : Nat) (p1 : Int32) (d : MD) (r : Int32) (d' : MD) (h : f_X5_now N  p1 d = some (r, d')) : MO l yX5_now (Cond.code yX5_now cX5_now 2 (some .int) :: TB) rm_X5_now [.ref (q 0), .int p1] g ((MC g q d)) ((MC g q d')) (some (.int r)) 0 0 := by
  refine MO.of (cc := cX5_now) (maxL := 2) (ret := (some .int)) (by decide) ?_
  intro p e s m below meth c cx hw hr hlocks _
  have hx := cx.1.1
  have hb := cx.1.2.1
  refine en_go (lv := [(0, .ref (q 0)), (1, .int p1)]) (Nat.le_of_ble_eq_true rfl) rfl (fun ls hl => ?_)
  unfold f_X5_now at h
  refine lv_iload_n hx hb dX5_now_0 rfl (lv_at hl 1 rfl) ?_
  by_cases c1 : p1 = 0
  · replace h := ite_t c1 h
    refine lv_tableIn (tgt := 32) hx hb dX5_now_1 (by rw [c1]; decide) (by rw [c1]; decide) (by rw [c1]; rfl) (by decide) ?_
    refine lv_aload_n hx hb dX5_now_32 rfl (lv_at hl 0 rfl) ?_
    refine gf_X5_7 cx hw 0 rfl rfl dX5_now_33 ?_
    refine lv_iconst (v := 1) hx hb dX5_now_36 (by decide) ?_
    have ix2 := rd_in h
    refine x_iald cx hw 1 rfl ix2 dX5_now_37 ?_
    refine lv_topi (fun x2 ex2 => ?_)
    replace h := rd_nx ex2 h
    exact r_i cx hr hlocks hw (pr1 h) (congrArg (fun z0 => (MC g q z0)) (pr2 h)) dX5_now_38
  · replace h := ite_f c1 h
    by_cases c3 : p1 = 1
    · replace h := ite_t c3 h
      refine lv_tableIn (tgt := 39) hx hb dX5_now_1 (by rw [c3]; decide) (by rw [c3]; decide) (by rw [c3]; rfl) (by decide) ?_
      refine lv_aload_n hx hb dX5_now_39 rfl (lv_at hl 0 rfl) ?_
      refine gf_X5_7 cx hw 0 rfl rfl dX5_now_40 ?_
      refine lv_iconst (v := 2) hx hb dX5_now_43 (by decide) ?_
      have ix4 := rd_in h
      refine x_iald cx hw 1 rfl ix4 dX5_now_44 ?_
      refine lv_topi (fun x4 ex4 => ?_)
      replace h := rd_nx ex4 h
      exact r_i cx hr hlocks hw (pr1 h) (congrArg (fun z0 => (MC g q z0)) (pr2 h)) dX5_now_45
    · replace h := ite_f c3 h
      by_cases c5 : p1 = 2
      · replace h := ite_t c5 h
        refine lv_tableIn (tgt := 46) hx hb dX5_now_1 (by rw [c5]; decide) (by rw [c5]; decide) (by rw [c5]; rfl) (by decide) ?_
        refine lv_aload_n hx hb dX5_now_46 rfl (lv_at hl 0 rfl) ?_
        refine lv_iconst (v := 5) hx hb dX5_now_47 (by decide) ?_
        obtain ⟨x6, g7, h⟩ := bd_ex h
        refine c_V (As := [.int (5 : Int32)]) (rest := []) (w' := (MC g q d)) cx hw (c_X5_allOf l g q N (5 : Int32) d x6 g7) (cl_X5_163 cx.1.2.2.2.2 ⟨Nat.le_of_ble_eq_true rfl, Nat.le_of_ble_eq_true rfl⟩) (x_recv cx hw (ci := 5) rfl 0 rfl) (Ct.all (MC_ll ..)) hl.1 rfl rfl (Nat.le_of_ble_eq_true rfl) dX5_now_48 ⟨Nat.le_of_ble_eq_true rfl, Nat.le_of_ble_eq_true rfl⟩ (st1 := [.int x6]) rfl (fun H locs hw => ?_)
        exact r_i cx hr hlocks hw (pr1 h) (congrArg (fun z0 => (MC g q z0)) (pr2 h)) dX5_now_51
      · replace h := ite_f c5 h
        by_cases c8 : p1 = 3
        · replace h := ite_t c8 h
          refine lv_tableIn (tgt := 52) hx hb dX5_now_1 (by rw [c8]; decide) (by rw [c8]; decide) (by rw [c8]; rfl) (by decide) ?_
          refine lv_aload_n hx hb dX5_now_52 rfl (lv_at hl 0 rfl) ?_
          refine lv_iconst (v := 2) hx hb dX5_now_53 (by decide) ?_
          obtain ⟨x9, g10, h⟩ := bd_ex h
          refine c_V (As := [.int (2 : Int32)]) (rest := []) (w' := (MC g q d)) cx hw (c_X5_allOf l g q N (2 : Int32) d x9 g10) (cl_X5_163 cx.1.2.2.2.2 ⟨Nat.le_of_ble_eq_true rfl, Nat.le_of_ble_eq_true rfl⟩) (x_recv cx hw (ci := 5) rfl 0 rfl) (Ct.all (MC_ll ..)) hl.1 rfl rfl (Nat.le_of_ble_eq_true rfl) dX5_now_54 ⟨Nat.le_of_ble_eq_true rfl, Nat.le_of_ble_eq_true rfl⟩ (st1 := [.int x9]) rfl (fun H locs hw => ?_)
          exact r_i cx hr hlocks hw (pr1 h) (congrArg (fun z0 => (MC g q z0)) (pr2 h)) dX5_now_57
        · replace h := ite_f c8 h
          have tc1 : (p1).toInt ≠ 0 := fun e => c1 (Int32.toInt_inj.mp (e.trans (by decide)))
          have tc3 : (p1).toInt ≠ 1 := fun e => c3 (Int32.toInt_inj.mp (e.trans (by decide)))
          have tc5 : (p1).toInt ≠ 2 := fun e => c5 (Int32.toInt_inj.mp (e.trans (by decide)))
          have tc8 : (p1).toInt ≠ 3 := fun e => c8 (Int32.toInt_inj.mp (e.trans (by decide)))
          refine lv_tableOut (tgt := 58) hx hb dX5_now_1 (by omega) (by decide) ?_
          refine lv_aload_n hx hb dX5_now_58 rfl (lv_at hl 0 rfl) ?_
          refine lv_ldc hx hb cx.1.2.2.2.1 (cx.1.2.2.2.2 _ tw_4_79) dX5_now_59 ?_
          obtain ⟨x11, d12, g13, h⟩ := bd2_ex h
          refine c_V (As := [.int (-1000000001 : Int32)]) (rest := []) (w' := (MC g q d12)) cx hw (c_X5_finds l g q N (-1000000001 : Int32) d x11 d12 g13) (cl_X5_62 cx.1.2.2.2.2 ⟨Nat.le_of_ble_eq_true rfl, Nat.le_of_ble_eq_true rfl⟩) (x_recv cx hw (ci := 5) rfl 0 rfl) (Ct.all (MC_ll ..)) hl.1 rfl rfl (Nat.le_of_ble_eq_true rfl) dX5_now_61 ⟨Nat.le_of_ble_eq_true rfl, Nat.le_of_ble_eq_true rfl⟩ (st1 := [.int x11]) rfl (fun H locs hw => ?_)
          exact r_i cx hr hlocks hw (pr1 h) (congrArg (fun z0 => (MC g q z0)) (pr2 h)) dX5_now_64
set_option maxHeartbeats 4000000 in
set_option maxRecDepth 100000 in
theorem c_X5_laysBy (l : Launch) (g : gE) (q : Nat → Nat) (N : Nat)  (d : MD) (d' : MD) (h : f_X5_laysBy N  d = some d') : MO l yX5_laysBy (Cond.code yX5_laysBy cX5_laysBy 1 none :: TB) rm_X5_laysBy [.ref (q 0)] g ((MC g q d)) ((MC g q d')) none 0 0 := by
  refine MO.of (cc := cX5_laysBy) (maxL := 1) (ret := none) (by decide) ?_
  intro p e s m below meth c cx hw hr hlocks _
  have hx := cx.1.1
  have hb := cx.1.2.1
  refine en_go (lv := [(0, .ref (q 0))]) (Nat.le_of_ble_eq_true rfl) rfl (fun ls hl => ?_)
  unfold f_X5_laysBy at h
  refine lv_aload_n hx hb dX5_laysBy_0 rfl (lv_at hl 0 rfl) ?_
  refine gf_X5_7 cx hw 0 rfl rfl dX5_laysBy_1 ?_
  refine lv_aload_n hx hb dX5_laysBy_4 rfl (lv_at hl 0 rfl) ?_
  refine gf_X5_16 cx hw 0 rfl rfl dX5_laysBy_5 ?_
  obtain ⟨f1, g2, h⟩ := bd_ex h
  refine c_S (As := [.ref (q 1), .ref (q 3)]) (rest := []) (w' := (MC g q (m_set_close d f1))) cx hw (c_X5_copyRow l g (q 1) (q 3) N  (m_s d) (m_close d) f1 g2) (cl_X5_166 cx.1.2.2.2.2 ⟨Nat.le_of_ble_eq_true rfl, Nat.le_of_ble_eq_true rfl⟩) (ct_M__1_3__A_A_1 g q d f1) hl.1 rfl rfl (Nat.le_of_ble_eq_true rfl) dX5_laysBy_8 ⟨Nat.le_of_ble_eq_true rfl, Nat.le_of_ble_eq_true rfl⟩ (st1 := []) rfl (fun H locs hw => ?_)
  obtain ⟨d3, ed3, h⟩ := lt_ex h
  have hw : Wd g (va_A ((MC g q d)) s.heap.size) ((MC g q d3)) s H locs := by rw [ed3]; exact hw
  exact r_v cx hr hlocks hw (congrArg (fun z0 => (MC g q z0)) (sm_eq h)) dX5_laysBy_11
set_option maxHeartbeats 4000000 in
set_option maxRecDepth 100000 in
theorem c_X5_laysBack (l : Launch) (g : gE) (q : Nat → Nat) (N : Nat)  (d : MD) (d' : MD) (h : f_X5_laysBack N  d = some d') : MO l yX5_laysBack (Cond.code yX5_laysBack cX5_laysBack 1 none :: TB) rm_X5_laysBack [.ref (q 0)] g ((MC g q d)) ((MC g q d')) none 0 0 := by
  refine MO.of (cc := cX5_laysBack) (maxL := 1) (ret := none) (by decide) ?_
  intro p e s m below meth c cx hw hr hlocks _
  have hx := cx.1.1
  have hb := cx.1.2.1
  refine en_go (lv := [(0, .ref (q 0))]) (Nat.le_of_ble_eq_true rfl) rfl (fun ls hl => ?_)
  unfold f_X5_laysBack at h
  refine lv_aload_n hx hb dX5_laysBack_0 rfl (lv_at hl 0 rfl) ?_
  refine gf_X5_16 cx hw 0 rfl rfl dX5_laysBack_1 ?_
  refine lv_aload_n hx hb dX5_laysBack_4 rfl (lv_at hl 0 rfl) ?_
  refine gf_X5_7 cx hw 0 rfl rfl dX5_laysBack_5 ?_
  obtain ⟨f1, g2, h⟩ := bd_ex h
  refine c_S (As := [.ref (q 3), .ref (q 1)]) (rest := []) (w' := (MC g q (m_set_s d f1))) cx hw (c_X5_copyRow l g (q 3) (q 1) N  (m_close d) (m_s d) f1 g2) (cl_X5_166 cx.1.2.2.2.2 ⟨Nat.le_of_ble_eq_true rfl, Nat.le_of_ble_eq_true rfl⟩) (ct_M__3_1__A_A_1 g q d f1) hl.1 rfl rfl (Nat.le_of_ble_eq_true rfl) dX5_laysBack_8 ⟨Nat.le_of_ble_eq_true rfl, Nat.le_of_ble_eq_true rfl⟩ (st1 := []) rfl (fun H locs hw => ?_)
  obtain ⟨d3, ed3, h⟩ := lt_ex h
  have hw : Wd g (va_A ((MC g q d)) s.heap.size) ((MC g q d3)) s H locs := by rw [ed3]; exact hw
  exact r_v cx hr hlocks hw (congrArg (fun z0 => (MC g q z0)) (sm_eq h)) dX5_laysBack_11
set_option maxHeartbeats 4000000 in
set_option maxRecDepth 100000 in
theorem c_X5_barsOn (l : Launch) (g : gE) (q : Nat → Nat) (N : Nat) (p1 : Int32) (d : MD) (r : Int32) (h : f_X5_barsOn N  p1 d = some r) : MO l yX5_barsOn (Cond.code yX5_barsOn cX5_barsOn 2 (some .int) :: TB) rm_X5_barsOn [.ref (q 0), .int p1] g ((MC g q d)) ((MC g q d)) (some (.int r)) 0 0 := by
  refine MO.of (cc := cX5_barsOn) (maxL := 2) (ret := (some .int)) (by decide) ?_
  intro p e s m below meth c cx hw hr hlocks _
  have hx := cx.1.1
  have hb := cx.1.2.1
  refine en_go (lv := [(0, .ref (q 0)), (1, .int p1)]) (Nat.le_of_ble_eq_true rfl) rfl (fun ls hl => ?_)
  unfold f_X5_barsOn at h
  refine lv_iload_n hx hb dX5_barsOn_0 rfl (lv_at hl 1 rfl) ?_
  refine lv_i2l hx hb dX5_barsOn_1 rfl ?_
  refine lv_lconst (v := 0) hx hb dX5_barsOn_2 (by decide) ?_
  refine lv_ldc2 hx hb cx.1.2.2.2.1 (cx.1.2.2.2.2 _ tw_4_224) dX5_barsOn_3 ?_
  obtain ⟨x1, g2, h⟩ := bd_ex h
  refine c_S (As := [.long ((p1).toInt64), .long (0 : Int64), .long (100 : Int64)]) (rest := []) (w' := (MC g q d)) cx hw (c_X5_isIn l g  N ((p1).toInt64) (0 : Int64) (100 : Int64)  x1 g2) (cl_X5_54 cx.1.2.2.2.2 ⟨Nat.le_of_ble_eq_true rfl, Nat.le_of_ble_eq_true rfl⟩) Ct.nil hl.1 rfl rfl (Nat.le_of_ble_eq_true rfl) dX5_barsOn_6 ⟨Nat.le_of_ble_eq_true rfl, Nat.le_of_ble_eq_true rfl⟩ (st1 := [.int x1]) rfl (fun H locs hw => ?_)
  refine lv_if_ne (tgt := 17) hx hb dX5_barsOn_9 (by decide) (fun c3 => ?_) (fun c3 => ?_)
  · replace h := ite_f c3 h
    refine lv_aload_n hx hb dX5_barsOn_17 rfl (lv_at hl 0 rfl) ?_
    refine lv_iload_n hx hb dX5_barsOn_18 rfl (lv_at hl 1 rfl) ?_
    obtain ⟨x4, g5, h⟩ := bd_ex h
    refine c_V (As := [.int p1]) (rest := []) (w' := (MC g q d)) cx hw (c_X5_isFar l g q N p1 d x4 g5) (cl_X5_156 cx.1.2.2.2.2 ⟨Nat.le_of_ble_eq_true rfl, Nat.le_of_ble_eq_true rfl⟩) (x_recv cx hw (ci := 5) rfl 0 rfl) (Ct.all (MC_ll ..)) hl.1 rfl rfl (Nat.le_of_ble_eq_true rfl) dX5_barsOn_19 ⟨Nat.le_of_ble_eq_true rfl, Nat.le_of_ble_eq_true rfl⟩ (st1 := [.int x4]) rfl (fun H locs hw => ?_)
    refine lv_if_eq (tgt := 30) hx hb dX5_barsOn_22 (by decide) (fun c6 => ?_) (fun c6 => ?_)
    · replace h := ite_t c6 h
      refine lv_iconst (v := 0) hx hb dX5_barsOn_30 (by decide) ?_
      exact r_i cx hr hlocks hw (sm_eq h) rfl dX5_barsOn_31
    · replace h := ite_f c6 h
      refine lv_ldc hx hb cx.1.2.2.2.1 (cx.1.2.2.2.2 _ tw_4_229) dX5_barsOn_25 ?_
      refine lv_goto (tgt := 31) hx hb dX5_barsOn_27 (by decide) ?_
      exact r_i cx hr hlocks hw (sm_eq h) rfl dX5_barsOn_31
  · replace h := ite_t c3 h
    refine lv_ldc hx hb cx.1.2.2.2.1 (cx.1.2.2.2.2 _ tw_4_79) dX5_barsOn_12 ?_
    refine lv_goto (tgt := 31) hx hb dX5_barsOn_14 (by decide) ?_
    exact r_i cx hr hlocks hw (sm_eq h) rfl dX5_barsOn_31
set_option maxHeartbeats 4000000 in
set_option maxRecDepth 100000 in
theorem c_X5_on (l : Launch) (g : gE) (q : Nat → Nat) (N : Nat) (p1 : Int32) (p2 : Int32) (d : MD) (r : Int32) (d' : MD) (h : f_X5_on N  p1 p2 d = some (r, d')) : MO l yX5_on (Cond.code yX5_on cX5_on 6 (some .int) :: TB) rm_X5_on [.ref (q 0), .int p1, .int p2] g ((MC g q d)) ((MC g q d')) (some (.int r)) 0 0 := by
  refine MO.of (cc := cX5_on) (maxL := 6) (ret := (some .int)) (by decide) ?_
  intro p e s m below meth c cx hw hr hlocks _
  have hx := cx.1.1
  have hb := cx.1.2.1
  refine en_go (lv := [(0, .ref (q 0)), (1, .int p1), (2, .int p2)]) (Nat.le_of_ble_eq_true rfl) rfl (fun ls hl => ?_)
  have J18 : ∀ (a1 : Int32) (a2 : Int32) (t0 : Int32) (d_ : MD) (H : Heap) (locs : List Loc) (ls : Array Slot), Wd g (va_A ((MC g q d)) s.heap.size) ((MC g q d_)) s H locs → lv_has ls 6 [(0, .ref (q 0)), (1, .int a1), (2, .int a2)] → f_X5_on_J18 N   a1 a2 t0 d_ = some (r, d') → W p l e rm_X5_on s m ([.ref (q 0), .int p1, .int p2] : List Value).toArray below meth c H locs 0 0 (MQ below (QO (some (.int r)) g ((MC g q d')) (va_A ((MC g q d)) s.heap.size)) ([.ref (q 0), .int p1, .int p2] : List Value).toArray s 0 0 (va_A ((MC g q d)) s.heap.size)) (F0 m 18 ls [.int t0]) := by
    intro a1 a2 t0 d_ H locs ls hw hl h
    unfold f_X5_on_J18 at h
    refine lv_istore_n (lv' := [(3, .int t0), (0, .ref (q 0)), (1, .int a1), (2, .int a2)]) hx hb dX5_on_18 rfl hl (by decide) rfl (fun ls hl => ?_)
    refine lv_iload_n hx hb dX5_on_19 rfl (lv_at hl 0 rfl) ?_
    refine lv_if_eq (tgt := 29) hx hb dX5_on_20 (by decide) (fun c19 => ?_) (fun c19 => ?_)
    · replace h := ite_t c19 h
      refine lv_aload_n hx hb dX5_on_29 rfl (lv_at hl 1 rfl) ?_
      obtain ⟨d20, g21, h⟩ := bd_ex h
      refine c_V (As := []) (rest := []) (w' := (MC g q d20)) cx hw (c_X5_laysBy l g q N  d_ d20 g21) (cl_X5_173 cx.1.2.2.2.2 ⟨Nat.le_of_ble_eq_true rfl, Nat.le_of_ble_eq_true rfl⟩) (x_recv cx hw (ci := 5) rfl 0 rfl) (Ct.all (MC_ll ..)) hl.1 rfl rfl (Nat.le_of_ble_eq_true rfl) dX5_on_30 ⟨Nat.le_of_ble_eq_true rfl, Nat.le_of_ble_eq_true rfl⟩ (st1 := []) rfl (fun H locs hw => ?_)
      refine lv_aload_n hx hb dX5_on_33 rfl (lv_at hl 1 rfl) ?_
      refine lv_iload_n hx hb dX5_on_34 rfl (lv_at hl 3 rfl) ?_
      obtain ⟨x22, d23, g24, h⟩ := bd2_ex h
      refine c_V (As := [.int a2]) (rest := []) (w' := (MC g q d23)) cx hw (c_X5_goesOnMany l g q N a2 d20 x22 d23 g24) (cl_X5_160 cx.1.2.2.2.2 ⟨Nat.le_of_ble_eq_true rfl, Nat.le_of_ble_eq_true rfl⟩) (x_recv cx hw (ci := 5) rfl 0 rfl) (Ct.all (MC_ll ..)) hl.1 rfl rfl (Nat.le_of_ble_eq_true rfl) dX5_on_35 ⟨Nat.le_of_ble_eq_true rfl, Nat.le_of_ble_eq_true rfl⟩ (st1 := [.int x22]) rfl (fun H locs hw => ?_)
      refine lv_istore (lv' := [(4, .int x22), (3, .int t0), (0, .ref (q 0)), (1, .int a1), (2, .int a2)]) hx hb dX5_on_38 hl (by decide) rfl (fun ls hl => ?_)
      refine lv_aload_n hx hb dX5_on_40 rfl (lv_at hl 2 rfl) ?_
      refine lv_iload_n hx hb dX5_on_41 rfl (lv_at hl 3 rfl) ?_
      refine lv_iconst (v := 2) hx hb dX5_on_42 (by decide) ?_
      obtain ⟨x25, g26, h⟩ := bd_ex h
      refine c_V (As := [.int a1, .int (2 : Int32)]) (rest := []) (w' := (MC g q d23)) cx hw (c_X5_is l g q N a1 (2 : Int32) d23 x25 g26) (cl_X5_47 cx.1.2.2.2.2 ⟨Nat.le_of_ble_eq_true rfl, Nat.le_of_ble_eq_true rfl⟩) (x_recv cx hw (ci := 5) rfl 0 rfl) (Ct.all (MC_ll ..)) hl.1 rfl rfl (Nat.le_of_ble_eq_true rfl) dX5_on_43 ⟨Nat.le_of_ble_eq_true rfl, Nat.le_of_ble_eq_true rfl⟩ (st1 := [.int x25]) rfl (fun H locs hw => ?_)
      refine lv_istore (lv' := [(5, .int x25), (4, .int x22), (3, .int t0), (0, .ref (q 0)), (1, .int a1), (2, .int a2)]) hx hb dX5_on_46 hl (by decide) rfl (fun ls hl => ?_)
      refine lv_aload_n hx hb dX5_on_48 rfl (lv_at hl 3 rfl) ?_
      obtain ⟨d27, g28, h⟩ := bd_ex h
      refine c_V (As := []) (rest := []) (w' := (MC g q d27)) cx hw (c_X5_laysBack l g q N  d23 d27 g28) (cl_X5_176 cx.1.2.2.2.2 ⟨Nat.le_of_ble_eq_true rfl, Nat.le_of_ble_eq_true rfl⟩) (x_recv cx hw (ci := 5) rfl 0 rfl) (Ct.all (MC_ll ..)) hl.1 rfl rfl (Nat.le_of_ble_eq_true rfl) dX5_on_49 ⟨Nat.le_of_ble_eq_true rfl, Nat.le_of_ble_eq_true rfl⟩ (st1 := []) rfl (fun H locs hw => ?_)
      refine lv_iload hx hb dX5_on_52 (lv_at hl 0 rfl) ?_
      exact r_i cx hr hlocks hw (pr1 h) (congrArg (fun z0 => (MC g q z0)) (pr2 h)) dX5_on_54
    · replace h := ite_f c19 h
      refine lv_aload_n hx hb dX5_on_23 rfl (lv_at hl 1 rfl) ?_
      refine lv_iload_n hx hb dX5_on_24 rfl (lv_at hl 0 rfl) ?_
      obtain ⟨x29, d30, g31, h⟩ := bd2_ex h
      refine c_V (As := [.int t0]) (rest := []) (w' := (MC g q d30)) cx hw (c_X5_finds l g q N t0 d_ x29 d30 g31) (cl_X5_62 cx.1.2.2.2.2 ⟨Nat.le_of_ble_eq_true rfl, Nat.le_of_ble_eq_true rfl⟩) (x_recv cx hw (ci := 5) rfl 0 rfl) (Ct.all (MC_ll ..)) hl.1 rfl rfl (Nat.le_of_ble_eq_true rfl) dX5_on_25 ⟨Nat.le_of_ble_eq_true rfl, Nat.le_of_ble_eq_true rfl⟩ (st1 := [.int x29]) rfl (fun H locs hw => ?_)
      exact r_i cx hr hlocks hw (pr1 h) (congrArg (fun z0 => (MC g q z0)) (pr2 h)) dX5_on_28
  unfold f_X5_on at h
  refine lv_aload_n hx hb dX5_on_0 rfl (lv_at hl 0 rfl) ?_
  refine lv_iload_n hx hb dX5_on_1 rfl (lv_at hl 1 rfl) ?_
  obtain ⟨x1, g2, h⟩ := bd_ex h
  refine c_V (As := [.int p1]) (rest := []) (w' := (MC g q d)) cx hw (c_X5_isOne l g q N p1 d x1 g2) (cl_X5_43 cx.1.2.2.2.2 ⟨Nat.le_of_ble_eq_true rfl, Nat.le_of_ble_eq_true rfl⟩) (x_recv cx hw (ci := 5) rfl 0 rfl) (Ct.all (MC_ll ..)) hl.1 rfl rfl (Nat.le_of_ble_eq_true rfl) dX5_on_2 ⟨Nat.le_of_ble_eq_true rfl, Nat.le_of_ble_eq_true rfl⟩ (st1 := [.int x1]) rfl (fun H locs hw => ?_)
  refine lv_if_eq (tgt := 16) hx hb dX5_on_5 (by decide) (fun c3 => ?_) (fun c3 => ?_)
  · replace h := ite_t c3 h
    refine lv_ldc hx hb cx.1.2.2.2.1 (cx.1.2.2.2.2 _ tw_4_79) dX5_on_16 ?_
    exact J18 p1 p2 (-1000000001 : Int32) d _ _ _ hw (lv_sub hl [0, 1, 2] rfl) h
  · replace h := ite_f c3 h
    refine lv_aload_n hx hb dX5_on_8 rfl (lv_at hl 0 rfl) ?_
    refine lv_iload_n hx hb dX5_on_9 rfl (lv_at hl 2 rfl) ?_
    obtain ⟨x4, g5, h⟩ := bd_ex h
    refine c_V (As := [.int p2]) (rest := []) (w' := (MC g q d)) cx hw (c_X5_barsOn l g q N p2 d x4 g5) (cl_X5_170 cx.1.2.2.2.2 ⟨Nat.le_of_ble_eq_true rfl, Nat.le_of_ble_eq_true rfl⟩) (x_recv cx hw (ci := 5) rfl 0 rfl) (Ct.all (MC_ll ..)) hl.1 rfl rfl (Nat.le_of_ble_eq_true rfl) dX5_on_10 ⟨Nat.le_of_ble_eq_true rfl, Nat.le_of_ble_eq_true rfl⟩ (st1 := [.int x4]) rfl (fun H locs hw => ?_)
    refine lv_goto (tgt := 18) hx hb dX5_on_13 (by decide) ?_
    exact J18 p1 p2 x4 d _ _ _ hw (lv_sub hl [0, 1, 2] rfl) h
