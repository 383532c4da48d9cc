def f_X5_living (N : Nat)  (p1 : Int32) (d : MD) : Option (Int32 × MD) :=
  (f_X5_barsOn N p1 d).bind fun x1 =>
  if x1 = 0 then
    (f_X5_laysBy N d).bind fun d4 =>
    bd2 (f_X5_goesOnMany N p1 d4) fun x6 d7 =>
    (f_X5_livingSet N d7).bind fun x9 =>
    (f_X5_laysBack N d7).bind fun d11 =>
    some (x9, d11)
  else
    (f_X5_barsOn N p1 d).bind fun x13 =>
    bd2 (f_X5_finds N x13 d) fun x15 d16 =>
    some (x15, d16)
def f_X5_rich (N : Nat)  (p1 : Int32) (d : MD) : Option (Int32 × MD) :=
  (f_X5_barsOn N p1 d).bind fun x1 =>
  if x1 = 0 then
    (f_X5_laysBy N d).bind fun d4 =>
    bd2 (f_X5_goesOnMany N p1 d4) fun x6 d7 =>
    (f_X5_richestBut N (-1 : Int32) d7).bind fun x9 =>
    (f_X5_laysBack N d7).bind fun d11 =>
    if 0 ≤ x9 then
      some (x9, d11)
    else
      bd2 (f_X5_finds N (-1000000004 : Int32) d11) fun x14 d15 =>
      some (x14, d15)
  else
    (f_X5_barsOn N p1 d).bind fun x17 =>
    bd2 (f_X5_finds N x17 d) fun x19 d20 =>
    some (x19, d20)
def f_X5_when_J87 (N : Nat)   (a2 : Int32) (d_ : MD) : Option (Int32 × MD) :=
  (f_X5_laysBack N d_).bind fun d28 =>
  if 0 ≤ a2 then
    some (a2, d28)
  else
    bd2 (f_X5_finds N (-1000000004 : Int32) d28) fun x31 d32 =>
    some (x31, d32)
def f_X5_when_L51 (N : Nat)   : Nat → Int32 → Int32 → Int32 → MD → Option (Int32 × MD)
  | 0, _, _, _, _ => none
  | n51 + 1, a1, a2, a3, d_ =>
  if (100 : Int32) < a3 then
    f_X5_when_J87 N   a2 d_
  else
    if 0 ≤ a2 then
      f_X5_when_J87 N   a2 d_
    else
      bd2 (f_X5_goesOn N d_) fun x20 d21 =>
      (f_X5_lives N a1 d21).bind fun x23 =>
      if x23 = 0 then
        lt (a3 + 1) fun x26 =>
        f_X5_when_L51 N   n51 a1 a3 x26 d21
      else
        lt (a3 + 1) fun x27 =>
        f_X5_when_L51 N   n51 a1 (-1 : Int32) x27 d21
def f_X5_when (N : Nat)  (p1 : Int32) (d : MD) : Option (Int32 × MD) :=
  (f_X5_isOne N p1 d).bind fun x1 =>
  if x1 = 0 then
    bd2 (f_X5_finds N (-1000000001 : Int32) d) fun x15 d16 =>
    some (x15, d16)
  else
    (f_X5_isFar N (100 : Int32) d).bind fun x4 =>
    if x4 = 0 then
      (f_X5_laysBy N d).bind fun d7 =>
      (f_X5_lives N p1 d7).bind fun x9 =>
      if x9 = 0 then
        f_X5_when_L51 N   N p1 (0 : Int32) (1 : Int32) d7
      else
        f_X5_when_L51 N   N p1 (-1 : Int32) (1 : Int32) d7
    else
      bd2 (f_X5_finds N (-1000000005 : Int32) d) fun x12 d13 =>
      some (x12, d13)
def f_X5_gets_J82 (N : Nat)   (d_ : MD) : Option (Int32 × MD) :=
  lt (m_set_asked d_ (-1 : Int32)) fun d29 =>
  (f_X5_laysBack N d29).bind fun d30 =>
  if (m_noted d30) = (-2 : Int32) then
    bd2 (f_X5_finds N (-1000000004 : Int32) d30) fun x33 d34 =>
    some (x33, d34)
  else
    some ((m_noted d30), d30)
def f_X5_gets_L56 (N : Nat)   : Nat → Int32 → MD → Option (Int32 × MD)
  | 0, _, _ => none
  | n56 + 1, a2, d_ =>
  if (100 : Int32) < a2 then
    f_X5_gets_J82 N   d_
  else
    if (m_noted d_) = (-2 : Int32) then
      bd2 (f_X5_goesOn N d_) fun x25 d26 =>
      lt (a2 + 1) fun x28 =>
      f_X5_gets_L56 N   n56 x28 d26
    else
      f_X5_gets_J82 N   d_
def f_X5_gets (N : Nat)  (p1 : Int32) (d : MD) : Option (Int32 × MD) :=
  (f_X5_isOne N p1 d).bind fun x1 =>
  if x1 = 0 then
    bd2 (f_X5_finds N (-1000000001 : Int32) d) fun x20 d21 =>
    some (x20, d21)
  else
    (f_X5_lives N p1 d).bind fun x4 =>
    if x4 = 0 then
      bd2 (f_X5_finds N (-1000000005 : Int32) d) fun x7 d8 =>
      some (x7, d8)
    else
      (f_X5_isFar N (100 : Int32) d).bind fun x10 =>
      if x10 = 0 then
        (f_X5_laysBy N d).bind fun d13 =>
        lt (m_set_asked d13 p1) fun d15 =>
        lt (m_set_noted d15 (-2 : Int32)) fun d16 =>
        f_X5_gets_L56 N   N (1 : Int32) d16
      else
        bd2 (f_X5_finds N (-1000000005 : Int32) d) fun x17 d18 =>
        some (x17, d18)
def f_X5_leastChange_J64 (N : Nat)  (K3 : Int32 → Int32 → Int32 → Int32 → MD → Option (Int32 × MD)) (K25 : Int32 → Int32 → Int32 → Int32 → Int32 → Int32 → MD → Option (Int32 × MD)) (a1 : Int32) (a2 : Int32) (a3 : Int32) (a4 : Int32) (a5 : Int32) (a6 : Int32) (t0 : Int32) (d_ : MD) : Option (Int32 × MD) :=
  (f_X5_puts N a1 ((6 : Int32) + a4) a5 d_).bind fun d12 =>
  if t0 = 0 then
    lt (a6 + 1) fun x15 =>
    K25 a1 a2 a3 a4 a5 x15 d12
  else
    some ((((10 : Int32) * a4) + a6), d12)
def f_X5_leastChange_J63 (N : Nat)  (K3 : Int32 → Int32 → Int32 → Int32 → MD → Option (Int32 × MD)) (K25 : Int32 → Int32 → Int32 → Int32 → Int32 → Int32 → MD → Option (Int32 × MD)) (a1 : Int32) (a2 : Int32) (a3 : Int32) (a4 : Int32) (a5 : Int32) (a6 : Int32) (d_ : MD) : Option (Int32 × MD) :=
  f_X5_leastChange_J64 N  K3 K25 a1 a2 a3 a4 a5 a6 (0 : Int32) d_
def f_X5_leastChange_L25 (N : Nat)  (K3 : Int32 → Int32 → Int32 → Int32 → MD → Option (Int32 × MD)) : Nat → Int32 → Int32 → Int32 → Int32 → Int32 → Int32 → MD → Option (Int32 × MD)
  | 0, _, _, _, _, _, _, _ => none
  | n25 + 1, a1, a2, a3, a4, a5, a6, d_ =>
  if (4 : Int32) ≤ a6 then
    lt (a4 + 1) fun x5 =>
    K3 a1 a2 a3 x5 d_
  else
    (f_X5_puts N a1 ((6 : Int32) + a4) a6 d_).bind fun d6 =>
    if a6 = a5 then
      f_X5_leastChange_J63 N  K3 (f_X5_leastChange_L25 N  K3 n25) a1 a2 a3 a4 a5 a6 d6
    else
      (f_X5_heirFor N a2 d6).bind fun x9 =>
      if x9 = a3 then
        f_X5_leastChange_J64 N  K3 (f_X5_leastChange_L25 N  K3 n25) a1 a2 a3 a4 a5 a6 (1 : Int32) d6
      else
        f_X5_leastChange_J63 N  K3 (f_X5_leastChange_L25 N  K3 n25) a1 a2 a3 a4 a5 a6 d6
def f_X5_leastChange_L3 (N : Nat)   : Nat → Int32 → Int32 → Int32 → Int32 → MD → Option (Int32 × MD)
  | 0, _, _, _, _, _ => none
  | n3 + 1, a1, a2, a3, a4, d_ =>
  if (9 : Int32) ≤ a4 then
    some ((-1 : Int32), d_)
  else
    (f_X5_is N a1 ((6 : Int32) + a4) d_).bind fun x2 =>
    f_X5_leastChange_L25 N  (f_X5_leastChange_L3 N   n3) N a1 a2 a3 a4 x2 (0 : Int32) d_
def f_X5_leastChange (N : Nat)  (p1 : Int32) (p2 : Int32) (p3 : Int32) (d : MD) : Option (Int32 × MD) :=
  f_X5_leastChange_L3 N   N p1 p2 p3 (0 : Int32) d
def f_X5_change (N : Nat)  (p1 : Int32) (p2 : Int32) (d : MD) : Option (Int32 × MD) :=
  (f_X5_areTwo N p1 p2 d).bind fun x1 =>
  if x1 = 0 then
    bd2 (f_X5_finds N (-1000000001 : Int32) d) fun x23 d24 =>
    some (x23, d24)
  else
    (f_X5_lives N p1 d).bind fun x4 =>
    if x4 = 0 then
      bd2 (f_X5_finds N (-1000000005 : Int32) d) fun x7 d8 =>
      some (x7, d8)
    else
      (f_X5_heirFor N p2 d).bind fun x10 =>
      if x10 = p1 then
        bd2 (f_X5_finds N (-1000000005 : Int32) d) fun x20 d21 =>
        some (x20, d21)
      else
        bd2 (f_X5_leastChange N p1 p2 p1 d) fun x13 d14 =>
        if 0 ≤ x13 then
          some (x13, d14)
        else
          bd2 (f_X5_finds N (-1000000004 : Int32) d14) fun x17 d18 =>
          some (x17, d18)
def f_X5_manyIn_L4 (N : Nat)   : Nat → Int32 → Int32 → Option (Int32)
  | 0, _, _ => none
  | n4 + 1, a1, a2 =>
  if a2 = 0 then
    some a1
  else
    lt (a1 + 1) fun x2 =>
    lt (a2 &&& (a2 - (1 : Int32))) fun x3 =>
    f_X5_manyIn_L4 N   n4 x2 x3
def f_X5_manyIn (N : Nat)  (p0 : Int32)  : Option (Int32) :=
  f_X5_manyIn_L4 N   N (0 : Int32) p0
def f_X5_isHeirBy_L7 (N : Nat)   : Nat → Int32 → Int32 → Int32 → Int32 → MD → Option (Int32 × MD)
  | 0, _, _, _, _, _ => none
  | n7 + 1, a1, a2, a3, a4, d_ =>
  if (9 : Int32) ≤ a4 then
    (f_X5_heirFor N a2 d_).bind fun x4 =>
    if x4 = a1 then
      (f_X5_laysBack N d_).bind fun d9 =>
      some ((1 : Int32), d9)
    else
      (f_X5_laysBack N d_).bind fun d7 =>
      some ((0 : Int32), d7)
  else
    if ((a3 >>> (a4 &&& 31)) &&& (1 : Int32)) = (1 : Int32) then
      (f_X5_is N a2 ((6 : Int32) + a4) d_).bind fun x13 =>
      (f_X5_puts N a1 ((6 : Int32) + a4) x13 d_).bind fun d15 =>
      lt (a4 + 1) fun x17 =>
      f_X5_isHeirBy_L7 N   n7 a1 a2 a3 x17 d15
    else
      lt (a4 + 1) fun x12 =>
      f_X5_isHeirBy_L7 N   n7 a1 a2 a3 x12 d_
def f_X5_isHeirBy (N : Nat)  (p1 : Int32) (p2 : Int32) (p3 : Int32) (d : MD) : Option (Int32 × MD) :=
  (f_X5_laysBy N d).bind fun d1 =>
  f_X5_isHeirBy_L7 N   N p1 p2 p3 (0 : Int32) d1
def f_X5_fewest_L37 (N : Nat)   : Nat → Int32 → Int32 → Int32 → Int32 → MD → Option (Int32 × MD)
  | 0, _, _, _, _, _ => none
  | n37 + 1, a1, a2, a3, a4, d_ =>
  if (512 : Int32) ≤ a4 then
    if a3 ≤ (9 : Int32) then
      some (a3, d_)
    else
      bd2 (f_X5_finds N (-1000000004 : Int32) d_) fun x15 d16 =>
      some (x15, d16)
  else
    (f_X5_manyIn N a4).bind fun x18 =>
    if a3 ≤ x18 then
      lt (a4 + 1) fun x21 =>
      f_X5_fewest_L37 N   n37 a1 a2 a3 x21 d_
    else
      bd2 (f_X5_isHeirBy N a1 a2 a4 d_) fun x22 d23 =>
      if x22 = 0 then
        lt (a4 + 1) fun x26 =>
        f_X5_fewest_L37 N   n37 a1 a2 a3 x26 d23
      else
        (f_X5_manyIn N a4).bind fun x27 =>
        lt (a4 + 1) fun x29 =>
        f_X5_fewest_L37 N   n37 a1 a2 x27 x29 d23
def f_X5_fewest (N : Nat)  (p1 : Int32) (p2 : Int32) (d : MD) : Option (Int32 × MD) :=
  (f_X5_areTwo N p1 p2 d).bind fun x1 =>
  if x1 = 0 then
    bd2 (f_X5_finds N (-1000000001 : Int32) d) fun x10 d11 =>
    some (x10, d11)
  else
    (f_X5_lives N p1 d).bind fun x4 =>
    if x4 = 0 then
      bd2 (f_X5_finds N (-1000000005 : Int32) d) fun x7 d8 =>
      some (x7, d8)
    else
      f_X5_fewest_L37 N   N p1 p2 (10 : Int32) (0 : Int32) d
def f_X5_goodsTo_L11 (N : Nat) (d : MD)  : Nat → Int32 → Int32 → Int32 → Option (Int32)
  | 0, _, _, _ => none
  | n11 + 1, a2, a3, a4 =>
  (rd (m_s d) 201 (0 : Int32)).bind fun x3 =>
  if x3 ≤ a4 then
    some a3
  else
    if ((a2 >>> (a4 &&& 31)) &&& (1 : Int32)) = (1 : Int32) then
      (f_X5_is N a4 (2 : Int32) d).bind fun x8 =>
      lt (a3 + x8) fun x10 =>
      lt (a4 + 1) fun x11 =>
      f_X5_goodsTo_L11 N d  n11 a2 x10 x11
    else
      lt (a3 + (0 : Int32)) fun x6 =>
      lt (a4 + 1) fun x7 =>
      f_X5_goodsTo_L11 N d  n11 a2 x6 x7
def f_X5_goodsTo (N : Nat)  (p1 : Int32) (d : MD) : Option (Int32) :=
  (f_X5_heirsSet N p1 d).bind fun x1 =>
  f_X5_goodsTo_L11 N d  N x1 (0 : Int32) (0 : Int32)
def f_X5_worth (N : Nat)  (p1 : Int32) (p2 : Int32) (d : MD) : Option (Int32 × MD) :=
  (f_X5_isOne N p1 d).bind fun x1 =>
  if x1 = 0 then
    bd2 (f_X5_finds N (-1000000001 : Int32) d) fun x4 d5 =>
    some (x4, d5)
  else
    (f_X5_isMark N p2).bind fun x7 =>
    if x7 = 0 then
      bd2 (f_X5_finds N (-1000000001 : Int32) d) fun x20 d21 =>
      some (x20, d21)
    else
      (f_X5_goodsTo N p1 d).bind fun x10 =>
      (f_X5_is N p1 ((6 : Int32) + p2) d).bind fun x12 =>
      (f_X5_puts N p1 ((6 : Int32) + p2) ((x12 + (1 : Int32)) - (x12 + (1 : Int32)) / (4 : Int32) * (4 : Int32)) d).bind fun d14 =>
      (f_X5_goodsTo N p1 d14).bind fun x16 =>
      (f_X5_puts N p1 ((6 : Int32) + p2) x12 d14).bind fun d18 =>
      some ((x10 - x16), d18)
def f_X5_best_J102 (N : Nat)  (K37 : Int32 → Int32 → Int32 → Int32 → MD → Option (Int32 × MD)) (K59 : Int32 → Int32 → Int32 → Int32 → Int32 → Int32 → MD → Option (Int32 × MD)) (a1 : Int32) (a3 : Int32) (a4 : Int32) (a5 : Int32) (a6 : Int32) (a7 : Int32) (t0 : Int32) (d_ : MD) : Option (Int32 × MD) :=
  if a7 ≤ a3 then
    lt (a6 + 1) fun x26 =>
    K59 a1 t0 a3 a4 a5 x26 d_
  else
    lt (a6 + 1) fun x27 =>
    K59 a1 t0 a7 a4 a5 x27 d_
def f_X5_best_L59 (N : Nat)  (K37 : Int32 → Int32 → Int32 → Int32 → MD → Option (Int32 × MD)) : Nat → Int32 → Int32 → Int32 → Int32 → Int32 → Int32 → MD → Option (Int32 × MD)
  | 0, _, _, _, _, _, _, _ => none
  | n59 + 1, a1, a2, a3, a4, a5, a6, d_ =>
  if (4 : Int32) ≤ a6 then
    (f_X5_puts N a1 ((6 : Int32) + a4) a5 d_).bind fun d17 =>
    lt (a4 + 1) fun x19 =>
    K37 a1 a2 a3 x19 d17
  else
    (f_X5_puts N a1 ((6 : Int32) + a4) a6 d_).bind fun d20 =>
    (f_X5_goodsTo N a1 d20).bind fun x22 =>
    if x22 ≤ a3 then
      f_X5_best_J102 N  K37 (f_X5_best_L59 N  K37 n59) a1 a3 a4 a5 a6 x22 a2 d20
    else
      f_X5_best_J102 N  K37 (f_X5_best_L59 N  K37 n59) a1 a3 a4 a5 a6 x22 (((10 : Int32) * a4) + a6) d20
def f_X5_best_L37 (N : Nat)   : Nat → Int32 → Int32 → Int32 → Int32 → MD → Option (Int32 × MD)
  | 0, _, _, _, _, _ => none
  | n37 + 1, a1, a2, a3, a4, d_ =>
  if (9 : Int32) ≤ a4 then
    some (a2, d_)
  else
    (f_X5_is N a1 ((6 : Int32) + a4) d_).bind fun x14 =>
    f_X5_best_L59 N  (f_X5_best_L37 N   n37) N a1 a2 a3 a4 x14 (0 : Int32) d_
def f_X5_best (N : Nat)  (p1 : Int32) (d : MD) : Option (Int32 × MD) :=
  (f_X5_isOne N p1 d).bind fun x1 =>
  if x1 = 0 then
    bd2 (f_X5_finds N (-1000000001 : Int32) d) fun x10 d11 =>
    some (x10, d11)
  else
    (f_X5_lives N p1 d).bind fun x4 =>
    if x4 = 0 then
      bd2 (f_X5_finds N (-1000000005 : Int32) d) fun x7 d8 =>
      some (x7, d8)
    else
      f_X5_best_L37 N   N p1 (0 : Int32) (-1 : Int32) (0 : Int32) d
def f_X5_steer (N : Nat)  (p1 : Int32) (p2 : Int32) (d : MD) : Option (Int32 × MD) :=
  (f_X5_areTwo N p1 p2 d).bind fun x1 =>
  if x1 = 0 then
    bd2 (f_X5_finds N (-1000000001 : Int32) d) fun x23 d24 =>
    some (x23, d24)
  else
    (f_X5_lives N p2 d).bind fun x4 =>
    if x4 = 0 then
      bd2 (f_X5_finds N (-1000000005 : Int32) d) fun x7 d8 =>
      some (x7, d8)
    else
      (f_X5_heirFor N p1 d).bind fun x10 =>
      if x10 = p2 then
        bd2 (f_X5_finds N (-1000000005 : Int32) d) fun x20 d21 =>
        some (x20, d21)
      else
        bd2 (f_X5_leastChange N p1 p1 p2 d) fun x13 d14 =>
        if 0 ≤ x13 then
          some (x13, d14)
        else
          bd2 (f_X5_finds N (-1000000004 : Int32) d14) fun x17 d18 =>
          some (x17, d18)
def f_X5_kind_J101 (N : Nat)  (K54 : Int32 → Int32 → Int32 → Int32 → Int32 → MD → Option (Int32 × MD)) (a1 : Int32) (a2 : Int32) (a4 : Int32) (a5 : Int32) (a7 : Int32) (t0 : Int32) (d_ : MD) : Option (Int32 × MD) :=
  if a7 ≤ a4 then
    lt (a5 + 1) fun x33 =>
    K54 a1 a2 t0 a4 x33 d_
  else
    lt (a5 + 1) fun x34 =>
    K54 a1 a2 t0 a7 x34 d_
def f_X5_kind_L54 (N : Nat)   : Nat → Int32 → Int32 → Int32 → Int32 → Int32 → MD → Option (Int32 × MD)
  | 0, _, _, _, _, _, _ => none
  | n54 + 1, a1, a2, a3, a4, a5, d_ =>
  if (6 : Int32) ≤ a5 then
    some (a3, d_)
  else
    (f_X5_puts N a1 (0 : Int32) a5 d_).bind fun d22 =>
    bd2 (f_X5_goesOnMany N a2 d22) fun x24 d25 =>
    (f_X5_is N a1 (2 : Int32) d25).bind fun x27 =>
    (f_X5_laysBack N d25).bind fun d29 =>
    if x27 ≤ a4 then
      f_X5_kind_J101 N  (f_X5_kind_L54 N   n54) a1 a2 a4 a5 x27 a3 d29
    else
      f_X5_kind_J101 N  (f_X5_kind_L54 N   n54) a1 a2 a4 a5 x27 a5 d29
def f_X5_kind (N : Nat)  (p1 : Int32) (p2 : Int32) (d : MD) : Option (Int32 × MD) :=
  (f_X5_isOne N p1 d).bind fun x1 =>
  if x1 = 0 then
    bd2 (f_X5_finds N (-1000000001 : Int32) d) fun x4 d5 =>
    some (x4, d5)
  else
    (f_X5_isIn N ((p2).toInt64) (1 : Int64) (100 : Int64)).bind fun x7 =>
    if x7 = 0 then
      bd2 (f_X5_finds N (-1000000001 : Int32) d) fun x18 d19 =>
      some (x18, d19)
    else
      (f_X5_isFar N p2 d).bind fun x10 =>
      if x10 = 0 then
        (f_X5_laysBy N d).bind fun d13 =>
        f_X5_kind_L54 N   N p1 p2 (0 : Int32) (-1 : Int32) (0 : Int32) d13
      else
        bd2 (f_X5_finds N (-1000000005 : Int32) d) fun x15 d16 =>
        some (x15, d16)
def f_X5_fair_J108 (N : Nat)  (K46 : Int32 → Int32 → Int32 → Int32 → MD → Option (Int32 × MD)) (a1 : Int32) (a3 : Int32) (a4 : Int32) (a7 : Int32) (t0 : Int32) (d_ : MD) : Option (Int32 × MD) :=
  if a3 ≤ a7 then
    lt (a4 + 1) fun x30 =>
    K46 a1 t0 a3 x30 d_
  else
    lt (a4 + 1) fun x31 =>
    K46 a1 t0 a7 x31 d_
def f_X5_fair_J90 (N : Nat)  (K46 : Int32 → Int32 → Int32 → Int32 → MD → Option (Int32 × MD)) (a1 : Int32) (a2 : Int32) (a3 : Int32) (a4 : Int32) (t0 : Int32) (d_ : MD) : Option (Int32 × MD) :=
  (f_X5_laysBack N d_).bind fun d26 =>
  if a3 ≤ t0 then
    f_X5_fair_J108 N  K46 a1 a3 a4 t0 a2 d26
  else
    f_X5_fair_J108 N  K46 a1 a3 a4 t0 a4 d26
def f_X5_fair_L46 (N : Nat)   : Nat → Int32 → Int32 → Int32 → Int32 → MD → Option (Int32 × MD)
  | 0, _, _, _, _, _ => none
  | n46 + 1, a1, a2, a3, a4, d_ =>
  if (3 : Int32) ≤ a4 then
    some (a2, d_)
  else
    (ck (2 : Int32) 201).bind fun _ =>
    lt (m_set_s d_ (upd (m_s d_) ((2 : Int32)).toNatClampNeg a4)) fun d17 =>
    bd2 (f_X5_goesOnMany N a1 d17) fun x18 d19 =>
    (f_X5_richestBut N (-1 : Int32) d19).bind fun x21 =>
    if 0 ≤ x21 then
      (f_X5_is N x21 (2 : Int32) d19).bind fun x24 =>
      f_X5_fair_J90 N  (f_X5_fair_L46 N   n46) a1 a2 a3 a4 x24 d19
    else
      f_X5_fair_J90 N  (f_X5_fair_L46 N   n46) a1 a2 a3 a4 (0 : Int32) d19
def f_X5_fair (N : Nat)  (p1 : Int32) (d : MD) : Option (Int32 × MD) :=
  (f_X5_isIn N ((p1).toInt64) (1 : Int64) (100 : Int64)).bind fun x1 =>
  if x1 = 0 then
    bd2 (f_X5_finds N (-1000000001 : Int32) d) fun x12 d13 =>
    some (x12, d13)
  else
    (f_X5_isFar N p1 d).bind fun x4 =>
    if x4 = 0 then
      (f_X5_laysBy N d).bind fun d7 =>
      f_X5_fair_L46 N   N p1 (0 : Int32) (1000000 : Int32) (0 : Int32) d7
    else
      bd2 (f_X5_finds N (-1000000005 : Int32) d) fun x9 d10 =>
      some (x9, d10)
def f_X5_ways_L51 (N : Nat)  (K40 : Int32 → Int32 → Int32 → Int32 → MD → Option (Int32 × MD)) : Nat → Int32 → Int32 → Int32 → Int32 → Int32 → MD → Option (Int32 × MD)
  | 0, _, _, _, _, _, _ => none
  | n51 + 1, a1, a2, a3, a4, a5, d_ =>
  if (6 : Int32) ≤ a5 then
    (f_X5_heirFor N a1 d_).bind fun x19 =>
    if x19 = a2 then
      lt (a3 + (1 : Int32)) fun x24 =>
      lt (a4 + 1) fun x25 =>
      K40 a1 a2 x24 x25 d_
    else
      lt (a3 + (0 : Int32)) fun x22 =>
      lt (a4 + 1) fun x23 =>
      K40 a1 a2 x22 x23 d_
  else
    (f_X5_puts N a1 ((6 : Int32) + a5) ((a4 >>> (((2 : Int32) * a5) &&& 31)) &&& (3 : Int32)) d_).bind fun d26 =>
    lt (a5 + 1) fun x28 =>
    f_X5_ways_L51 N  K40 n51 a1 a2 a3 a4 x28 d26
def f_X5_ways_L40 (N : Nat)   : Nat → Int32 → Int32 → Int32 → Int32 → MD → Option (Int32 × MD)
  | 0, _, _, _, _, _ => none
  | n40 + 1, a1, a2, a3, a4, d_ =>
  if (4096 : Int32) ≤ a4 then
    (f_X5_laysBack N d_).bind fun d16 =>
    some (a3, d16)
  else
    f_X5_ways_L51 N  (f_X5_ways_L40 N   n40) N a1 a2 a3 a4 (0 : Int32) d_
def f_X5_ways (N : Nat)  (p1 : Int32) (p2 : Int32) (d : MD) : Option (Int32 × MD) :=
  (f_X5_areTwo N p1 p2 d).bind fun x1 =>
  if x1 = 0 then
    bd2 (f_X5_finds N (-1000000001 : Int32) d) fun x12 d13 =>
    some (x12, d13)
  else
    (f_X5_lives N p2 d).bind fun x4 =>
    if x4 = 0 then
      bd2 (f_X5_finds N (-1000000005 : Int32) d) fun x9 d10 =>
      some (x9, d10)
    else
      (f_X5_laysBy N d).bind fun d7 =>
      f_X5_ways_L40 N   N p1 p2 (0 : Int32) (0 : Int32) d7
def f_X5_feed_L41 (N : Nat)   : Nat → Int32 → Int32 → MD → Option (Int32 × MD)
  | 0, _, _, _ => none
  | n41 + 1, a1, a3, d_ =>
  if a3 < 0 then
    some ((m_taped d_), d_)
  else
    (ck (m_taped d_) 120).bind fun _ =>
    lt (m_set_tape d_ (upd (m_tape d_) ((m_taped d_)).toNatClampNeg ((a1 >>> (((8 : Int32) * a3) &&& 31)) &&& (255 : Int32)))) fun d14 =>
    lt (m_set_taped d14 ((m_taped d14) + (1 : Int32))) fun d15 =>
    lt (a3 + (-1)) fun x16 =>
    f_X5_feed_L41 N   n41 a1 x16 d15
def f_X5_feed (N : Nat)  (p1 : Int32) (p2 : Int32) (d : MD) : Option (Int32 × MD) :=
  (f_X5_isIn N ((p2).toInt64) (1 : Int64) (4 : Int64)).bind fun x1 =>
  if x1 = 0 then
    bd2 (f_X5_finds N (-1000000001 : Int32) d) fun x9 d10 =>
    some (x9, d10)
  else
    if ((m_taped d) + p2) ≤ (120 : Int32) then
      lt (p2 - (1 : Int32)) fun x5 =>
      f_X5_feed_L41 N   N p1 x5 d
    else
      bd2 (f_X5_finds N (-1000000002 : Int32) d) fun x6 d7 =>
      some (x6, d7)
def f_X5_wipe (N : Nat)   (d : MD) : Option (Int32 × MD) :=
  lt (m_taped d) fun x1 =>
  lt (m_set_taped d (0 : Int32)) fun d2 =>
  some (x1, d2)
def f_X5_isLetter (N : Nat)  (p0 : Int32)  : Option (Int32) :=
  if p0 < (97 : Int32) then
    some (0 : Int32)
  else
    if (122 : Int32) < p0 then
      some (0 : Int32)
    else
      some (1 : Int32)
def f_X5_isDigit (N : Nat)  (p0 : Int32)  : Option (Int32) :=
  if p0 < (48 : Int32) then
    some (0 : Int32)
  else
    if (57 : Int32) < p0 then
      some (0 : Int32)
    else
      some (1 : Int32)
def f_X5_byteAt (N : Nat)  (p1 : Int32) (d : MD) : Option (Int32) :=
  if (m_taped d) ≤ p1 then
    some (-1 : Int32)
  else
    (rd (m_tape d) 120 p1).bind fun x2 =>
    some x2
def f_X5_nextToken_J208 (N : Nat)   (d_ : MD) : Option (MD) :=
  if (m_token d_) ≤ (2 : Int32) then
    lt (m_set_to d_ ((m_to d_) + (0 : Int32))) fun d46 =>
    some d46
  else
    lt (m_set_to d_ ((m_to d_) + (1 : Int32))) fun d47 =>
    some d47
def f_X5_nextToken_J192 (N : Nat)  (K136 : MD → Option (MD)) (t1 : Int32) (d_ : MD) : Option (MD) :=
  lt (m_set_value d_ t1) fun d43 =>
  lt (m_set_to d43 ((m_to d43) + (1 : Int32))) fun d44 =>
  K136 d44
def f_X5_nextToken_L136 (N : Nat)   : Nat → MD → Option (MD)
  | 0, _ => none
  | n136 + 1, d_ =>
  if (m_token d_) = (2 : Int32) then
    (f_X5_byteAt N (m_to d_) d_).bind fun x35 =>
    (f_X5_isDigit N x35).bind fun x37 =>
    if x37 = 0 then
      f_X5_nextToken_J208 N   d_
    else
      if (m_value d_) ≤ (199999999 : Int32) then
        (f_X5_byteAt N (m_to d_) d_).bind fun x41 =>
        f_X5_nextToken_J192 N  (f_X5_nextToken_L136 N   n136) ((((10 : Int32) * (m_value d_)) + x41) - (48 : Int32)) d_
      else
        f_X5_nextToken_J192 N  (f_X5_nextToken_L136 N   n136) (2000000000 : Int32) d_
  else
    f_X5_nextToken_J208 N   d_
def f_X5_nextToken_L101 (N : Nat)   : Nat → MD → Option (MD)
  | 0, _ => none
  | n101 + 1, d_ =>
  if (m_token d_) = (1 : Int32) then
    (f_X5_byteAt N (m_to d_) d_).bind fun x28 =>
    (f_X5_isLetter N x28).bind fun x30 =>
    if x30 = 0 then
      f_X5_nextToken_L136 N   N d_
    else
      lt (m_set_to d_ ((m_to d_) + (1 : Int32))) fun d33 =>
      f_X5_nextToken_L101 N   n101 d33
  else
    f_X5_nextToken_L136 N   N d_
def f_X5_nextToken_L8 (N : Nat)   : Nat → MD → Option (MD)
  | 0, _ => none
  | n8 + 1, d_ =>
  (f_X5_byteAt N (m_from d_) d_).bind fun x2 =>
  if x2 = (32 : Int32) then
    lt (m_set_from d_ ((m_from d_) + (1 : Int32))) fun d26 =>
    f_X5_nextToken_L8 N   n8 d26
  else
    lt (m_set_to d_ (m_from d_)) fun d5 =>
    (f_X5_byteAt N (m_from d5) d5).bind fun x6 =>
    if 0 ≤ x6 then
      (f_X5_isLetter N x6).bind fun x9 =>
      if x9 = 0 then
        (f_X5_isDigit N x6).bind fun x12 =>
        if x12 = 0 then
          if x6 = (59 : Int32) then
            lt (m_set_token d5 (3 : Int32)) fun d18 =>
            lt (m_set_value d18 (0 : Int32)) fun d19 =>
            f_X5_nextToken_L101 N   N d19
          else
            lt (m_set_token d5 (4 : Int32)) fun d16 =>
            lt (m_set_value d16 (0 : Int32)) fun d17 =>
            f_X5_nextToken_L101 N   N d17
        else
          lt (m_set_token d5 (2 : Int32)) fun d20 =>
          lt (m_set_value d20 (0 : Int32)) fun d21 =>
          f_X5_nextToken_L101 N   N d21
      else
        lt (m_set_token d5 (1 : Int32)) fun d22 =>
        lt (m_set_value d22 (0 : Int32)) fun d23 =>
        f_X5_nextToken_L101 N   N d23
    else
      lt (m_set_token d5 (0 : Int32)) fun d24 =>
      lt (m_set_value d24 (0 : Int32)) fun d25 =>
      f_X5_nextToken_L101 N   N d25
def f_X5_nextToken (N : Nat)   (d : MD) : Option (MD) :=
  lt (m_set_from d (m_to d)) fun d1 =>
  f_X5_nextToken_L8 N   N d1
def f_X5_has3 (N : Nat)  (p1 : Int32) (p2 : Int32) (p3 : Int32) (p4 : Int32) (d : MD) : Option (Int32) :=
  (f_X5_byteAt N ((m_from d) + p1) d).bind fun x1 =>
  if x1 = p2 then
    (f_X5_byteAt N (((m_from d) + p1) + (1 : Int32)) d).bind fun x4 =>
    if x4 = p3 then
      (f_X5_byteAt N (((m_from d) + p1) + (2 : Int32)) d).bind fun x7 =>
      if x7 = p4 then
        some (1 : Int32)
      else
        some (0 : Int32)
    else
      some (0 : Int32)
  else
    some (0 : Int32)
def f_X5_isWord (N : Nat)  (p1 : Int32) (d : MD) : Option (Int32) :=
  if (m_token d) = (1 : Int32) then
    if ((m_to d) - (m_from d)) = p1 then
      some (1 : Int32)
    else
      some (0 : Int32)
  else
    some (0 : Int32)
def f_X5_fails (N : Nat)   (d : MD) : Option (Int32 × MD) :=
  lt (m_set_faultAt d (m_from d)) fun d1 =>
  some ((0 : Int32), d1)
def f_X5_kindHere_J193 (N : Nat) (d : MD)   : Option (Int32) :=
  (f_X5_isWord N (4 : Int32) d).bind fun x46 =>
  if x46 = 0 then
    some (-1 : Int32)
  else
    (f_X5_has3 N (0 : Int32) (116 : Int32) (119 : Int32) (105 : Int32) d).bind fun x49 =>
    if x49 = 0 then
      some (-1 : Int32)
    else
      (f_X5_has3 N (1 : Int32) (119 : Int32) (105 : Int32) (110 : Int32) d).bind fun x52 =>
      if x52 = 0 then
        some (-1 : Int32)
      else
        some (5 : Int32)
def f_X5_kindHere_J155 (N : Nat) (d : MD)   : Option (Int32) :=
  (f_X5_isWord N (5 : Int32) d).bind fun x37 =>
  if x37 = 0 then
    f_X5_kindHere_J193 N d  
  else
    (f_X5_has3 N (0 : Int32) (115 : Int32) (119 : Int32) (111 : Int32) d).bind fun x40 =>
    if x40 = 0 then
      f_X5_kindHere_J193 N d  
    else
      (f_X5_has3 N (2 : Int32) (111 : Int32) (114 : Int32) (110 : Int32) d).bind fun x43 =>
      if x43 = 0 then
        f_X5_kindHere_J193 N d  
      else
        some (4 : Int32)
def f_X5_kindHere_J131 (N : Nat) (d : MD)   : Option (Int32) :=
  (f_X5_isWord N (3 : Int32) d).bind fun x31 =>
  if x31 = 0 then
    f_X5_kindHere_J155 N d  
  else
    (f_X5_has3 N (0 : Int32) (107 : Int32) (105 : Int32) (110 : Int32) d).bind fun x34 =>
    if x34 = 0 then
      f_X5_kindHere_J155 N d  
    else
      some (3 : Int32)
def f_X5_kindHere_J78 (N : Nat) (d : MD)   : Option (Int32) :=
  (f_X5_isWord N (7 : Int32) d).bind fun x19 =>
  if x19 = 0 then
    f_X5_kindHere_J131 N d  
  else
    (f_X5_has3 N (0 : Int32) (115 : Int32) (104 : Int32) (117 : Int32) d).bind fun x22 =>
    if x22 = 0 then
      f_X5_kindHere_J131 N d  
    else
      (f_X5_has3 N (3 : Int32) (110 : Int32) (110 : Int32) (101 : Int32) d).bind fun x25 =>
      if x25 = 0 then
        f_X5_kindHere_J131 N d  
      else
        (f_X5_has3 N (4 : Int32) (110 : Int32) (101 : Int32) (114 : Int32) d).bind fun x28 =>
        if x28 = 0 then
          f_X5_kindHere_J131 N d  
        else
          some (2 : Int32)
def f_X5_kindHere_J39 (N : Nat) (d : MD)   : Option (Int32) :=
  (f_X5_isWord N (6 : Int32) d).bind fun x10 =>
  if x10 = 0 then
    f_X5_kindHere_J78 N d  
  else
    (f_X5_has3 N (0 : Int32) (99 : Int32) (111 : Int32) (112 : Int32) d).bind fun x13 =>
    if x13 = 0 then
      f_X5_kindHere_J78 N d  
    else
      (f_X5_has3 N (3 : Int32) (105 : Int32) (101 : Int32) (114 : Int32) d).bind fun x16 =>
      if x16 = 0 then
        f_X5_kindHere_J78 N d  
      else
        some (1 : Int32)
def f_X5_kindHere (N : Nat)   (d : MD) : Option (Int32) :=
  (f_X5_isWord N (6 : Int32) d).bind fun x1 =>
  if x1 = 0 then
    f_X5_kindHere_J39 N d  
  else
    (f_X5_has3 N (0 : Int32) (112 : Int32) (101 : Int32) (114 : Int32) d).bind fun x4 =>
    if x4 = 0 then
      f_X5_kindHere_J39 N d  
    else
      (f_X5_has3 N (3 : Int32) (115 : Int32) (111 : Int32) (110 : Int32) d).bind fun x7 =>
      if x7 = 0 then
        f_X5_kindHere_J39 N d  
      else
        some (0 : Int32)
set_option maxHeartbeats 4000000 in
set_option maxRecDepth 100000 in
theorem c_X5_living (l : Launch) (g : gE) (q : Nat → Nat) (N : Nat) (p1 : Int32) (d : MD) (r : Int32) (d' : MD) (h : f_X5_living N  p1 d = some (r, d')) : MO l yX5_living (Cond.code yX5_living cX5_living 4 (some .int) :: TB) rm_X5_living [.ref (q 0), .int p1] g ((MC g q d)) ((MC g q d')) (some (.int r)) 0 0 := by
  refine MO.of (cc := cX5_living) (maxL := 4) (ret := (some .int)) (by decide) ?_
  intro p e s m below meth c cx hw hr hlocks _
  have hx := cx.1.1
  have hb := cx.1.2.1
  refine en_go (lv := [(0, .ref (q 0)), (1, .int p1)]) (Nat.le_of_ble_eq_true rfl) rfl (fun ls hl => ?_)
  unfold f_X5_living at h
  refine lv_aload_n hx hb dX5_living_0 rfl (lv_at hl 0 rfl) ?_
  refine lv_iload_n hx hb dX5_living_1 rfl (lv_at hl 1 rfl) ?_
  obtain ⟨x1, g2, h⟩ := bd_ex h
  refine c_V (As := [.int p1]) (rest := []) (w' := (MC g q d)) cx hw (c_X5_barsOn l g q N p1 d x1 g2) (cl_X5_170 cx.1.2.2.2.2 ⟨Nat.le_of_ble_eq_true rfl, Nat.le_of_ble_eq_true rfl⟩) (x_recv cx hw (ci := 5) rfl 0 rfl) (Ct.all (MC_ll ..)) hl.1 rfl rfl (Nat.le_of_ble_eq_true rfl) dX5_living_2 ⟨Nat.le_of_ble_eq_true rfl, Nat.le_of_ble_eq_true rfl⟩ (st1 := [.int x1]) rfl (fun H locs hw => ?_)
  refine lv_if_eq (tgt := 18) hx hb dX5_living_5 (by decide) (fun c3 => ?_) (fun c3 => ?_)
  · replace h := ite_t c3 h
    refine lv_aload_n hx hb dX5_living_18 rfl (lv_at hl 0 rfl) ?_
    obtain ⟨d4, g5, h⟩ := bd_ex h
    refine c_V (As := []) (rest := []) (w' := (MC g q d4)) cx hw (c_X5_laysBy l g q N  d d4 g5) (cl_X5_173 cx.1.2.2.2.2 ⟨Nat.le_of_ble_eq_true rfl, Nat.le_of_ble_eq_true rfl⟩) (x_recv cx hw (ci := 5) rfl 0 rfl) (Ct.all (MC_ll ..)) hl.1 rfl rfl (Nat.le_of_ble_eq_true rfl) dX5_living_19 ⟨Nat.le_of_ble_eq_true rfl, Nat.le_of_ble_eq_true rfl⟩ (st1 := []) rfl (fun H locs hw => ?_)
    refine lv_aload_n hx hb dX5_living_22 rfl (lv_at hl 0 rfl) ?_
    refine lv_iload_n hx hb dX5_living_23 rfl (lv_at hl 1 rfl) ?_
    obtain ⟨x6, d7, g8, h⟩ := bd2_ex h
    refine c_V (As := [.int p1]) (rest := []) (w' := (MC g q d7)) cx hw (c_X5_goesOnMany l g q N p1 d4 x6 d7 g8) (cl_X5_160 cx.1.2.2.2.2 ⟨Nat.le_of_ble_eq_true rfl, Nat.le_of_ble_eq_true rfl⟩) (x_recv cx hw (ci := 5) rfl 0 rfl) (Ct.all (MC_ll ..)) hl.1 rfl rfl (Nat.le_of_ble_eq_true rfl) dX5_living_24 ⟨Nat.le_of_ble_eq_true rfl, Nat.le_of_ble_eq_true rfl⟩ (st1 := [.int x6]) rfl (fun H locs hw => ?_)
    refine lv_istore_n (lv' := [(2, .int x6), (0, .ref (q 0)), (1, .int p1)]) hx hb dX5_living_27 rfl hl (by decide) rfl (fun ls hl => ?_)
    refine lv_aload_n hx hb dX5_living_28 rfl (lv_at hl 1 rfl) ?_
    obtain ⟨x9, g10, h⟩ := bd_ex h
    refine c_V (As := []) (rest := []) (w' := (MC g q d7)) cx hw (c_X5_livingSet l g q N  d7 x9 g10) (cl_X5_179 cx.1.2.2.2.2 ⟨Nat.le_of_ble_eq_true rfl, Nat.le_of_ble_eq_true rfl⟩) (x_recv cx hw (ci := 5) rfl 0 rfl) (Ct.all (MC_ll ..)) hl.1 rfl rfl (Nat.le_of_ble_eq_true rfl) dX5_living_29 ⟨Nat.le_of_ble_eq_true rfl, Nat.le_of_ble_eq_true rfl⟩ (st1 := [.int x9]) rfl (fun H locs hw => ?_)
    refine lv_istore_n (lv' := [(3, .int x9), (2, .int x6), (0, .ref (q 0)), (1, .int p1)]) hx hb dX5_living_32 rfl hl (by decide) rfl (fun ls hl => ?_)
    refine lv_aload_n hx hb dX5_living_33 rfl (lv_at hl 2 rfl) ?_
    obtain ⟨d11, g12, h⟩ := bd_ex h
    refine c_V (As := []) (rest := []) (w' := (MC g q d11)) cx hw (c_X5_laysBack l g q N  d7 d11 g12) (cl_X5_176 cx.1.2.2.2.2 ⟨Nat.le_of_ble_eq_true rfl, Nat.le_of_ble_eq_true rfl⟩) (x_recv cx hw (ci := 5) rfl 0 rfl) (Ct.all (MC_ll ..)) hl.1 rfl rfl (Nat.le_of_ble_eq_true rfl) dX5_living_34 ⟨Nat.le_of_ble_eq_true rfl, Nat.le_of_ble_eq_true rfl⟩ (st1 := []) rfl (fun H locs hw => ?_)
    refine lv_iload_n hx hb dX5_living_37 rfl (lv_at hl 0 rfl) ?_
    exact r_i cx hr hlocks hw (pr1 h) (congrArg (fun z0 => (MC g q z0)) (pr2 h)) dX5_living_38
  · replace h := ite_f c3 h
    refine lv_aload_n hx hb dX5_living_8 rfl (lv_at hl 0 rfl) ?_
    refine lv_aload_n hx hb dX5_living_9 rfl (lv_at hl 0 rfl) ?_
    refine lv_iload_n hx hb dX5_living_10 rfl (lv_at hl 1 rfl) ?_
    obtain ⟨x13, g14, h⟩ := bd_ex h
    refine c_V (As := [.int p1]) (rest := [.ref (q 0)]) (w' := (MC g q d)) cx hw (c_X5_barsOn l g q N p1 d x13 g14) (cl_X5_170 cx.1.2.2.2.2 ⟨Nat.le_of_ble_eq_true rfl, Nat.le_of_ble_eq_true rfl⟩) (x_recv cx hw (ci := 5) rfl 0 rfl) (Ct.all (MC_ll ..)) hl.1 rfl rfl (Nat.le_of_ble_eq_true rfl) dX5_living_11 ⟨Nat.le_of_ble_eq_true rfl, Nat.le_of_ble_eq_true rfl⟩ (st1 := [.int x13, .ref (q 0)]) rfl (fun H locs hw => ?_)
    obtain ⟨x15, d16, g17, h⟩ := bd2_ex h
    refine c_V (As := [.int x13]) (rest := []) (w' := (MC g q d16)) cx hw (c_X5_finds l g q N x13 d x15 d16 g17) (cl_X5_62 cx.1.2.2.2.2 ⟨Nat.le_of_ble_eq_true rfl, Nat.le_of_ble_eq_true rfl⟩) (x_recv cx hw (ci := 5) rfl 0 rfl) (Ct.all (MC_ll ..)) hl.1 rfl rfl (Nat.le_of_ble_eq_true rfl) dX5_living_14 ⟨Nat.le_of_ble_eq_true rfl, Nat.le_of_ble_eq_true rfl⟩ (st1 := [.int x15]) rfl (fun H locs hw => ?_)
    exact r_i cx hr hlocks hw (pr1 h) (congrArg (fun z0 => (MC g q z0)) (pr2 h)) dX5_living_17
set_option maxHeartbeats 4000000 in
set_option maxRecDepth 100000 in
theorem c_X5_rich (l : Launch) (g : gE) (q : Nat → Nat) (N : Nat) (p1 : Int32) (d : MD) (r : Int32) (d' : MD) (h : f_X5_rich N  p1 d = some (r, d')) : MO l yX5_rich (Cond.code yX5_rich cX5_rich 4 (some .int) :: TB) rm_X5_rich [.ref (q 0), .int p1] g ((MC g q d)) ((MC g q d')) (some (.int r)) 0 0 := by
  refine MO.of (cc := cX5_rich) (maxL := 4) (ret := (some .int)) (by decide) ?_
  intro p e s m below meth c cx hw hr hlocks _
  have hx := cx.1.1
  have hb := cx.1.2.1
  refine en_go (lv := [(0, .ref (q 0)), (1, .int p1)]) (Nat.le_of_ble_eq_true rfl) rfl (fun ls hl => ?_)
  unfold f_X5_rich at h
  refine lv_aload_n hx hb dX5_rich_0 rfl (lv_at hl 0 rfl) ?_
  refine lv_iload_n hx hb dX5_rich_1 rfl (lv_at hl 1 rfl) ?_
  obtain ⟨x1, g2, h⟩ := bd_ex h
  refine c_V (As := [.int p1]) (rest := []) (w' := (MC g q d)) cx hw (c_X5_barsOn l g q N p1 d x1 g2) (cl_X5_170 cx.1.2.2.2.2 ⟨Nat.le_of_ble_eq_true rfl, Nat.le_of_ble_eq_true rfl⟩) (x_recv cx hw (ci := 5) rfl 0 rfl) (Ct.all (MC_ll ..)) hl.1 rfl rfl (Nat.le_of_ble_eq_true rfl) dX5_rich_2 ⟨Nat.le_of_ble_eq_true rfl, Nat.le_of_ble_eq_true rfl⟩ (st1 := [.int x1]) rfl (fun H locs hw => ?_)
  refine lv_if_eq (tgt := 18) hx hb dX5_rich_5 (by decide) (fun c3 => ?_) (fun c3 => ?_)
  · replace h := ite_t c3 h
    refine lv_aload_n hx hb dX5_rich_18 rfl (lv_at hl 0 rfl) ?_
    obtain ⟨d4, g5, h⟩ := bd_ex h
    refine c_V (As := []) (rest := []) (w' := (MC g q d4)) cx hw (c_X5_laysBy l g q N  d d4 g5) (cl_X5_173 cx.1.2.2.2.2 ⟨Nat.le_of_ble_eq_true rfl, Nat.le_of_ble_eq_true rfl⟩) (x_recv cx hw (ci := 5) rfl 0 rfl) (Ct.all (MC_ll ..)) hl.1 rfl rfl (Nat.le_of_ble_eq_true rfl) dX5_rich_19 ⟨Nat.le_of_ble_eq_true rfl, Nat.le_of_ble_eq_true rfl⟩ (st1 := []) rfl (fun H locs hw => ?_)
    refine lv_aload_n hx hb dX5_rich_22 rfl (lv_at hl 0 rfl) ?_
    refine lv_iload_n hx hb dX5_rich_23 rfl (lv_at hl 1 rfl) ?_
    obtain ⟨x6, d7, g8, h⟩ := bd2_ex h
    refine c_V (As := [.int p1]) (rest := []) (w' := (MC g q d7)) cx hw (c_X5_goesOnMany l g q N p1 d4 x6 d7 g8) (cl_X5_160 cx.1.2.2.2.2 ⟨Nat.le_of_ble_eq_true rfl, Nat.le_of_ble_eq_true rfl⟩) (x_recv cx hw (ci := 5) rfl 0 rfl) (Ct.all (MC_ll ..)) hl.1 rfl rfl (Nat.le_of_ble_eq_true rfl) dX5_rich_24 ⟨Nat.le_of_ble_eq_true rfl, Nat.le_of_ble_eq_true rfl⟩ (st1 := [.int x6]) rfl (fun H locs hw => ?_)
    refine lv_istore_n (lv' := [(2, .int x6), (0, .ref (q 0)), (1, .int p1)]) hx hb dX5_rich_27 rfl hl (by decide) rfl (fun ls hl => ?_)
    refine lv_aload_n hx hb dX5_rich_28 rfl (lv_at hl 1 rfl) ?_
    refine lv_iconst (v := -1) hx hb dX5_rich_29 (by decide) ?_
    obtain ⟨x9, g10, h⟩ := bd_ex h
    refine c_V (As := [.int (-1 : Int32)]) (rest := []) (w' := (MC g q d7)) cx hw (c_X5_richestBut l g q N (-1 : Int32) d7 x9 g10) (cl_X5_120 cx.1.2.2.2.2 ⟨Nat.le_of_ble_eq_true rfl, Nat.le_of_ble_eq_true rfl⟩) (x_recv cx hw (ci := 5) rfl 0 rfl) (Ct.all (MC_ll ..)) hl.1 rfl rfl (Nat.le_of_ble_eq_true rfl) dX5_rich_30 ⟨Nat.le_of_ble_eq_true rfl, Nat.le_of_ble_eq_true rfl⟩ (st1 := [.int x9]) rfl (fun H locs hw => ?_)
    refine lv_istore_n (lv' := [(3, .int x9), (2, .int x6), (0, .ref (q 0)), (1, .int p1)]) hx hb dX5_rich_33 rfl hl (by decide) rfl (fun ls hl => ?_)
    refine lv_aload_n hx hb dX5_rich_34 rfl (lv_at hl 2 rfl) ?_
    obtain ⟨d11, g12, h⟩ := bd_ex h
    refine c_V (As := []) (rest := []) (w' := (MC g q d11)) cx hw (c_X5_laysBack l g q N  d7 d11 g12) (cl_X5_176 cx.1.2.2.2.2 ⟨Nat.le_of_ble_eq_true rfl, Nat.le_of_ble_eq_true rfl⟩) (x_recv cx hw (ci := 5) rfl 0 rfl) (Ct.all (MC_ll ..)) hl.1 rfl rfl (Nat.le_of_ble_eq_true rfl) dX5_rich_35 ⟨Nat.le_of_ble_eq_true rfl, Nat.le_of_ble_eq_true rfl⟩ (st1 := []) rfl (fun H locs hw => ?_)
    refine lv_iload_n hx hb dX5_rich_38 rfl (lv_at hl 0 rfl) ?_
    refine lv_if_ge (tgt := 51) hx hb dX5_rich_39 (by decide) (fun c13 => ?_) (fun c13 => ?_)
    · replace h := ite_t c13 h
      refine lv_iload_n hx hb dX5_rich_51 rfl (lv_at hl 0 rfl) ?_
      exact r_i cx hr hlocks hw (pr1 h) (congrArg (fun z0 => (MC g q z0)) (pr2 h)) dX5_rich_52
    · replace h := ite_f c13 h
      refine lv_aload_n hx hb dX5_rich_42 rfl (lv_at hl 2 rfl) ?_
      refine lv_ldc hx hb cx.1.2.2.2.1 (cx.1.2.2.2.2 _ tw_4_195) dX5_rich_43 ?_
      obtain ⟨x14, d15, g16, h⟩ := bd2_ex h
      refine c_V (As := [.int (-1000000004 : Int32)]) (rest := []) (w' := (MC g q d15)) cx hw (c_X5_finds l g q N (-1000000004 : Int32) d11 x14 d15 g16) (cl_X5_62 cx.1.2.2.2.2 ⟨Nat.le_of_ble_eq_true rfl, Nat.le_of_ble_eq_true rfl⟩) (x_recv cx hw (ci := 5) rfl 0 rfl) (Ct.all (MC_ll ..)) hl.1 rfl rfl (Nat.le_of_ble_eq_true rfl) dX5_rich_45 ⟨Nat.le_of_ble_eq_true rfl, Nat.le_of_ble_eq_true rfl⟩ (st1 := [.int x14]) rfl (fun H locs hw => ?_)
      refine lv_goto (tgt := 52) hx hb dX5_rich_48 (by decide) ?_
      exact r_i cx hr hlocks hw (pr1 h) (congrArg (fun z0 => (MC g q z0)) (pr2 h)) dX5_rich_52
  · replace h := ite_f c3 h
    refine lv_aload_n hx hb dX5_rich_8 rfl (lv_at hl 0 rfl) ?_
    refine lv_aload_n hx hb dX5_rich_9 rfl (lv_at hl 0 rfl) ?_
    refine lv_iload_n hx hb dX5_rich_10 rfl (lv_at hl 1 rfl) ?_
    obtain ⟨x17, g18, h⟩ := bd_ex h
    refine c_V (As := [.int p1]) (rest := [.ref (q 0)]) (w' := (MC g q d)) cx hw (c_X5_barsOn l g q N p1 d x17 g18) (cl_X5_170 cx.1.2.2.2.2 ⟨Nat.le_of_ble_eq_true rfl, Nat.le_of_ble_eq_true rfl⟩) (x_recv cx hw (ci := 5) rfl 0 rfl) (Ct.all (MC_ll ..)) hl.1 rfl rfl (Nat.le_of_ble_eq_true rfl) dX5_rich_11 ⟨Nat.le_of_ble_eq_true rfl, Nat.le_of_ble_eq_true rfl⟩ (st1 := [.int x17, .ref (q 0)]) rfl (fun H locs hw => ?_)
    obtain ⟨x19, d20, g21, h⟩ := bd2_ex h
    refine c_V (As := [.int x17]) (rest := []) (w' := (MC g q d20)) cx hw (c_X5_finds l g q N x17 d x19 d20 g21) (cl_X5_62 cx.1.2.2.2.2 ⟨Nat.le_of_ble_eq_true rfl, Nat.le_of_ble_eq_true rfl⟩) (x_recv cx hw (ci := 5) rfl 0 rfl) (Ct.all (MC_ll ..)) hl.1 rfl rfl (Nat.le_of_ble_eq_true rfl) dX5_rich_14 ⟨Nat.le_of_ble_eq_true rfl, Nat.le_of_ble_eq_true rfl⟩ (st1 := [.int x19]) rfl (fun H locs hw => ?_)
    exact r_i cx hr hlocks hw (pr1 h) (congrArg (fun z0 => (MC g q z0)) (pr2 h)) dX5_rich_17
set_option maxHeartbeats 4000000 in
set_option maxRecDepth 100000 in
theorem c_X5_when (l : Launch) (g : gE) (q : Nat → Nat) (N : Nat) (p1 : Int32) (d : MD) (r : Int32) (d' : MD) (h : f_X5_when N  p1 d = some (r, d')) : MO l yX5_when (Cond.code yX5_when cX5_when 5 (some .int) :: TB) rm_X5_when [.ref (q 0), .int p1] g ((MC g q d)) ((MC g q d')) (some (.int r)) 0 0 := by
  refine MO.of (cc := cX5_when) (maxL := 5) (ret := (some .int)) (by decide) ?_
  intro p e s m below meth c cx hw hr hlocks _
  have hx := cx.1.1
  have hb := cx.1.2.1
  refine en_go (lv := [(0, .ref (q 0)), (1, .int p1)]) (Nat.le_of_ble_eq_true rfl) rfl (fun ls hl => ?_)
  have J87 : ∀ (a2 : Int32) (d_ : MD) (H : Heap) (locs : List Loc) (ls : Array Slot), Wd g (va_A ((MC g q d)) s.heap.size) ((MC g q d_)) s H locs → lv_has ls 5 [(0, .ref (q 0)), (2, .int a2)] → f_X5_when_J87 N   a2 d_ = some (r, d') → W p l e rm_X5_when s m ([.ref (q 0), .int p1] : List Value).toArray below meth c H locs 0 0 (MQ below (QO (some (.int r)) g ((MC g q d')) (va_A ((MC g q d)) s.heap.size)) ([.ref (q 0), .int p1] : List Value).toArray s 0 0 (va_A ((MC g q d)) s.heap.size)) (F0 m 87 ls []) := by
    intro a2 d_ H locs ls hw hl h
    unfold f_X5_when_J87 at h
    refine lv_aload_n hx hb dX5_when_87 rfl (lv_at hl 0 rfl) ?_
    obtain ⟨d34, g35, h⟩ := bd_ex h
    refine c_V (As := []) (rest := []) (w' := (MC g q d34)) cx hw (c_X5_laysBack l g q N  d_ d34 g35) (cl_X5_176 cx.1.2.2.2.2 ⟨Nat.le_of_ble_eq_true rfl, Nat.le_of_ble_eq_true rfl⟩) (x_recv cx hw (ci := 5) rfl 0 rfl) (Ct.all (MC_ll ..)) hl.1 rfl rfl (Nat.le_of_ble_eq_true rfl) dX5_when_88 ⟨Nat.le_of_ble_eq_true rfl, Nat.le_of_ble_eq_true rfl⟩ (st1 := []) rfl (fun H locs hw => ?_)
    refine lv_iload_n hx hb dX5_when_91 rfl (lv_at hl 1 rfl) ?_
    refine lv_if_ge (tgt := 104) hx hb dX5_when_92 (by decide) (fun c36 => ?_) (fun c36 => ?_)
    · replace h := ite_t c36 h
      refine lv_iload_n hx hb dX5_when_104 rfl (lv_at hl 1 rfl) ?_
      exact r_i cx hr hlocks hw (pr1 h) (congrArg (fun z0 => (MC g q z0)) (pr2 h)) dX5_when_105
    · replace h := ite_f c36 h
      refine lv_aload_n hx hb dX5_when_95 rfl (lv_at hl 0 rfl) ?_
      refine lv_ldc hx hb cx.1.2.2.2.1 (cx.1.2.2.2.2 _ tw_4_195) dX5_when_96 ?_
      obtain ⟨x37, d38, g39, h⟩ := bd2_ex h
      refine c_V (As := [.int (-1000000004 : Int32)]) (rest := []) (w' := (MC g q d38)) cx hw (c_X5_finds l g q N (-1000000004 : Int32) d34 x37 d38 g39) (cl_X5_62 cx.1.2.2.2.2 ⟨Nat.le_of_ble_eq_true rfl, Nat.le_of_ble_eq_true rfl⟩) (x_recv cx hw (ci := 5) rfl 0 rfl) (Ct.all (MC_ll ..)) hl.1 rfl rfl (Nat.le_of_ble_eq_true rfl) dX5_when_98 ⟨Nat.le_of_ble_eq_true rfl, Nat.le_of_ble_eq_true rfl⟩ (st1 := [.int x37]) rfl (fun H locs hw => ?_)
      refine lv_goto (tgt := 105) hx hb dX5_when_101 (by decide) ?_
      exact r_i cx hr hlocks hw (pr1 h) (congrArg (fun z0 => (MC g q z0)) (pr2 h)) dX5_when_105
  have L51 : ∀ (n51 : Nat) (a1 : Int32) (a2 : Int32) (a3 : Int32) (d_ : MD) (H : Heap) (locs : List Loc) (ls : Array Slot), Wd g (va_A ((MC g q d)) s.heap.size) ((MC g q d_)) s H locs → lv_has ls 5 [(0, .ref (q 0)), (1, .int a1), (2, .int a2), (3, .int a3)] → f_X5_when_L51 N   n51 a1 a2 a3 d_ = some (r, d') → W p l e rm_X5_when s m ([.ref (q 0), .int p1] : List Value).toArray below meth c H locs 0 0 (MQ below (QO (some (.int r)) g ((MC g q d')) (va_A ((MC g q d)) s.heap.size)) ([.ref (q 0), .int p1] : List Value).toArray s 0 0 (va_A ((MC g q d)) s.heap.size)) (F0 m 51 ls []) := by
    intro n51
    induction n51 with
    | zero => intro a1 a2 a3 d_ H locs ls hw hl h; exact (Option.some_ne_none _ h.symm).elim
    | succ n51 ih51 =>
      intro a1 a2 a3 d_ H locs ls hw hl h
      rw [f_X5_when_L51] at h
      refine lv_iload_n hx hb dX5_when_51 rfl (lv_at hl 3 rfl) ?_
      refine lv_bipush (v := 100) hx hb dX5_when_52 (by decide) ?_
      refine lv_icmp_gt (tgt := 87) hx hb dX5_when_54 (by decide) (fun c40 => ?_) (fun c40 => ?_)
      · replace h := ite_t c40 h
        exact J87 a2 d_ _ _ _ hw (lv_sub hl [0, 2] rfl) h
      · replace h := ite_f c40 h
        refine lv_iload_n hx hb dX5_when_57 rfl (lv_at hl 2 rfl) ?_
        refine lv_if_ge (tgt := 87) hx hb dX5_when_58 (by decide) (fun c41 => ?_) (fun c41 => ?_)
        · replace h := ite_t c41 h
          exact J87 a2 d_ _ _ _ hw (lv_sub hl [0, 2] rfl) h
        · replace h := ite_f c41 h
          refine lv_aload_n hx hb dX5_when_61 rfl (lv_at hl 0 rfl) ?_
          obtain ⟨x42, d43, g44, h⟩ := bd2_ex h
          refine c_V (As := []) (rest := []) (w' := (MC g q d43)) cx hw (c_X5_goesOn l g q N  d_ x42 d43 g44) (cl_X5_150 cx.1.2.2.2.2 ⟨Nat.le_of_ble_eq_true rfl, Nat.le_of_ble_eq_true rfl⟩) (x_recv cx hw (ci := 5) rfl 0 rfl) (Ct.all (MC_ll ..)) hl.1 rfl rfl (Nat.le_of_ble_eq_true rfl) dX5_when_62 ⟨Nat.le_of_ble_eq_true rfl, Nat.le_of_ble_eq_true rfl⟩ (st1 := [.int x42]) rfl (fun H locs hw => ?_)
          refine lv_istore (lv' := [(4, .int x42), (0, .ref (q 0)), (1, .int a1), (2, .int a2), (3, .int a3)]) hx hb dX5_when_65 hl (by decide) rfl (fun ls hl => ?_)
          refine lv_aload_n hx hb dX5_when_67 rfl (lv_at hl 1 rfl) ?_
          refine lv_iload_n hx hb dX5_when_68 rfl (lv_at hl 2 rfl) ?_
          obtain ⟨x45, g46, h⟩ := bd_ex h
          refine c_V (As := [.int a1]) (rest := []) (w' := (MC g q d43)) cx hw (c_X5_lives l g q N a1 d43 x45 g46) (cl_X5_107 cx.1.2.2.2.2 ⟨Nat.le_of_ble_eq_true rfl, Nat.le_of_ble_eq_true rfl⟩) (x_recv cx hw (ci := 5) rfl 0 rfl) (Ct.all (MC_ll ..)) hl.1 rfl rfl (Nat.le_of_ble_eq_true rfl) dX5_when_69 ⟨Nat.le_of_ble_eq_true rfl, Nat.le_of_ble_eq_true rfl⟩ (st1 := [.int x45]) rfl (fun H locs hw => ?_)
          refine lv_if_eq (tgt := 79) hx hb dX5_when_72 (by decide) (fun c47 => ?_) (fun c47 => ?_)
          · replace h := ite_t c47 h
            refine lv_iload_n hx hb dX5_when_79 rfl (lv_at hl 4 rfl) ?_
            refine lv_istore_n (lv' := [(2, .int a3), (4, .int x42), (0, .ref (q 0)), (1, .int a1), (3, .int a3)]) hx hb dX5_when_80 rfl hl (by decide) rfl (fun ls hl => ?_)
            obtain ⟨x48, ex48⟩ : ∃ y : Int32, y = (a3 + 1) := ⟨_, rfl⟩
            replace h := lt_nx ex48 h
            refine lv_iinc (v := x48) (lv' := [(3, .int x48), (2, .int a3), (4, .int x42), (0, .ref (q 0)), (1, .int a1)]) hx hb dX5_when_81 hl (k := 4) rfl (by rw [ex48]; rfl) (by decide) rfl (fun ls hl => ?_)
            refine lv_goto (tgt := 51) hx hb dX5_when_84 (by decide) ?_
            exact ih51 a1 a3 x48 d43 _ _ _ hw (lv_sub hl [3, 4, 1, 0] rfl) h
          · replace h := ite_f c47 h
            refine lv_iconst (v := -1) hx hb dX5_when_75 (by decide) ?_
            refine lv_goto (tgt := 80) hx hb dX5_when_76 (by decide) ?_
            refine lv_istore_n (lv' := [(2, .int (-1 : Int32)), (4, .int x42), (0, .ref (q 0)), (1, .int a1), (3, .int a3)]) hx hb dX5_when_80 rfl hl (by decide) rfl (fun ls hl => ?_)
            obtain ⟨x49, ex49⟩ : ∃ y : Int32, y = (a3 + 1) := ⟨_, rfl⟩
            replace h := lt_nx ex49 h
            refine lv_iinc (v := x49) (lv' := [(3, .int x49), (2, .int (-1 : Int32)), (4, .int x42), (0, .ref (q 0)), (1, .int a1)]) hx hb dX5_when_81 hl (k := 4) rfl (by rw [ex49]; rfl) (by decide) rfl (fun ls hl => ?_)
            refine lv_goto (tgt := 51) hx hb dX5_when_84 (by decide) ?_
            exact ih51 a1 (-1 : Int32) x49 d43 _ _ _ hw (lv_sub hl [3, 4, 1, 0] rfl) h
  unfold f_X5_when at h
  refine lv_aload_n hx hb dX5_when_0 rfl (lv_at hl 0 rfl) ?_
  refine lv_iload_n hx hb dX5_when_1 rfl (lv_at hl 1 rfl) ?_
  obtain ⟨x1, g2, h⟩ := bd_ex h
  refine c_V (As := [.int p1]) (rest := []) (w' := (MC g q d)) cx hw (c_X5_isOne l g q N p1 d x1 g2) (cl_X5_43 cx.1.2.2.2.2 ⟨Nat.le_of_ble_eq_true rfl, Nat.le_of_ble_eq_true rfl⟩) (x_recv cx hw (ci := 5) rfl 0 rfl) (Ct.all (MC_ll ..)) hl.1 rfl rfl (Nat.le_of_ble_eq_true rfl) dX5_when_2 ⟨Nat.le_of_ble_eq_true rfl, Nat.le_of_ble_eq_true rfl⟩ (st1 := [.int x1]) rfl (fun H locs hw => ?_)
  refine lv_if_ne (tgt := 15) hx hb dX5_when_5 (by decide) (fun c3 => ?_) (fun c3 => ?_)
  · replace h := ite_f c3 h
    refine lv_aload_n hx hb dX5_when_15 rfl (lv_at hl 0 rfl) ?_
    refine lv_bipush (v := 100) hx hb dX5_when_16 (by decide) ?_
    obtain ⟨x4, g5, h⟩ := bd_ex h
    refine c_V (As := [.int (100 : Int32)]) (rest := []) (w' := (MC g q d)) cx hw (c_X5_isFar l g q N (100 : Int32) d x4 g5) (cl_X5_156 cx.1.2.2.2.2 ⟨Nat.le_of_ble_eq_true rfl, Nat.le_of_ble_eq_true rfl⟩) (x_recv cx hw (ci := 5) rfl 0 rfl) (Ct.all (MC_ll ..)) hl.1 rfl rfl (Nat.le_of_ble_eq_true rfl) dX5_when_18 ⟨Nat.le_of_ble_eq_true rfl, Nat.le_of_ble_eq_true rfl⟩ (st1 := [.int x4]) rfl (fun H locs hw => ?_)
    refine lv_if_eq (tgt := 31) hx hb dX5_when_21 (by decide) (fun c6 => ?_) (fun c6 => ?_)
    · replace h := ite_t c6 h
      refine lv_aload_n hx hb dX5_when_31 rfl (lv_at hl 0 rfl) ?_
      obtain ⟨d7, g8, h⟩ := bd_ex h
      refine c_V (As := []) (rest := []) (w' := (MC g q d7)) cx hw (c_X5_laysBy l g q N  d d7 g8) (cl_X5_173 cx.1.2.2.2.2 ⟨Nat.le_of_ble_eq_true rfl, Nat.le_of_ble_eq_true rfl⟩) (x_recv cx hw (ci := 5) rfl 0 rfl) (Ct.all (MC_ll ..)) hl.1 rfl rfl (Nat.le_of_ble_eq_true rfl) dX5_when_32 ⟨Nat.le_of_ble_eq_true rfl, Nat.le_of_ble_eq_true rfl⟩ (st1 := []) rfl (fun H locs hw => ?_)
      refine lv_aload_n hx hb dX5_when_35 rfl (lv_at hl 0 rfl) ?_
      refine lv_iload_n hx hb dX5_when_36 rfl (lv_at hl 1 rfl) ?_
      obtain ⟨x9, g10, h⟩ := bd_ex h
      refine c_V (As := [.int p1]) (rest := []) (w' := (MC g q d7)) cx hw (c_X5_lives l g q N p1 d7 x9 g10) (cl_X5_107 cx.1.2.2.2.2 ⟨Nat.le_of_ble_eq_true rfl, Nat.le_of_ble_eq_true rfl⟩) (x_recv cx hw (ci := 5) rfl 0 rfl) (Ct.all (MC_ll ..)) hl.1 rfl rfl (Nat.le_of_ble_eq_true rfl) dX5_when_37 ⟨Nat.le_of_ble_eq_true rfl, Nat.le_of_ble_eq_true rfl⟩ (st1 := [.int x9]) rfl (fun H locs hw => ?_)
      refine lv_if_eq (tgt := 47) hx hb dX5_when_40 (by decide) (fun c11 => ?_) (fun c11 => ?_)
      · replace h := ite_t c11 h
        refine lv_iconst (v := 0) hx hb dX5_when_47 (by decide) ?_
        refine lv_istore_n (lv' := [(2, .int (0 : Int32)), (0, .ref (q 0)), (1, .int p1)]) hx hb dX5_when_48 rfl hl (by decide) rfl (fun ls hl => ?_)
        refine lv_iconst (v := 1) hx hb dX5_when_49 (by decide) ?_
        refine lv_istore_n (lv' := [(3, .int (1 : Int32)), (2, .int (0 : Int32)), (0, .ref (q 0)), (1, .int p1)]) hx hb dX5_when_50 rfl hl (by decide) rfl (fun ls hl => ?_)
        exact L51 N p1 (0 : Int32) (1 : Int32) d7 _ _ _ hw (lv_sub hl [2, 3, 1, 0] rfl) h
      · replace h := ite_f c11 h
        refine lv_iconst (v := -1) hx hb dX5_when_43 (by decide) ?_
        refine lv_goto (tgt := 48) hx hb dX5_when_44 (by decide) ?_
        refine lv_istore_n (lv' := [(2, .int (-1 : Int32)), (0, .ref (q 0)), (1, .int p1)]) hx hb dX5_when_48 rfl hl (by decide) rfl (fun ls hl => ?_)
        refine lv_iconst (v := 1) hx hb dX5_when_49 (by decide) ?_
        refine lv_istore_n (lv' := [(3, .int (1 : Int32)), (2, .int (-1 : Int32)), (0, .ref (q 0)), (1, .int p1)]) hx hb dX5_when_50 rfl hl (by decide) rfl (fun ls hl => ?_)
        exact L51 N p1 (-1 : Int32) (1 : Int32) d7 _ _ _ hw (lv_sub hl [2, 3, 1, 0] rfl) h
    · replace h := ite_f c6 h
      refine lv_aload_n hx hb dX5_when_24 rfl (lv_at hl 0 rfl) ?_
      refine lv_ldc hx hb cx.1.2.2.2.1 (cx.1.2.2.2.2 _ tw_4_229) dX5_when_25 ?_
      obtain ⟨x12, d13, g14, h⟩ := bd2_ex h
      refine c_V (As := [.int (-1000000005 : Int32)]) (rest := []) (w' := (MC g q d13)) cx hw (c_X5_finds l g q N (-1000000005 : Int32) d x12 d13 g14) (cl_X5_62 cx.1.2.2.2.2 ⟨Nat.le_of_ble_eq_true rfl, Nat.le_of_ble_eq_true rfl⟩) (x_recv cx hw (ci := 5) rfl 0 rfl) (Ct.all (MC_ll ..)) hl.1 rfl rfl (Nat.le_of_ble_eq_true rfl) dX5_when_27 ⟨Nat.le_of_ble_eq_true rfl, Nat.le_of_ble_eq_true rfl⟩ (st1 := [.int x12]) rfl (fun H locs hw => ?_)
      exact r_i cx hr hlocks hw (pr1 h) (congrArg (fun z0 => (MC g q z0)) (pr2 h)) dX5_when_30
  · replace h := ite_t c3 h
    refine lv_aload_n hx hb dX5_when_8 rfl (lv_at hl 0 rfl) ?_
    refine lv_ldc hx hb cx.1.2.2.2.1 (cx.1.2.2.2.2 _ tw_4_79) dX5_when_9 ?_
    obtain ⟨x15, d16, g17, h⟩ := bd2_ex h
    refine c_V (As := [.int (-1000000001 : Int32)]) (rest := []) (w' := (MC g q d16)) cx hw (c_X5_finds l g q N (-1000000001 : Int32) d x15 d16 g17) (cl_X5_62 cx.1.2.2.2.2 ⟨Nat.le_of_ble_eq_true rfl, Nat.le_of_ble_eq_true rfl⟩) (x_recv cx hw (ci := 5) rfl 0 rfl) (Ct.all (MC_ll ..)) hl.1 rfl rfl (Nat.le_of_ble_eq_true rfl) dX5_when_11 ⟨Nat.le_of_ble_eq_true rfl, Nat.le_of_ble_eq_true rfl⟩ (st1 := [.int x15]) rfl (fun H locs hw => ?_)
    exact r_i cx hr hlocks hw (pr1 h) (congrArg (fun z0 => (MC g q z0)) (pr2 h)) dX5_when_14
set_option maxHeartbeats 4000000 in
set_option maxRecDepth 100000 in
theorem c_X5_gets (l : Launch) (g : gE) (q : Nat → Nat) (N : Nat) (p1 : Int32) (d : MD) (r : Int32) (d' : MD) (h : f_X5_gets N  p1 d = some (r, d')) : MO l yX5_gets (Cond.code yX5_gets cX5_gets 4 (some .int) :: TB) rm_X5_gets [.ref (q 0), .int p1] g ((MC g q d)) ((MC g q d')) (some (.int r)) 0 0 := by
  refine MO.of (cc := cX5_gets) (maxL := 4) (ret := (some .int)) (by decide) ?_
  intro p e s m below meth c cx hw hr hlocks _
  have hx := cx.1.1
  have hb := cx.1.2.1
  refine en_go (lv := [(0, .ref (q 0)), (1, .int p1)]) (Nat.le_of_ble_eq_true rfl) rfl (fun ls hl => ?_)
  have J82 : ∀ (d_ : MD) (H : Heap) (locs : List Loc) (ls : Array Slot), Wd g (va_A ((MC g q d)) s.heap.size) ((MC g q d_)) s H locs → lv_has ls 4 [(0, .ref (q 0))] → f_X5_gets_J82 N   d_ = some (r, d') → W p l e rm_X5_gets s m ([.ref (q 0), .int p1] : List Value).toArray below meth c H locs 0 0 (MQ below (QO (some (.int r)) g ((MC g q d')) (va_A ((MC g q d)) s.heap.size)) ([.ref (q 0), .int p1] : List Value).toArray s 0 0 (va_A ((MC g q d)) s.heap.size)) (F0 m 82 ls []) := by
    intro d_ H locs ls hw hl h
    unfold f_X5_gets_J82 at h
    refine lv_aload_n hx hb dX5_gets_82 rfl (lv_at hl 0 rfl) ?_
    refine lv_iconst (v := -1) hx hb dX5_gets_83 (by decide) ?_
    refine pf_X5_38 cx hw 0 rfl rfl rfl (Nat.le_of_ble_eq_true rfl) dX5_gets_84 (fun H locs hw => ?_)
    obtain ⟨d36, ed36, h⟩ := lt_ex h
    have hw : Wd g (va_A ((MC g q d)) s.heap.size) ((MC g q d36)) s H locs := by rw [ed36]; exact hw
    refine lv_aload_n hx hb dX5_gets_87 rfl (lv_at hl 0 rfl) ?_
    obtain ⟨d37, g38, h⟩ := bd_ex h
    refine c_V (As := []) (rest := []) (w' := (MC g q d37)) cx hw (c_X5_laysBack l g q N  d36 d37 g38) (cl_X5_176 cx.1.2.2.2.2 ⟨Nat.le_of_ble_eq_true rfl, Nat.le_of_ble_eq_true rfl⟩) (x_recv cx hw (ci := 5) rfl 0 rfl) (Ct.all (MC_ll ..)) hl.1 rfl rfl (Nat.le_of_ble_eq_true rfl) dX5_gets_88 ⟨Nat.le_of_ble_eq_true rfl, Nat.le_of_ble_eq_true rfl⟩ (st1 := []) rfl (fun H locs hw => ?_)
    refine lv_aload_n hx hb dX5_gets_91 rfl (lv_at hl 0 rfl) ?_
    refine gf_X5_147 cx hw 0 rfl rfl dX5_gets_92 ?_
    refine lv_bipush (v := -2) hx hb dX5_gets_95 (by decide) ?_
    refine lv_icmp_ne (tgt := 109) hx hb dX5_gets_97 (by decide) (fun c39 => ?_) (fun c39 => ?_)
    · replace h := ite_f c39 h
      refine lv_aload_n hx hb dX5_gets_109 rfl (lv_at hl 0 rfl) ?_
      refine gf_X5_147 cx hw 0 rfl rfl dX5_gets_110 ?_
      exact r_i cx hr hlocks hw (pr1 h) (congrArg (fun z0 => (MC g q z0)) (pr2 h)) dX5_gets_113
    · replace h := ite_t c39 h
      refine lv_aload_n hx hb dX5_gets_100 rfl (lv_at hl 0 rfl) ?_
      refine lv_ldc hx hb cx.1.2.2.2.1 (cx.1.2.2.2.2 _ tw_4_195) dX5_gets_101 ?_
      obtain ⟨x40, d41, g42, h⟩ := bd2_ex h
      refine c_V (As := [.int (-1000000004 : Int32)]) (rest := []) (w' := (MC g q d41)) cx hw (c_X5_finds l g q N (-1000000004 : Int32) d37 x40 d41 g42) (cl_X5_62 cx.1.2.2.2.2 ⟨Nat.le_of_ble_eq_true rfl, Nat.le_of_ble_eq_true rfl⟩) (x_recv cx hw (ci := 5) rfl 0 rfl) (Ct.all (MC_ll ..)) hl.1 rfl rfl (Nat.le_of_ble_eq_true rfl) dX5_gets_103 ⟨Nat.le_of_ble_eq_true rfl, Nat.le_of_ble_eq_true rfl⟩ (st1 := [.int x40]) rfl (fun H locs hw => ?_)
      refine lv_goto (tgt := 113) hx hb dX5_gets_106 (by decide) ?_
      exact r_i cx hr hlocks hw (pr1 h) (congrArg (fun z0 => (MC g q z0)) (pr2 h)) dX5_gets_113
  have L56 : ∀ (n56 : Nat) (a2 : Int32) (d_ : MD) (H : Heap) (locs : List Loc) (ls : Array Slot), Wd g (va_A ((MC g q d)) s.heap.size) ((MC g q d_)) s H locs → lv_has ls 4 [(0, .ref (q 0)), (2, .int a2)] → f_X5_gets_L56 N   n56 a2 d_ = some (r, d') → W p l e rm_X5_gets s m ([.ref (q 0), .int p1] : List Value).toArray below meth c H locs 0 0 (MQ below (QO (some (.int r)) g ((MC g q d')) (va_A ((MC g q d)) s.heap.size)) ([.ref (q 0), .int p1] : List Value).toArray s 0 0 (va_A ((MC g q d)) s.heap.size)) (F0 m 56 ls []) := by
    intro n56
    induction n56 with
    | zero => intro a2 d_ H locs ls hw hl h; exact (Option.some_ne_none _ h.symm).elim
    | succ n56 ih56 =>
      intro a2 d_ H locs ls hw hl h
      rw [f_X5_gets_L56] at h
      refine lv_iload_n hx hb dX5_gets_56 rfl (lv_at hl 1 rfl) ?_
      refine lv_bipush (v := 100) hx hb dX5_gets_57 (by decide) ?_
      refine lv_icmp_gt (tgt := 82) hx hb dX5_gets_59 (by decide) (fun c43 => ?_) (fun c43 => ?_)
      · replace h := ite_t c43 h
        exact J82 d_ _ _ _ hw (lv_sub hl [0] rfl) h
      · replace h := ite_f c43 h
        refine lv_aload_n hx hb dX5_gets_62 rfl (lv_at hl 0 rfl) ?_
        refine gf_X5_147 cx hw 0 rfl rfl dX5_gets_63 ?_
        refine lv_bipush (v := -2) hx hb dX5_gets_66 (by decide) ?_
        refine lv_icmp_ne (tgt := 82) hx hb dX5_gets_68 (by decide) (fun c44 => ?_) (fun c44 => ?_)
        · replace h := ite_f c44 h
          exact J82 d_ _ _ _ hw (lv_sub hl [0] rfl) h
        · replace h := ite_t c44 h
          refine lv_aload_n hx hb dX5_gets_71 rfl (lv_at hl 0 rfl) ?_
          obtain ⟨x45, d46, g47, h⟩ := bd2_ex h
          refine c_V (As := []) (rest := []) (w' := (MC g q d46)) cx hw (c_X5_goesOn l g q N  d_ x45 d46 g47) (cl_X5_150 cx.1.2.2.2.2 ⟨Nat.le_of_ble_eq_true rfl, Nat.le_of_ble_eq_true rfl⟩) (x_recv cx hw (ci := 5) rfl 0 rfl) (Ct.all (MC_ll ..)) hl.1 rfl rfl (Nat.le_of_ble_eq_true rfl) dX5_gets_72 ⟨Nat.le_of_ble_eq_true rfl, Nat.le_of_ble_eq_true rfl⟩ (st1 := [.int x45]) rfl (fun H locs hw => ?_)
          refine lv_istore_n (lv' := [(3, .int x45), (0, .ref (q 0)), (2, .int a2)]) hx hb dX5_gets_75 rfl hl (by decide) rfl (fun ls hl => ?_)
          obtain ⟨x48, ex48⟩ : ∃ y : Int32, y = (a2 + 1) := ⟨_, rfl⟩
          replace h := lt_nx ex48 h
          refine lv_iinc (v := x48) (lv' := [(2, .int x48), (3, .int x45), (0, .ref (q 0))]) hx hb dX5_gets_76 hl (k := 2) rfl (by rw [ex48]; rfl) (by decide) rfl (fun ls hl => ?_)
          refine lv_goto (tgt := 56) hx hb dX5_gets_79 (by decide) ?_
          exact ih56 x48 d46 _ _ _ hw (lv_sub hl [2, 0] rfl) h
  unfold f_X5_gets at h
  refine lv_aload_n hx hb dX5_gets_0 rfl (lv_at hl 0 rfl) ?_
  refine lv_iload_n hx hb dX5_gets_1 rfl (lv_at hl 1 rfl) ?_
  obtain ⟨x1, g2, h⟩ := bd_ex h
  refine c_V (As := [.int p1]) (rest := []) (w' := (MC g q d)) cx hw (c_X5_isOne l g q N p1 d x1 g2) (cl_X5_43 cx.1.2.2.2.2 ⟨Nat.le_of_ble_eq_true rfl, Nat.le_of_ble_eq_true rfl⟩) (x_recv cx hw (ci := 5) rfl 0 rfl) (Ct.all (MC_ll ..)) hl.1 rfl rfl (Nat.le_of_ble_eq_true rfl) dX5_gets_2 ⟨Nat.le_of_ble_eq_true rfl, Nat.le_of_ble_eq_true rfl⟩ (st1 := [.int x1]) rfl (fun H locs hw => ?_)
  refine lv_if_ne (tgt := 15) hx hb dX5_gets_5 (by decide) (fun c3 => ?_) (fun c3 => ?_)
  · replace h := ite_f c3 h
    refine lv_aload_n hx hb dX5_gets_15 rfl (lv_at hl 0 rfl) ?_
    refine lv_iload_n hx hb dX5_gets_16 rfl (lv_at hl 1 rfl) ?_
    obtain ⟨x4, g5, h⟩ := bd_ex h
    refine c_V (As := [.int p1]) (rest := []) (w' := (MC g q d)) cx hw (c_X5_lives l g q N p1 d x4 g5) (cl_X5_107 cx.1.2.2.2.2 ⟨Nat.le_of_ble_eq_true rfl, Nat.le_of_ble_eq_true rfl⟩) (x_recv cx hw (ci := 5) rfl 0 rfl) (Ct.all (MC_ll ..)) hl.1 rfl rfl (Nat.le_of_ble_eq_true rfl) dX5_gets_17 ⟨Nat.le_of_ble_eq_true rfl, Nat.le_of_ble_eq_true rfl⟩ (st1 := [.int x4]) rfl (fun H locs hw => ?_)
    refine lv_if_eq (tgt := 32) hx hb dX5_gets_20 (by decide) (fun c6 => ?_) (fun c6 => ?_)
    · replace h := ite_t c6 h
      refine lv_aload_n hx hb dX5_gets_32 rfl (lv_at hl 0 rfl) ?_
      refine lv_ldc hx hb cx.1.2.2.2.1 (cx.1.2.2.2.2 _ tw_4_229) dX5_gets_33 ?_
      obtain ⟨x7, d8, g9, h⟩ := bd2_ex h
      refine c_V (As := [.int (-1000000005 : Int32)]) (rest := []) (w' := (MC g q d8)) cx hw (c_X5_finds l g q N (-1000000005 : Int32) d x7 d8 g9) (cl_X5_62 cx.1.2.2.2.2 ⟨Nat.le_of_ble_eq_true rfl, Nat.le_of_ble_eq_true rfl⟩) (x_recv cx hw (ci := 5) rfl 0 rfl) (Ct.all (MC_ll ..)) hl.1 rfl rfl (Nat.le_of_ble_eq_true rfl) dX5_gets_35 ⟨Nat.le_of_ble_eq_true rfl, Nat.le_of_ble_eq_true rfl⟩ (st1 := [.int x7]) rfl (fun H locs hw => ?_)
      exact r_i cx hr hlocks hw (pr1 h) (congrArg (fun z0 => (MC g q z0)) (pr2 h)) dX5_gets_38
    · replace h := ite_f c6 h
      refine lv_aload_n hx hb dX5_gets_23 rfl (lv_at hl 0 rfl) ?_
      refine lv_bipush (v := 100) hx hb dX5_gets_24 (by decide) ?_
      obtain ⟨x10, g11, h⟩ := bd_ex h
      refine c_V (As := [.int (100 : Int32)]) (rest := []) (w' := (MC g q d)) cx hw (c_X5_isFar l g q N (100 : Int32) d x10 g11) (cl_X5_156 cx.1.2.2.2.2 ⟨Nat.le_of_ble_eq_true rfl, Nat.le_of_ble_eq_true rfl⟩) (x_recv cx hw (ci := 5) rfl 0 rfl) (Ct.all (MC_ll ..)) hl.1 rfl rfl (Nat.le_of_ble_eq_true rfl) dX5_gets_26 ⟨Nat.le_of_ble_eq_true rfl, Nat.le_of_ble_eq_true rfl⟩ (st1 := [.int x10]) rfl (fun H locs hw => ?_)
      refine lv_if_eq (tgt := 39) hx hb dX5_gets_29 (by decide) (fun c12 => ?_) (fun c12 => ?_)
      · replace h := ite_t c12 h
        refine lv_aload_n hx hb dX5_gets_39 rfl (lv_at hl 0 rfl) ?_
        obtain ⟨d13, g14, h⟩ := bd_ex h
        refine c_V (As := []) (rest := []) (w' := (MC g q d13)) cx hw (c_X5_laysBy l g q N  d d13 g14) (cl_X5_173 cx.1.2.2.2.2 ⟨Nat.le_of_ble_eq_true rfl, Nat.le_of_ble_eq_true rfl⟩) (x_recv cx hw (ci := 5) rfl 0 rfl) (Ct.all (MC_ll ..)) hl.1 rfl rfl (Nat.le_of_ble_eq_true rfl) dX5_gets_40 ⟨Nat.le_of_ble_eq_true rfl, Nat.le_of_ble_eq_true rfl⟩ (st1 := []) rfl (fun H locs hw => ?_)
        refine lv_aload_n hx hb dX5_gets_43 rfl (lv_at hl 0 rfl) ?_
        refine lv_iload_n hx hb dX5_gets_44 rfl (lv_at hl 1 rfl) ?_
        refine pf_X5_38 cx hw 0 rfl rfl rfl (Nat.le_of_ble_eq_true rfl) dX5_gets_45 (fun H locs hw => ?_)
        obtain ⟨d15, ed15, h⟩ := lt_ex h
        have hw : Wd g (va_A ((MC g q d)) s.heap.size) ((MC g q d15)) s H locs := by rw [ed15]; exact hw
        refine lv_aload_n hx hb dX5_gets_48 rfl (lv_at hl 0 rfl) ?_
        refine lv_bipush (v := -2) hx hb dX5_gets_49 (by decide) ?_
        refine pf_X5_147 cx hw 0 rfl rfl rfl (Nat.le_of_ble_eq_true rfl) dX5_gets_51 (fun H locs hw => ?_)
        obtain ⟨d16, ed16, h⟩ := lt_ex h
        have hw : Wd g (va_A ((MC g q d)) s.heap.size) ((MC g q d16)) s H locs := by rw [ed16]; exact hw
        refine lv_iconst (v := 1) hx hb dX5_gets_54 (by decide) ?_
        refine lv_istore_n (lv' := [(2, .int (1 : Int32)), (0, .ref (q 0)), (1, .int p1)]) hx hb dX5_gets_55 rfl hl (by decide) rfl (fun ls hl => ?_)
        exact L56 N (1 : Int32) d16 _ _ _ hw (lv_sub hl [1, 0] rfl) h
      · replace h := ite_f c12 h
        refine lv_aload_n hx hb dX5_gets_32 rfl (lv_at hl 0 rfl) ?_
        refine lv_ldc hx hb cx.1.2.2.2.1 (cx.1.2.2.2.2 _ tw_4_229) dX5_gets_33 ?_
        obtain ⟨x17, d18, g19, h⟩ := bd2_ex h
        refine c_V (As := [.int (-1000000005 : Int32)]) (rest := []) (w' := (MC g q d18)) cx hw (c_X5_finds l g q N (-1000000005 : Int32) d x17 d18 g19) (cl_X5_62 cx.1.2.2.2.2 ⟨Nat.le_of_ble_eq_true rfl, Nat.le_of_ble_eq_true rfl⟩) (x_recv cx hw (ci := 5) rfl 0 rfl) (Ct.all (MC_ll ..)) hl.1 rfl rfl (Nat.le_of_ble_eq_true rfl) dX5_gets_35 ⟨Nat.le_of_ble_eq_true rfl, Nat.le_of_ble_eq_true rfl⟩ (st1 := [.int x17]) rfl (fun H locs hw => ?_)
        exact r_i cx hr hlocks hw (pr1 h) (congrArg (fun z0 => (MC g q z0)) (pr2 h)) dX5_gets_38
  · replace h := ite_t c3 h
    refine lv_aload_n hx hb dX5_gets_8 rfl (lv_at hl 0 rfl) ?_
    refine lv_ldc hx hb cx.1.2.2.2.1 (cx.1.2.2.2.2 _ tw_4_79) dX5_gets_9 ?_
    obtain ⟨x20, d21, g22, h⟩ := bd2_ex h
    refine c_V (As := [.int (-1000000001 : Int32)]) (rest := []) (w' := (MC g q d21)) cx hw (c_X5_finds l g q N (-1000000001 : Int32) d x20 d21 g22) (cl_X5_62 cx.1.2.2.2.2 ⟨Nat.le_of_ble_eq_true rfl, Nat.le_of_ble_eq_true rfl⟩) (x_recv cx hw (ci := 5) rfl 0 rfl) (Ct.all (MC_ll ..)) hl.1 rfl rfl (Nat.le_of_ble_eq_true rfl) dX5_gets_11 ⟨Nat.le_of_ble_eq_true rfl, Nat.le_of_ble_eq_true rfl⟩ (st1 := [.int x20]) rfl (fun H locs hw => ?_)
    exact r_i cx hr hlocks hw (pr1 h) (congrArg (fun z0 => (MC g q z0)) (pr2 h)) dX5_gets_14
set_option maxHeartbeats 4000000 in
set_option maxRecDepth 100000 in
theorem c_X5_leastChange (l : Launch) (g : gE) (q : Nat → Nat) (N : Nat) (p1 : Int32) (p2 : Int32) (p3 : Int32) (d : MD) (r : Int32) (d' : MD) (h : f_X5_leastChange N  p1 p2 p3 d = some (r, d')) : MO l yX5_leastChange (Cond.code yX5_leastChange cX5_leastChange 8 (some .int) :: TB) rm_X5_leastChange [.ref (q 0), .int p1, .int p2, .int p3] g ((MC g q d)) ((MC g q d')) (some (.int r)) 0 0 := by
  refine MO.of (cc := cX5_leastChange) (maxL := 8) (ret := (some .int)) (by decide) ?_
  intro p e s m below meth c cx hw hr hlocks _
  have hx := cx.1.1
  have hb := cx.1.2.1
  refine en_go (lv := [(0, .ref (q 0)), (1, .int p1), (2, .int p2), (3, .int p3)]) (Nat.le_of_ble_eq_true rfl) rfl (fun ls hl => ?_)
  have L3 : ∀ (n3 : Nat) (a1 : Int32) (a2 : Int32) (a3 : Int32) (a4 : Int32) (d_ : MD) (H : Heap) (locs : List Loc) (ls : Array Slot), Wd g (va_A ((MC g q d)) s.heap.size) ((MC g q d_)) s H locs → lv_has ls 8 [(0, .ref (q 0)), (1, .int a1), (2, .int a2), (3, .int a3), (4, .int a4)] → f_X5_leastChange_L3 N   n3 a1 a2 a3 a4 d_ = some (r, d') → W p l e rm_X5_leastChange s m ([.ref (q 0), .int p1, .int p2, .int p3] : List Value).toArray below meth c H locs 0 0 (MQ below (QO (some (.int r)) g ((MC g q d')) (va_A ((MC g q d)) s.heap.size)) ([.ref (q 0), .int p1, .int p2, .int p3] : List Value).toArray s 0 0 (va_A ((MC g q d)) s.heap.size)) (F0 m 3 ls []) := by
    intro n3
    induction n3 with
    | zero => intro a1 a2 a3 a4 d_ H locs ls hw hl h; exact (Option.some_ne_none _ h.symm).elim
    | succ n3 ih3 =>
      have L25 : ∀ (n25 : Nat) (a1 : Int32) (a2 : Int32) (a3 : Int32) (a4 : Int32) (a5 : Int32) (a6 : Int32) (d_ : MD) (H : Heap) (locs : List Loc) (ls : Array Slot), Wd g (va_A ((MC g q d)) s.heap.size) ((MC g q d_)) s H locs → lv_has ls 8 [(0, .ref (q 0)), (1, .int a1), (2, .int a2), (3, .int a3), (4, .int a4), (5, .int a5), (6, .int a6)] → f_X5_leastChange_L25 N  (f_X5_leastChange_L3 N   n3) n25 a1 a2 a3 a4 a5 a6 d_ = some (r, d') → W p l e rm_X5_leastChange s m ([.ref (q 0), .int p1, .int p2, .int p3] : List Value).toArray below meth c H locs 0 0 (MQ below (QO (some (.int r)) g ((MC g q d')) (va_A ((MC g q d)) s.heap.size)) ([.ref (q 0), .int p1, .int p2, .int p3] : List Value).toArray s 0 0 (va_A ((MC g q d)) s.heap.size)) (F0 m 25 ls []) := by
        intro n25
        induction n25 with
        | zero => intro a1 a2 a3 a4 a5 a6 d_ H locs ls hw hl h; exact (Option.some_ne_none _ h.symm).elim
        | succ n25 ih25 =>
          have J64 : ∀ (a1 : Int32) (a2 : Int32) (a3 : Int32) (a4 : Int32) (a5 : Int32) (a6 : Int32) (t0 : Int32) (d_ : MD) (H : Heap) (locs : List Loc) (ls : Array Slot), Wd g (va_A ((MC g q d)) s.heap.size) ((MC g q d_)) s H locs → lv_has ls 8 [(0, .ref (q 0)), (1, .int a1), (2, .int a2), (3, .int a3), (4, .int a4), (5, .int a5), (6, .int a6)] → f_X5_leastChange_J64 N  (f_X5_leastChange_L3 N   n3) (f_X5_leastChange_L25 N  (f_X5_leastChange_L3 N   n3) n25) a1 a2 a3 a4 a5 a6 t0 d_ = some (r, d') → W p l e rm_X5_leastChange s m ([.ref (q 0), .int p1, .int p2, .int p3] : List Value).toArray below meth c H locs 0 0 (MQ below (QO (some (.int r)) g ((MC g q d')) (va_A ((MC g q d)) s.heap.size)) ([.ref (q 0), .int p1, .int p2, .int p3] : List Value).toArray s 0 0 (va_A ((MC g q d)) s.heap.size)) (F0 m 64 ls [.int t0]) := by
            intro a1 a2 a3 a4 a5 a6 t0 d_ H locs ls hw hl h
            unfold f_X5_leastChange_J64 at h
            refine lv_istore (lv' := [(7, .int t0), (0, .ref (q 0)), (1, .int a1), (2, .int a2), (3, .int a3), (4, .int a4), (5, .int a5), (6, .int a6)]) hx hb dX5_leastChange_64 hl (by decide) rfl (fun ls hl => ?_)
            refine lv_aload_n hx hb dX5_leastChange_66 rfl (lv_at hl 1 rfl) ?_
            refine lv_iload_n hx hb dX5_leastChange_67 rfl (lv_at hl 2 rfl) ?_
            refine lv_bipush (v := 6) hx hb dX5_leastChange_68 (by decide) ?_
            refine lv_iload hx hb dX5_leastChange_70 (lv_at hl 5 rfl) ?_
            refine lv_iadd hx hb dX5_leastChange_72 ?_
            refine lv_iload hx hb dX5_leastChange_73 (lv_at hl 6 rfl) ?_
            obtain ⟨d16, g17, h⟩ := bd_ex h
            refine c_V (As := [.int a1, .int ((6 : Int32) + a4), .int a5]) (rest := []) (w' := (MC g q d16)) cx hw (c_X5_puts l g q N a1 ((6 : Int32) + a4) a5 d_ d16 g17) (cl_X5_71 cx.1.2.2.2.2 ⟨Nat.le_of_ble_eq_true rfl, Nat.le_of_ble_eq_true rfl⟩) (x_recv cx hw (ci := 5) rfl 0 rfl) (Ct.all (MC_ll ..)) hl.1 rfl rfl (Nat.le_of_ble_eq_true rfl) dX5_leastChange_75 ⟨Nat.le_of_ble_eq_true rfl, Nat.le_of_ble_eq_true rfl⟩ (st1 := []) rfl (fun H locs hw => ?_)
            refine lv_iload hx hb dX5_leastChange_78 (lv_at hl 0 rfl) ?_
            refine lv_if_eq (tgt := 92) hx hb dX5_leastChange_80 (by decide) (fun c18 => ?_) (fun c18 => ?_)
            · replace h := ite_t c18 h
              obtain ⟨x19, ex19⟩ : ∃ y : Int32, y = (a6 + 1) := ⟨_, rfl⟩
              replace h := lt_nx ex19 h
              refine lv_iinc (v := x19) (lv' := [(6, .int x19), (7, .int t0), (0, .ref (q 0)), (1, .int a1), (2, .int a2), (3, .int a3), (4, .int a4), (5, .int a5)]) hx hb dX5_leastChange_92 hl (k := 7) rfl (by rw [ex19]; rfl) (by decide) rfl (fun ls hl => ?_)
              refine lv_goto (tgt := 25) hx hb dX5_leastChange_95 (by decide) ?_
              exact ih25 a1 a2 a3 a4 a5 x19 d16 _ _ _ hw (lv_sub hl [2, 3, 4, 5, 6, 7, 0] rfl) h
            · replace h := ite_f c18 h
              refine lv_bipush (v := 10) hx hb dX5_leastChange_83 (by decide) ?_
              refine lv_iload hx hb dX5_leastChange_85 (lv_at hl 5 rfl) ?_
              refine lv_imul hx hb dX5_leastChange_87 ?_
              refine lv_iload hx hb dX5_leastChange_88 (lv_at hl 7 rfl) ?_
              refine lv_iadd hx hb dX5_leastChange_90 ?_
              exact r_i cx hr hlocks hw (pr1 h) (congrArg (fun z0 => (MC g q z0)) (pr2 h)) dX5_leastChange_91
          have J63 : ∀ (a1 : Int32) (a2 : Int32) (a3 : Int32) (a4 : Int32) (a5 : Int32) (a6 : Int32) (d_ : MD) (H : Heap) (locs : List Loc) (ls : Array Slot), Wd g (va_A ((MC g q d)) s.heap.size) ((MC g q d_)) s H locs → lv_has ls 8 [(0, .ref (q 0)), (1, .int a1), (2, .int a2), (3, .int a3), (4, .int a4), (5, .int a5), (6, .int a6)] → f_X5_leastChange_J63 N  (f_X5_leastChange_L3 N   n3) (f_X5_leastChange_L25 N  (f_X5_leastChange_L3 N   n3) n25) a1 a2 a3 a4 a5 a6 d_ = some (r, d') → W p l e rm_X5_leastChange s m ([.ref (q 0), .int p1, .int p2, .int p3] : List Value).toArray below meth c H locs 0 0 (MQ below (QO (some (.int r)) g ((MC g q d')) (va_A ((MC g q d)) s.heap.size)) ([.ref (q 0), .int p1, .int p2, .int p3] : List Value).toArray s 0 0 (va_A ((MC g q d)) s.heap.size)) (F0 m 63 ls []) := by
            intro a1 a2 a3 a4 a5 a6 d_ H locs ls hw hl h
            unfold f_X5_leastChange_J63 at h
            refine lv_iconst (v := 0) hx hb dX5_leastChange_63 (by decide) ?_
            exact J64 a1 a2 a3 a4 a5 a6 (0 : Int32) d_ _ _ _ hw (lv_sub hl [0, 1, 2, 3, 4, 5, 6] rfl) h
          intro a1 a2 a3 a4 a5 a6 d_ H locs ls hw hl h
          rw [f_X5_leastChange_L25] at h
          refine lv_iload hx hb dX5_leastChange_25 (lv_at hl 6 rfl) ?_
          refine lv_iconst (v := 4) hx hb dX5_leastChange_27 (by decide) ?_
          refine lv_icmp_ge (tgt := 98) hx hb dX5_leastChange_28 (by decide) (fun c20 => ?_) (fun c20 => ?_)
          · replace h := ite_t c20 h
            obtain ⟨x21, ex21⟩ : ∃ y : Int32, y = (a4 + 1) := ⟨_, rfl⟩
            replace h := lt_nx ex21 h
            refine lv_iinc (v := x21) (lv' := [(4, .int x21), (0, .ref (q 0)), (1, .int a1), (2, .int a2), (3, .int a3), (5, .int a5), (6, .int a6)]) hx hb dX5_leastChange_98 hl (k := 4) rfl (by rw [ex21]; rfl) (by decide) rfl (fun ls hl => ?_)
            refine lv_goto (tgt := 3) hx hb dX5_leastChange_101 (by decide) ?_
            exact ih3 a1 a2 a3 x21 d_ _ _ _ hw (lv_sub hl [1, 2, 3, 4, 0] rfl) h
          · replace h := ite_f c20 h
            refine lv_aload_n hx hb dX5_leastChange_31 rfl (lv_at hl 0 rfl) ?_
            refine lv_iload_n hx hb dX5_leastChange_32 rfl (lv_at hl 1 rfl) ?_
            refine lv_bipush (v := 6) hx hb dX5_leastChange_33 (by decide) ?_
            refine lv_iload hx hb dX5_leastChange_35 (lv_at hl 4 rfl) ?_
            refine lv_iadd hx hb dX5_leastChange_37 ?_
            refine lv_iload hx hb dX5_leastChange_38 (lv_at hl 6 rfl) ?_
            obtain ⟨d22, g23, h⟩ := bd_ex h
            refine c_V (As := [.int a1, .int ((6 : Int32) + a4), .int a6]) (rest := []) (w' := (MC g q d22)) cx hw (c_X5_puts l g q N a1 ((6 : Int32) + a4) a6 d_ d22 g23) (cl_X5_71 cx.1.2.2.2.2 ⟨Nat.le_of_ble_eq_true rfl, Nat.le_of_ble_eq_true rfl⟩) (x_recv cx hw (ci := 5) rfl 0 rfl) (Ct.all (MC_ll ..)) hl.1 rfl rfl (Nat.le_of_ble_eq_true rfl) dX5_leastChange_40 ⟨Nat.le_of_ble_eq_true rfl, Nat.le_of_ble_eq_true rfl⟩ (st1 := []) rfl (fun H locs hw => ?_)
            refine lv_iload hx hb dX5_leastChange_43 (lv_at hl 6 rfl) ?_
            refine lv_iload hx hb dX5_leastChange_45 (lv_at hl 5 rfl) ?_
            refine lv_icmp_eq (tgt := 63) hx hb dX5_leastChange_47 (by decide) (fun c24 => ?_) (fun c24 => ?_)
            · replace h := ite_t c24 h
              exact J63 a1 a2 a3 a4 a5 a6 d22 _ _ _ hw (lv_sub hl [0, 1, 2, 3, 4, 5, 6] rfl) h
            · replace h := ite_f c24 h
              refine lv_aload_n hx hb dX5_leastChange_50 rfl (lv_at hl 0 rfl) ?_
              refine lv_iload_n hx hb dX5_leastChange_51 rfl (lv_at hl 2 rfl) ?_
              obtain ⟨x25, g26, h⟩ := bd_ex h
              refine c_V (As := [.int a2]) (rest := []) (w' := (MC g q d22)) cx hw (c_X5_heirFor l g q N a2 d22 x25 g26) (cl_X5_113 cx.1.2.2.2.2 ⟨Nat.le_of_ble_eq_true rfl, Nat.le_of_ble_eq_true rfl⟩) (x_recv cx hw (ci := 5) rfl 0 rfl) (Ct.all (MC_ll ..)) hl.1 rfl rfl (Nat.le_of_ble_eq_true rfl) dX5_leastChange_52 ⟨Nat.le_of_ble_eq_true rfl, Nat.le_of_ble_eq_true rfl⟩ (st1 := [.int x25]) rfl (fun H locs hw => ?_)
              refine lv_iload_n hx hb dX5_leastChange_55 rfl (lv_at hl 3 rfl) ?_
              refine lv_icmp_ne (tgt := 63) hx hb dX5_leastChange_56 (by decide) (fun c27 => ?_) (fun c27 => ?_)
              · replace h := ite_f c27 h
                exact J63 a1 a2 a3 a4 a5 a6 d22 _ _ _ hw (lv_sub hl [0, 1, 2, 3, 4, 5, 6] rfl) h
              · replace h := ite_t c27 h
                refine lv_iconst (v := 1) hx hb dX5_leastChange_59 (by decide) ?_
                refine lv_goto (tgt := 64) hx hb dX5_leastChange_60 (by decide) ?_
                exact J64 a1 a2 a3 a4 a5 a6 (1 : Int32) d22 _ _ _ hw (lv_sub hl [0, 1, 2, 3, 4, 5, 6] rfl) h
      intro a1 a2 a3 a4 d_ H locs ls hw hl h
      rw [f_X5_leastChange_L3] at h
      refine lv_iload hx hb dX5_leastChange_3 (lv_at hl 4 rfl) ?_
      refine lv_bipush (v := 9) hx hb dX5_leastChange_5 (by decide) ?_
      refine lv_icmp_ge (tgt := 104) hx hb dX5_leastChange_7 (by decide) (fun c28 => ?_) (fun c28 => ?_)
      · replace h := ite_t c28 h
        refine lv_iconst (v := -1) hx hb dX5_leastChange_104 (by decide) ?_
        exact r_i cx hr hlocks hw (pr1 h) (congrArg (fun z0 => (MC g q z0)) (pr2 h)) dX5_leastChange_105
      · replace h := ite_f c28 h
        refine lv_aload_n hx hb dX5_leastChange_10 rfl (lv_at hl 0 rfl) ?_
        refine lv_iload_n hx hb dX5_leastChange_11 rfl (lv_at hl 1 rfl) ?_
        refine lv_bipush (v := 6) hx hb dX5_leastChange_12 (by decide) ?_
        refine lv_iload hx hb dX5_leastChange_14 (lv_at hl 4 rfl) ?_
        refine lv_iadd hx hb dX5_leastChange_16 ?_
        obtain ⟨x29, g30, h⟩ := bd_ex h
        refine c_V (As := [.int a1, .int ((6 : Int32) + a4)]) (rest := []) (w' := (MC g q d_)) cx hw (c_X5_is l g q N a1 ((6 : Int32) + a4) d_ x29 g30) (cl_X5_47 cx.1.2.2.2.2 ⟨Nat.le_of_ble_eq_true rfl, Nat.le_of_ble_eq_true rfl⟩) (x_recv cx hw (ci := 5) rfl 0 rfl) (Ct.all (MC_ll ..)) hl.1 rfl rfl (Nat.le_of_ble_eq_true rfl) dX5_leastChange_17 ⟨Nat.le_of_ble_eq_true rfl, Nat.le_of_ble_eq_true rfl⟩ (st1 := [.int x29]) rfl (fun H locs hw => ?_)
        refine lv_istore (lv' := [(5, .int x29), (0, .ref (q 0)), (1, .int a1), (2, .int a2), (3, .int a3), (4, .int a4)]) hx hb dX5_leastChange_20 hl (by decide) rfl (fun ls hl => ?_)
        refine lv_iconst (v := 0) hx hb dX5_leastChange_22 (by decide) ?_
        refine lv_istore (lv' := [(6, .int (0 : Int32)), (5, .int x29), (0, .ref (q 0)), (1, .int a1), (2, .int a2), (3, .int a3), (4, .int a4)]) hx hb dX5_leastChange_23 hl (by decide) rfl (fun ls hl => ?_)
        exact L25 N a1 a2 a3 a4 x29 (0 : Int32) d_ _ _ _ hw (lv_sub hl [2, 3, 4, 5, 6, 1, 0] rfl) h
  unfold f_X5_leastChange at h
  refine lv_iconst (v := 0) hx hb dX5_leastChange_0 (by decide) ?_
  refine lv_istore (lv' := [(4, .int (0 : Int32)), (0, .ref (q 0)), (1, .int p1), (2, .int p2), (3, .int p3)]) hx hb dX5_leastChange_1 hl (by decide) rfl (fun ls hl => ?_)
  exact L3 N p1 p2 p3 (0 : Int32) d _ _ _ hw (lv_sub hl [1, 2, 3, 4, 0] rfl) h
set_option maxHeartbeats 4000000 in
set_option maxRecDepth 100000 in
theorem c_X5_change (l : Launch) (g : gE) (q : Nat → Nat) (N : Nat) (p1 : Int32) (p2 : Int32) (d : MD) (r : Int32) (d' : MD) (h : f_X5_change N  p1 p2 d = some (r, d')) : MO l yX5_change (Cond.code yX5_change cX5_change 4 (some .int) :: TB) rm_X5_change [.ref (q 0), .int p1, .int p2] g ((MC g q d)) ((MC g q d')) (some (.int r)) 0 0 := by
  refine MO.of (cc := cX5_change) (maxL := 4) (ret := (some .int)) (by decide) ?_
  intro p e s m below meth c cx hw hr hlocks _
  have hx := cx.1.1
  have hb := cx.1.2.1
  refine en_go (lv := [(0, .ref (q 0)), (1, .int p1), (2, .int p2)]) (Nat.le_of_ble_eq_true rfl) rfl (fun ls hl => ?_)
  unfold f_X5_change at h
  refine lv_aload_n hx hb dX5_change_0 rfl (lv_at hl 0 rfl) ?_
  refine lv_iload_n hx hb dX5_change_1 rfl (lv_at hl 1 rfl) ?_
  refine lv_iload_n hx hb dX5_change_2 rfl (lv_at hl 2 rfl) ?_
  obtain ⟨x1, g2, h⟩ := bd_ex h
  refine c_V (As := [.int p1, .int p2]) (rest := []) (w' := (MC g q d)) cx hw (c_X5_areTwo l g q N p1 p2 d x1 g2) (cl_X5_90 cx.1.2.2.2.2 ⟨Nat.le_of_ble_eq_true rfl, Nat.le_of_ble_eq_true rfl⟩) (x_recv cx hw (ci := 5) rfl 0 rfl) (Ct.all (MC_ll ..)) hl.1 rfl rfl (Nat.le_of_ble_eq_true rfl) dX5_change_3 ⟨Nat.le_of_ble_eq_true rfl, Nat.le_of_ble_eq_true rfl⟩ (st1 := [.int x1]) rfl (fun H locs hw => ?_)
  refine lv_if_ne (tgt := 16) hx hb dX5_change_6 (by decide) (fun c3 => ?_) (fun c3 => ?_)
  · replace h := ite_f c3 h
    refine lv_aload_n hx hb dX5_change_16 rfl (lv_at hl 0 rfl) ?_
    refine lv_iload_n hx hb dX5_change_17 rfl (lv_at hl 1 rfl) ?_
    obtain ⟨x4, g5, h⟩ := bd_ex h
    refine c_V (As := [.int p1]) (rest := []) (w' := (MC g q d)) cx hw (c_X5_lives l g q N p1 d x4 g5) (cl_X5_107 cx.1.2.2.2.2 ⟨Nat.le_of_ble_eq_true rfl, Nat.le_of_ble_eq_true rfl⟩) (x_recv cx hw (ci := 5) rfl 0 rfl) (Ct.all (MC_ll ..)) hl.1 rfl rfl (Nat.le_of_ble_eq_true rfl) dX5_change_18 ⟨Nat.le_of_ble_eq_true rfl, Nat.le_of_ble_eq_true rfl⟩ (st1 := [.int x4]) rfl (fun H locs hw => ?_)
    refine lv_if_eq (tgt := 33) hx hb dX5_change_21 (by decide) (fun c6 => ?_) (fun c6 => ?_)
    · replace h := ite_t c6 h
      refine lv_aload_n hx hb dX5_change_33 rfl (lv_at hl 0 rfl) ?_
      refine lv_ldc hx hb cx.1.2.2.2.1 (cx.1.2.2.2.2 _ tw_4_229) dX5_change_34 ?_
      obtain ⟨x7, d8, g9, h⟩ := bd2_ex h
      refine c_V (As := [.int (-1000000005 : Int32)]) (rest := []) (w' := (MC g q d8)) cx hw (c_X5_finds l g q N (-1000000005 : Int32) d x7 d8 g9) (cl_X5_62 cx.1.2.2.2.2 ⟨Nat.le_of_ble_eq_true rfl, Nat.le_of_ble_eq_true rfl⟩) (x_recv cx hw (ci := 5) rfl 0 rfl) (Ct.all (MC_ll ..)) hl.1 rfl rfl (Nat.le_of_ble_eq_true rfl) dX5_change_36 ⟨Nat.le_of_ble_eq_true rfl, Nat.le_of_ble_eq_true rfl⟩ (st1 := [.int x7]) rfl (fun H locs hw => ?_)
      exact r_i cx hr hlocks hw (pr1 h) (congrArg (fun z0 => (MC g q z0)) (pr2 h)) dX5_change_39
    · replace h := ite_f c6 h
      refine lv_aload_n hx hb dX5_change_24 rfl (lv_at hl 0 rfl) ?_
      refine lv_iload_n hx hb dX5_change_25 rfl (lv_at hl 2 rfl) ?_
      obtain ⟨x10, g11, h⟩ := bd_ex h
      refine c_V (As := [.int p2]) (rest := []) (w' := (MC g q d)) cx hw (c_X5_heirFor l g q N p2 d x10 g11) (cl_X5_113 cx.1.2.2.2.2 ⟨Nat.le_of_ble_eq_true rfl, Nat.le_of_ble_eq_true rfl⟩) (x_recv cx hw (ci := 5) rfl 0 rfl) (Ct.all (MC_ll ..)) hl.1 rfl rfl (Nat.le_of_ble_eq_true rfl) dX5_change_26 ⟨Nat.le_of_ble_eq_true rfl, Nat.le_of_ble_eq_true rfl⟩ (st1 := [.int x10]) rfl (fun H locs hw => ?_)
      refine lv_iload_n hx hb dX5_change_29 rfl (lv_at hl 1 rfl) ?_
      refine lv_icmp_ne (tgt := 40) hx hb dX5_change_30 (by decide) (fun c12 => ?_) (fun c12 => ?_)
      · replace h := ite_f c12 h
        refine lv_aload_n hx hb dX5_change_40 rfl (lv_at hl 0 rfl) ?_
        refine lv_iload_n hx hb dX5_change_41 rfl (lv_at hl 1 rfl) ?_
        refine lv_iload_n hx hb dX5_change_42 rfl (lv_at hl 2 rfl) ?_
        refine lv_iload_n hx hb dX5_change_43 rfl (lv_at hl 1 rfl) ?_
        obtain ⟨x13, d14, g15, h⟩ := bd2_ex h
        refine c_V (As := [.int p1, .int p2, .int p1]) (rest := []) (w' := (MC g q d14)) cx hw (c_X5_leastChange l g q N p1 p2 p1 d x13 d14 g15) (cl_X5_182 cx.1.2.2.2.2 ⟨Nat.le_of_ble_eq_true rfl, Nat.le_of_ble_eq_true rfl⟩) (x_recv cx hw (ci := 5) rfl 0 rfl) (Ct.all (MC_ll ..)) hl.1 rfl rfl (Nat.le_of_ble_eq_true rfl) dX5_change_44 ⟨Nat.le_of_ble_eq_true rfl, Nat.le_of_ble_eq_true rfl⟩ (st1 := [.int x13]) rfl (fun H locs hw => ?_)
        refine lv_istore_n (lv' := [(3, .int x13), (0, .ref (q 0)), (1, .int p1), (2, .int p2)]) hx hb dX5_change_47 rfl hl (by decide) rfl (fun ls hl => ?_)
        refine lv_iload_n hx hb dX5_change_48 rfl (lv_at hl 0 rfl) ?_
        refine lv_if_ge (tgt := 61) hx hb dX5_change_49 (by decide) (fun c16 => ?_) (fun c16 => ?_)
        · replace h := ite_t c16 h
          refine lv_iload_n hx hb dX5_change_61 rfl (lv_at hl 0 rfl) ?_
          exact r_i cx hr hlocks hw (pr1 h) (congrArg (fun z0 => (MC g q z0)) (pr2 h)) dX5_change_62
        · replace h := ite_f c16 h
          refine lv_aload_n hx hb dX5_change_52 rfl (lv_at hl 1 rfl) ?_
          refine lv_ldc hx hb cx.1.2.2.2.1 (cx.1.2.2.2.2 _ tw_4_195) dX5_change_53 ?_
          obtain ⟨x17, d18, g19, h⟩ := bd2_ex h
          refine c_V (As := [.int (-1000000004 : Int32)]) (rest := []) (w' := (MC g q d18)) cx hw (c_X5_finds l g q N (-1000000004 : Int32) d14 x17 d18 g19) (cl_X5_62 cx.1.2.2.2.2 ⟨Nat.le_of_ble_eq_true rfl, Nat.le_of_ble_eq_true rfl⟩) (x_recv cx hw (ci := 5) rfl 0 rfl) (Ct.all (MC_ll ..)) hl.1 rfl rfl (Nat.le_of_ble_eq_true rfl) dX5_change_55 ⟨Nat.le_of_ble_eq_true rfl, Nat.le_of_ble_eq_true rfl⟩ (st1 := [.int x17]) rfl (fun H locs hw => ?_)
          refine lv_goto (tgt := 62) hx hb dX5_change_58 (by decide) ?_
          exact r_i cx hr hlocks hw (pr1 h) (congrArg (fun z0 => (MC g q z0)) (pr2 h)) dX5_change_62
      · replace h := ite_t c12 h
        refine lv_aload_n hx hb dX5_change_33 rfl (lv_at hl 0 rfl) ?_
        refine lv_ldc hx hb cx.1.2.2.2.1 (cx.1.2.2.2.2 _ tw_4_229) dX5_change_34 ?_
        obtain ⟨x20, d21, g22, h⟩ := bd2_ex h
        refine c_V (As := [.int (-1000000005 : Int32)]) (rest := []) (w' := (MC g q d21)) cx hw (c_X5_finds l g q N (-1000000005 : Int32) d x20 d21 g22) (cl_X5_62 cx.1.2.2.2.2 ⟨Nat.le_of_ble_eq_true rfl, Nat.le_of_ble_eq_true rfl⟩) (x_recv cx hw (ci := 5) rfl 0 rfl) (Ct.all (MC_ll ..)) hl.1 rfl rfl (Nat.le_of_ble_eq_true rfl) dX5_change_36 ⟨Nat.le_of_ble_eq_true rfl, Nat.le_of_ble_eq_true rfl⟩ (st1 := [.int x20]) rfl (fun H locs hw => ?_)
        exact r_i cx hr hlocks hw (pr1 h) (congrArg (fun z0 => (MC g q z0)) (pr2 h)) dX5_change_39
  · replace h := ite_t c3 h
    refine lv_aload_n hx hb dX5_change_9 rfl (lv_at hl 0 rfl) ?_
    refine lv_ldc hx hb cx.1.2.2.2.1 (cx.1.2.2.2.2 _ tw_4_79) dX5_change_10 ?_
    obtain ⟨x23, d24, g25, h⟩ := bd2_ex h
    refine c_V (As := [.int (-1000000001 : Int32)]) (rest := []) (w' := (MC g q d24)) cx hw (c_X5_finds l g q N (-1000000001 : Int32) d x23 d24 g25) (cl_X5_62 cx.1.2.2.2.2 ⟨Nat.le_of_ble_eq_true rfl, Nat.le_of_ble_eq_true rfl⟩) (x_recv cx hw (ci := 5) rfl 0 rfl) (Ct.all (MC_ll ..)) hl.1 rfl rfl (Nat.le_of_ble_eq_true rfl) dX5_change_12 ⟨Nat.le_of_ble_eq_true rfl, Nat.le_of_ble_eq_true rfl⟩ (st1 := [.int x23]) rfl (fun H locs hw => ?_)
    exact r_i cx hr hlocks hw (pr1 h) (congrArg (fun z0 => (MC g q z0)) (pr2 h)) dX5_change_15
set_option maxHeartbeats 4000000 in
set_option maxRecDepth 100000 in
theorem c_X5_manyIn (l : Launch) (g : gE)  (N : Nat) (p0 : Int32)  (r : Int32) (h : f_X5_manyIn N  p0 = some r) : MO l yX5_manyIn (Cond.code yX5_manyIn cX5_manyIn 3 (some .int) :: TB) rm_X5_manyIn [.int p0] g (([] : va_W)) (([] : va_W)) (some (.int r)) 0 0 := by
  refine MO.of (cc := cX5_manyIn) (maxL := 3) (ret := (some .int)) (by decide) ?_
  intro p e s m below meth c cx hw hr hlocks _
  have hx := cx.1.1
  have hb := cx.1.2.1
  refine en_go (lv := [(0, .int p0)]) (Nat.le_of_ble_eq_true rfl) rfl (fun ls hl => ?_)
  have L4 : ∀ (n4 : Nat) (a1 : Int32) (a2 : Int32) (H : Heap) (locs : List Loc) (ls : Array Slot), Wd g (va_A (([] : va_W)) s.heap.size) (([] : va_W)) s H locs → lv_has ls 3 [(1, .int a1), (2, .int a2)] → f_X5_manyIn_L4 N   n4 a1 a2 = some r → W p l e rm_X5_manyIn s m ([.int p0] : List Value).toArray below meth c H locs 0 0 (MQ below (QO (some (.int r)) g (([] : va_W)) (va_A (([] : va_W)) s.heap.size)) ([.int p0] : List Value).toArray s 0 0 (va_A (([] : va_W)) s.heap.size)) (F0 m 4 ls []) := by
    intro n4
    induction n4 with
    | zero => intro a1 a2 H locs ls hw hl h; exact (Option.some_ne_none _ h.symm).elim
    | succ n4 ih4 =>
      intro a1 a2 H locs ls hw hl h
      rw [f_X5_manyIn_L4] at h
      refine lv_iload_n hx hb dX5_manyIn_4 rfl (lv_at hl 1 rfl) ?_
      refine lv_if_eq (tgt := 20) hx hb dX5_manyIn_5 (by decide) (fun c4 => ?_) (fun c4 => ?_)
      · replace h := ite_t c4 h
        refine lv_iload_n hx hb dX5_manyIn_20 rfl (lv_at hl 0 rfl) ?_
        exact r_i cx hr hlocks hw (sm_eq h) rfl dX5_manyIn_21
      · replace h := ite_f c4 h
        obtain ⟨x5, ex5⟩ : ∃ y : Int32, y = (a1 + 1) := ⟨_, rfl⟩
        replace h := lt_nx ex5 h
        refine lv_iinc (v := x5) (lv' := [(1, .int x5), (2, .int a2)]) hx hb dX5_manyIn_8 hl (k := 0) rfl (by rw [ex5]; rfl) (by decide) rfl (fun ls hl => ?_)
        refine lv_iload_n hx hb dX5_manyIn_11 rfl (lv_at hl 1 rfl) ?_
        refine lv_iload_n hx hb dX5_manyIn_12 rfl (lv_at hl 1 rfl) ?_
        refine lv_iconst (v := 1) hx hb dX5_manyIn_13 (by decide) ?_
        refine lv_isub hx hb dX5_manyIn_14 ?_
        refine lv_iand hx hb dX5_manyIn_15 ?_
        refine lv_topi (fun x6 ex6 => ?_)
        replace h := lt_nx ex6 h
        refine lv_istore_n (lv' := [(2, .int x6), (1, .int x5)]) hx hb dX5_manyIn_16 rfl hl (by decide) rfl (fun ls hl => ?_)
        refine lv_goto (tgt := 4) hx hb dX5_manyIn_17 (by decide) ?_
        exact ih4 x5 x6 _ _ _ hw (lv_sub hl [1, 0] rfl) h
  unfold f_X5_manyIn at h
  refine lv_iconst (v := 0) hx hb dX5_manyIn_0 (by decide) ?_
  refine lv_istore_n (lv' := [(1, .int (0 : Int32)), (0, .int p0)]) hx hb dX5_manyIn_1 rfl hl (by decide) rfl (fun ls hl => ?_)
  refine lv_iload_n hx hb dX5_manyIn_2 rfl (lv_at hl 1 rfl) ?_
  refine lv_istore_n (lv' := [(2, .int p0), (1, .int (0 : Int32)), (0, .int p0)]) hx hb dX5_manyIn_3 rfl hl (by decide) rfl (fun ls hl => ?_)
  exact L4 N (0 : Int32) p0 _ _ _ hw (lv_sub hl [1, 0] rfl) h
set_option maxHeartbeats 4000000 in
set_option maxRecDepth 100000 in
theorem c_X5_isHeirBy (l : Launch) (g : gE) (q : Nat → Nat) (N : Nat) (p1 : Int32) (p2 : Int32) (p3 : Int32) (d : MD) (r : Int32) (d' : MD) (h : f_X5_isHeirBy N  p1 p2 p3 d = some (r, d')) : MO l yX5_isHeirBy (Cond.code yX5_isHeirBy cX5_isHeirBy 5 (some .boolean) :: TB) rm_X5_isHeirBy [.ref (q 0), .int p1, .int p2, .int p3] g ((MC g q d)) ((MC g q d')) (some (.int r)) 0 0 := by
  refine MO.of (cc := cX5_isHeirBy) (maxL := 5) (ret := (some .boolean)) (by decide) ?_
  intro p e s m below meth c cx hw hr hlocks _
  have hx := cx.1.1
  have hb := cx.1.2.1
  refine en_go (lv := [(0, .ref (q 0)), (1, .int p1), (2, .int p2), (3, .int p3)]) (Nat.le_of_ble_eq_true rfl) rfl (fun ls hl => ?_)
  have L7 : ∀ (n7 : Nat) (a1 : Int32) (a2 : Int32) (a3 : Int32) (a4 : Int32) (d_ : MD) (H : Heap) (locs : List Loc) (ls : Array Slot), Wd g (va_A ((MC g q d)) s.heap.size) ((MC g q d_)) s H locs → lv_has ls 5 [(0, .ref (q 0)), (1, .int a1), (2, .int a2), (3, .int a3), (4, .int a4)] → f_X5_isHeirBy_L7 N   n7 a1 a2 a3 a4 d_ = some (r, d') → W p l e rm_X5_isHeirBy s m ([.ref (q 0), .int p1, .int p2, .int p3] : List Value).toArray below meth c H locs 0 0 (MQ below (QO (some (.int r)) g ((MC g q d')) (va_A ((MC g q d)) s.heap.size)) ([.ref (q 0), .int p1, .int p2, .int p3] : List Value).toArray s 0 0 (va_A ((MC g q d)) s.heap.size)) (F0 m 7 ls []) := by
    intro n7
    induction n7 with
    | zero => intro a1 a2 a3 a4 d_ H locs ls hw hl h; exact (Option.some_ne_none _ h.symm).elim
    | succ n7 ih7 =>
      intro a1 a2 a3 a4 d_ H locs ls hw hl h
      rw [f_X5_isHeirBy_L7] at h
      refine lv_iload hx hb dX5_isHeirBy_7 (lv_at hl 4 rfl) ?_
      refine lv_bipush (v := 9) hx hb dX5_isHeirBy_9 (by decide) ?_
      refine lv_icmp_ge (tgt := 50) hx hb dX5_isHeirBy_11 (by decide) (fun c18 => ?_) (fun c18 => ?_)
      · replace h := ite_t c18 h
        refine lv_aload_n hx hb dX5_isHeirBy_50 rfl (lv_at hl 0 rfl) ?_
        refine lv_iload_n hx hb dX5_isHeirBy_51 rfl (lv_at hl 2 rfl) ?_
        obtain ⟨x19, g20, h⟩ := bd_ex h
        refine c_V (As := [.int a2]) (rest := []) (w' := (MC g q d_)) cx hw (c_X5_heirFor l g q N a2 d_ x19 g20) (cl_X5_113 cx.1.2.2.2.2 ⟨Nat.le_of_ble_eq_true rfl, Nat.le_of_ble_eq_true rfl⟩) (x_recv cx hw (ci := 5) rfl 0 rfl) (Ct.all (MC_ll ..)) hl.1 rfl rfl (Nat.le_of_ble_eq_true rfl) dX5_isHeirBy_52 ⟨Nat.le_of_ble_eq_true rfl, Nat.le_of_ble_eq_true rfl⟩ (st1 := [.int x19]) rfl (fun H locs hw => ?_)
        refine lv_iload_n hx hb dX5_isHeirBy_55 rfl (lv_at hl 1 rfl) ?_
        refine lv_icmp_ne (tgt := 63) hx hb dX5_isHeirBy_56 (by decide) (fun c21 => ?_) (fun c21 => ?_)
        · replace h := ite_f c21 h
          refine lv_iconst (v := 0) hx hb dX5_isHeirBy_63 (by decide) ?_
          refine lv_istore (lv' := [(4, .int (0 : Int32)), (0, .ref (q 0)), (1, .int a1), (2, .int a2), (3, .int a3)]) hx hb dX5_isHeirBy_64 hl (by decide) rfl (fun ls hl => ?_)
          refine lv_aload_n hx hb dX5_isHeirBy_66 rfl (lv_at hl 1 rfl) ?_
          obtain ⟨d22, g23, h⟩ := bd_ex h
          refine c_V (As := []) (rest := []) (w' := (MC g q d22)) cx hw (c_X5_laysBack l g q N  d_ d22 g23) (cl_X5_176 cx.1.2.2.2.2 ⟨Nat.le_of_ble_eq_true rfl, Nat.le_of_ble_eq_true rfl⟩) (x_recv cx hw (ci := 5) rfl 0 rfl) (Ct.all (MC_ll ..)) hl.1 rfl rfl (Nat.le_of_ble_eq_true rfl) dX5_isHeirBy_67 ⟨Nat.le_of_ble_eq_true rfl, Nat.le_of_ble_eq_true rfl⟩ (st1 := []) rfl (fun H locs hw => ?_)
          refine lv_iload hx hb dX5_isHeirBy_70 (lv_at hl 0 rfl) ?_
          exact r_z cx hr hlocks rfl hw (pr1 h) (congrArg (fun z0 => (MC g q z0)) (pr2 h)) dX5_isHeirBy_72
        · replace h := ite_t c21 h
          refine lv_iconst (v := 1) hx hb dX5_isHeirBy_59 (by decide) ?_
          refine lv_goto (tgt := 64) hx hb dX5_isHeirBy_60 (by decide) ?_
          refine lv_istore (lv' := [(4, .int (1 : Int32)), (0, .ref (q 0)), (1, .int a1), (2, .int a2), (3, .int a3)]) hx hb dX5_isHeirBy_64 hl (by decide) rfl (fun ls hl => ?_)
          refine lv_aload_n hx hb dX5_isHeirBy_66 rfl (lv_at hl 1 rfl) ?_
          obtain ⟨d24, g25, h⟩ := bd_ex h
          refine c_V (As := []) (rest := []) (w' := (MC g q d24)) cx hw (c_X5_laysBack l g q N  d_ d24 g25) (cl_X5_176 cx.1.2.2.2.2 ⟨Nat.le_of_ble_eq_true rfl, Nat.le_of_ble_eq_true rfl⟩) (x_recv cx hw (ci := 5) rfl 0 rfl) (Ct.all (MC_ll ..)) hl.1 rfl rfl (Nat.le_of_ble_eq_true rfl) dX5_isHeirBy_67 ⟨Nat.le_of_ble_eq_true rfl, Nat.le_of_ble_eq_true rfl⟩ (st1 := []) rfl (fun H locs hw => ?_)
          refine lv_iload hx hb dX5_isHeirBy_70 (lv_at hl 0 rfl) ?_
          exact r_z cx hr hlocks rfl hw (pr1 h) (congrArg (fun z0 => (MC g q z0)) (pr2 h)) dX5_isHeirBy_72
      · replace h := ite_f c18 h
        refine lv_iload_n hx hb dX5_isHeirBy_14 rfl (lv_at hl 3 rfl) ?_
        refine lv_iload hx hb dX5_isHeirBy_15 (lv_at hl 4 rfl) ?_
        refine lv_ishr hx hb dX5_isHeirBy_17 ?_
        refine lv_iconst (v := 1) hx hb dX5_isHeirBy_18 (by decide) ?_
        refine lv_iand hx hb dX5_isHeirBy_19 ?_
        refine lv_iconst (v := 1) hx hb dX5_isHeirBy_20 (by decide) ?_
        refine lv_icmp_ne (tgt := 44) hx hb dX5_isHeirBy_21 (by decide) (fun c26 => ?_) (fun c26 => ?_)
        · replace h := ite_f c26 h
          obtain ⟨x27, ex27⟩ : ∃ y : Int32, y = (a4 + 1) := ⟨_, rfl⟩
          replace h := lt_nx ex27 h
          refine lv_iinc (v := x27) (lv' := [(4, .int x27), (0, .ref (q 0)), (1, .int a1), (2, .int a2), (3, .int a3)]) hx hb dX5_isHeirBy_44 hl (k := 4) rfl (by rw [ex27]; rfl) (by decide) rfl (fun ls hl => ?_)
          refine lv_goto (tgt := 7) hx hb dX5_isHeirBy_47 (by decide) ?_
          exact ih7 a1 a2 a3 x27 d_ _ _ _ hw (lv_sub hl [1, 2, 3, 4, 0] rfl) h
        · replace h := ite_t c26 h
          refine lv_aload_n hx hb dX5_isHeirBy_24 rfl (lv_at hl 0 rfl) ?_
          refine lv_iload_n hx hb dX5_isHeirBy_25 rfl (lv_at hl 1 rfl) ?_
          refine lv_bipush (v := 6) hx hb dX5_isHeirBy_26 (by decide) ?_
          refine lv_iload hx hb dX5_isHeirBy_28 (lv_at hl 4 rfl) ?_
          refine lv_iadd hx hb dX5_isHeirBy_30 ?_
          refine lv_aload_n hx hb dX5_isHeirBy_31 rfl (lv_at hl 0 rfl) ?_
          refine lv_iload_n hx hb dX5_isHeirBy_32 rfl (lv_at hl 2 rfl) ?_
          refine lv_bipush (v := 6) hx hb dX5_isHeirBy_33 (by decide) ?_
          refine lv_iload hx hb dX5_isHeirBy_35 (lv_at hl 4 rfl) ?_
          refine lv_iadd hx hb dX5_isHeirBy_37 ?_
          obtain ⟨x28, g29, h⟩ := bd_ex h
          refine c_V (As := [.int a2, .int ((6 : Int32) + a4)]) (rest := [.int ((6 : Int32) + a4), .int a1, .ref (q 0)]) (w' := (MC g q d_)) cx hw (c_X5_is l g q N a2 ((6 : Int32) + a4) d_ x28 g29) (cl_X5_47 cx.1.2.2.2.2 ⟨Nat.le_of_ble_eq_true rfl, Nat.le_of_ble_eq_true rfl⟩) (x_recv cx hw (ci := 5) rfl 0 rfl) (Ct.all (MC_ll ..)) hl.1 rfl rfl (Nat.le_of_ble_eq_true rfl) dX5_isHeirBy_38 ⟨Nat.le_of_ble_eq_true rfl, Nat.le_of_ble_eq_true rfl⟩ (st1 := [.int x28, .int ((6 : Int32) + a4), .int a1, .ref (q 0)]) rfl (fun H locs hw => ?_)
          obtain ⟨d30, g31, h⟩ := bd_ex h
          refine c_V (As := [.int a1, .int ((6 : Int32) + a4), .int x28]) (rest := []) (w' := (MC g q d30)) cx hw (c_X5_puts l g q N a1 ((6 : Int32) + a4) x28 d_ d30 g31) (cl_X5_71 cx.1.2.2.2.2 ⟨Nat.le_of_ble_eq_true rfl, Nat.le_of_ble_eq_true rfl⟩) (x_recv cx hw (ci := 5) rfl 0 rfl) (Ct.all (MC_ll ..)) hl.1 rfl rfl (Nat.le_of_ble_eq_true rfl) dX5_isHeirBy_41 ⟨Nat.le_of_ble_eq_true rfl, Nat.le_of_ble_eq_true rfl⟩ (st1 := []) rfl (fun H locs hw => ?_)
          obtain ⟨x32, ex32⟩ : ∃ y : Int32, y = (a4 + 1) := ⟨_, rfl⟩
          replace h := lt_nx ex32 h
          refine lv_iinc (v := x32) (lv' := [(4, .int x32), (0, .ref (q 0)), (1, .int a1), (2, .int a2), (3, .int a3)]) hx hb dX5_isHeirBy_44 hl (k := 4) rfl (by rw [ex32]; rfl) (by decide) rfl (fun ls hl => ?_)
          refine lv_goto (tgt := 7) hx hb dX5_isHeirBy_47 (by decide) ?_
          exact ih7 a1 a2 a3 x32 d30 _ _ _ hw (lv_sub hl [1, 2, 3, 4, 0] rfl) h
  unfold f_X5_isHeirBy at h
  refine lv_aload_n hx hb dX5_isHeirBy_0 rfl (lv_at hl 0 rfl) ?_
  obtain ⟨d1, g2, h⟩ := bd_ex h
  refine c_V (As := []) (rest := []) (w' := (MC g q d1)) cx hw (c_X5_laysBy l g q N  d d1 g2) (cl_X5_173 cx.1.2.2.2.2 ⟨Nat.le_of_ble_eq_true rfl, Nat.le_of_ble_eq_true rfl⟩) (x_recv cx hw (ci := 5) rfl 0 rfl) (Ct.all (MC_ll ..)) hl.1 rfl rfl (Nat.le_of_ble_eq_true rfl) dX5_isHeirBy_1 ⟨Nat.le_of_ble_eq_true rfl, Nat.le_of_ble_eq_true rfl⟩ (st1 := []) rfl (fun H locs hw => ?_)
  refine lv_iconst (v := 0) hx hb dX5_isHeirBy_4 (by decide) ?_
  refine lv_istore (lv' := [(4, .int (0 : Int32)), (0, .ref (q 0)), (1, .int p1), (2, .int p2), (3, .int p3)]) hx hb dX5_isHeirBy_5 hl (by decide) rfl (fun ls hl => ?_)
  exact L7 N p1 p2 p3 (0 : Int32) d1 _ _ _ hw (lv_sub hl [1, 2, 3, 4, 0] rfl) h
set_option maxHeartbeats 4000000 in
set_option maxRecDepth 100000 in
theorem c_X5_fewest (l : Launch) (g : gE) (q : Nat → Nat) (N : Nat) (p1 : Int32) (p2 : Int32) (d : MD) (r : Int32) (d' : MD) (h : f_X5_fewest N  p1 p2 d = some (r, d')) : MO l yX5_fewest (Cond.code yX5_fewest cX5_fewest 5 (some .int) :: TB) rm_X5_fewest [.ref (q 0), .int p1, .int p2] g ((MC g q d)) ((MC g q d')) (some (.int r)) 0 0 := by
  refine MO.of (cc := cX5_fewest) (maxL := 5) (ret := (some .int)) (by decide) ?_
  intro p e s m below meth c cx hw hr hlocks _
  have hx := cx.1.1
  have hb := cx.1.2.1
  refine en_go (lv := [(0, .ref (q 0)), (1, .int p1), (2, .int p2)]) (Nat.le_of_ble_eq_true rfl) rfl (fun ls hl => ?_)
  have L37 : ∀ (n37 : Nat) (a1 : Int32) (a2 : Int32) (a3 : Int32) (a4 : Int32) (d_ : MD) (H : Heap) (locs : List Loc) (ls : Array Slot), Wd g (va_A ((MC g q d)) s.heap.size) ((MC g q d_)) s H locs → lv_has ls 5 [(0, .ref (q 0)), (1, .int a1), (2, .int a2), (3, .int a3), (4, .int a4)] → f_X5_fewest_L37 N   n37 a1 a2 a3 a4 d_ = some (r, d') → W p l e rm_X5_fewest s m ([.ref (q 0), .int p1, .int p2] : List Value).toArray below meth c H locs 0 0 (MQ below (QO (some (.int r)) g ((MC g q d')) (va_A ((MC g q d)) s.heap.size)) ([.ref (q 0), .int p1, .int p2] : List Value).toArray s 0 0 (va_A ((MC g q d)) s.heap.size)) (F0 m 37 ls []) := by
    intro n37
    induction n37 with
    | zero => intro a1 a2 a3 a4 d_ H locs ls hw hl h; exact (Option.some_ne_none _ h.symm).elim
    | succ n37 ih37 =>
      intro a1 a2 a3 a4 d_ H locs ls hw hl h
      rw [f_X5_fewest_L37] at h
      refine lv_iload hx hb dX5_fewest_37 (lv_at hl 4 rfl) ?_
      refine lv_sipush (v := 512) hx hb dX5_fewest_39 (by decide) ?_
      refine lv_icmp_ge (tgt := 81) hx hb dX5_fewest_42 (by decide) (fun c30 => ?_) (fun c30 => ?_)
      · replace h := ite_t c30 h
        refine lv_iload_n hx hb dX5_fewest_81 rfl (lv_at hl 3 rfl) ?_
        refine lv_bipush (v := 9) hx hb dX5_fewest_82 (by decide) ?_
        refine lv_icmp_le (tgt := 96) hx hb dX5_fewest_84 (by decide) (fun c31 => ?_) (fun c31 => ?_)
        · replace h := ite_t c31 h
          refine lv_iload_n hx hb dX5_fewest_96 rfl (lv_at hl 3 rfl) ?_
          exact r_i cx hr hlocks hw (pr1 h) (congrArg (fun z0 => (MC g q z0)) (pr2 h)) dX5_fewest_97
        · replace h := ite_f c31 h
          refine lv_aload_n hx hb dX5_fewest_87 rfl (lv_at hl 0 rfl) ?_
          refine lv_ldc hx hb cx.1.2.2.2.1 (cx.1.2.2.2.2 _ tw_4_195) dX5_fewest_88 ?_
          obtain ⟨x32, d33, g34, h⟩ := bd2_ex h
          refine c_V (As := [.int (-1000000004 : Int32)]) (rest := []) (w' := (MC g q d33)) cx hw (c_X5_finds l g q N (-1000000004 : Int32) d_ x32 d33 g34) (cl_X5_62 cx.1.2.2.2.2 ⟨Nat.le_of_ble_eq_true rfl, Nat.le_of_ble_eq_true rfl⟩) (x_recv cx hw (ci := 5) rfl 0 rfl) (Ct.all (MC_ll ..)) hl.1 rfl rfl (Nat.le_of_ble_eq_true rfl) dX5_fewest_90 ⟨Nat.le_of_ble_eq_true rfl, Nat.le_of_ble_eq_true rfl⟩ (st1 := [.int x32]) rfl (fun H locs hw => ?_)
          refine lv_goto (tgt := 97) hx hb dX5_fewest_93 (by decide) ?_
          exact r_i cx hr hlocks hw (pr1 h) (congrArg (fun z0 => (MC g q z0)) (pr2 h)) dX5_fewest_97
      · replace h := ite_f c30 h
        refine lv_iload hx hb dX5_fewest_45 (lv_at hl 4 rfl) ?_
        obtain ⟨x35, g36, h⟩ := bd_ex h
        refine c_S (As := [.int a4]) (rest := []) (w' := (MC g q d_)) cx hw (c_X5_manyIn l g  N a4  x35 g36) (cl_X5_186 cx.1.2.2.2.2 ⟨Nat.le_of_ble_eq_true rfl, Nat.le_of_ble_eq_true rfl⟩) Ct.nil hl.1 rfl rfl (Nat.le_of_ble_eq_true rfl) dX5_fewest_47 ⟨Nat.le_of_ble_eq_true rfl, Nat.le_of_ble_eq_true rfl⟩ (st1 := [.int x35]) rfl (fun H locs hw => ?_)
        refine lv_iload_n hx hb dX5_fewest_50 rfl (lv_at hl 3 rfl) ?_
        refine lv_icmp_ge (tgt := 73) hx hb dX5_fewest_51 (by decide) (fun c37 => ?_) (fun c37 => ?_)
        · replace h := ite_t c37 h
          refine lv_iload_n hx hb dX5_fewest_73 rfl (lv_at hl 3 rfl) ?_
          refine lv_istore_n (lv' := [(3, .int a3), (0, .ref (q 0)), (1, .int a1), (2, .int a2), (4, .int a4)]) hx hb dX5_fewest_74 rfl hl (by decide) rfl (fun ls hl => ?_)
          obtain ⟨x38, ex38⟩ : ∃ y : Int32, y = (a4 + 1) := ⟨_, rfl⟩
          replace h := lt_nx ex38 h
          refine lv_iinc (v := x38) (lv' := [(4, .int x38), (3, .int a3), (0, .ref (q 0)), (1, .int a1), (2, .int a2)]) hx hb dX5_fewest_75 hl (k := 4) rfl (by rw [ex38]; rfl) (by decide) rfl (fun ls hl => ?_)
          refine lv_goto (tgt := 37) hx hb dX5_fewest_78 (by decide) ?_
          exact ih37 a1 a2 a3 x38 d_ _ _ _ hw (lv_sub hl [2, 3, 4, 1, 0] rfl) h
        · replace h := ite_f c37 h
          refine lv_aload_n hx hb dX5_fewest_54 rfl (lv_at hl 0 rfl) ?_
          refine lv_iload_n hx hb dX5_fewest_55 rfl (lv_at hl 1 rfl) ?_
          refine lv_iload_n hx hb dX5_fewest_56 rfl (lv_at hl 2 rfl) ?_
          refine lv_iload hx hb dX5_fewest_57 (lv_at hl 4 rfl) ?_
          obtain ⟨x39, d40, g41, h⟩ := bd2_ex h
          refine c_V (As := [.int a1, .int a2, .int a4]) (rest := []) (w' := (MC g q d40)) cx hw (c_X5_isHeirBy l g q N a1 a2 a4 d_ x39 d40 g41) (cl_X5_189 cx.1.2.2.2.2 ⟨Nat.le_of_ble_eq_true rfl, Nat.le_of_ble_eq_true rfl⟩) (x_recv cx hw (ci := 5) rfl 0 rfl) (Ct.all (MC_ll ..)) hl.1 rfl rfl (Nat.le_of_ble_eq_true rfl) dX5_fewest_59 ⟨Nat.le_of_ble_eq_true rfl, Nat.le_of_ble_eq_true rfl⟩ (st1 := [.int x39]) rfl (fun H locs hw => ?_)
          refine lv_if_eq (tgt := 73) hx hb dX5_fewest_62 (by decide) (fun c42 => ?_) (fun c42 => ?_)
          · replace h := ite_t c42 h
            refine lv_iload_n hx hb dX5_fewest_73 rfl (lv_at hl 3 rfl) ?_
            refine lv_istore_n (lv' := [(3, .int a3), (0, .ref (q 0)), (1, .int a1), (2, .int a2), (4, .int a4)]) hx hb dX5_fewest_74 rfl hl (by decide) rfl (fun ls hl => ?_)
            obtain ⟨x43, ex43⟩ : ∃ y : Int32, y = (a4 + 1) := ⟨_, rfl⟩
            replace h := lt_nx ex43 h
            refine lv_iinc (v := x43) (lv' := [(4, .int x43), (3, .int a3), (0, .ref (q 0)), (1, .int a1), (2, .int a2)]) hx hb dX5_fewest_75 hl (k := 4) rfl (by rw [ex43]; rfl) (by decide) rfl (fun ls hl => ?_)
            refine lv_goto (tgt := 37) hx hb dX5_fewest_78 (by decide) ?_
            exact ih37 a1 a2 a3 x43 d40 _ _ _ hw (lv_sub hl [2, 3, 4, 1, 0] rfl) h
          · replace h := ite_f c42 h
            refine lv_iload hx hb dX5_fewest_65 (lv_at hl 4 rfl) ?_
            obtain ⟨x44, g45, h⟩ := bd_ex h
            refine c_S (As := [.int a4]) (rest := []) (w' := (MC g q d40)) cx hw (c_X5_manyIn l g  N a4  x44 g45) (cl_X5_186 cx.1.2.2.2.2 ⟨Nat.le_of_ble_eq_true rfl, Nat.le_of_ble_eq_true rfl⟩) Ct.nil hl.1 rfl rfl (Nat.le_of_ble_eq_true rfl) dX5_fewest_67 ⟨Nat.le_of_ble_eq_true rfl, Nat.le_of_ble_eq_true rfl⟩ (st1 := [.int x44]) rfl (fun H locs hw => ?_)
            refine lv_goto (tgt := 74) hx hb dX5_fewest_70 (by decide) ?_
            refine lv_istore_n (lv' := [(3, .int x44), (0, .ref (q 0)), (1, .int a1), (2, .int a2), (4, .int a4)]) hx hb dX5_fewest_74 rfl hl (by decide) rfl (fun ls hl => ?_)
            obtain ⟨x46, ex46⟩ : ∃ y : Int32, y = (a4 + 1) := ⟨_, rfl⟩
            replace h := lt_nx ex46 h
            refine lv_iinc (v := x46) (lv' := [(4, .int x46), (3, .int x44), (0, .ref (q 0)), (1, .int a1), (2, .int a2)]) hx hb dX5_fewest_75 hl (k := 4) rfl (by rw [ex46]; rfl) (by decide) rfl (fun ls hl => ?_)
            refine lv_goto (tgt := 37) hx hb dX5_fewest_78 (by decide) ?_
            exact ih37 a1 a2 x44 x46 d40 _ _ _ hw (lv_sub hl [2, 3, 4, 1, 0] rfl) h
  unfold f_X5_fewest at h
  refine lv_aload_n hx hb dX5_fewest_0 rfl (lv_at hl 0 rfl) ?_
  refine lv_iload_n hx hb dX5_fewest_1 rfl (lv_at hl 1 rfl) ?_
  refine lv_iload_n hx hb dX5_fewest_2 rfl (lv_at hl 2 rfl) ?_
  obtain ⟨x1, g2, h⟩ := bd_ex h
  refine c_V (As := [.int p1, .int p2]) (rest := []) (w' := (MC g q d)) cx hw (c_X5_areTwo l g q N p1 p2 d x1 g2) (cl_X5_90 cx.1.2.2.2.2 ⟨Nat.le_of_ble_eq_true rfl, Nat.le_of_ble_eq_true rfl⟩) (x_recv cx hw (ci := 5) rfl 0 rfl) (Ct.all (MC_ll ..)) hl.1 rfl rfl (Nat.le_of_ble_eq_true rfl) dX5_fewest_3 ⟨Nat.le_of_ble_eq_true rfl, Nat.le_of_ble_eq_true rfl⟩ (st1 := [.int x1]) rfl (fun H locs hw => ?_)
  refine lv_if_ne (tgt := 16) hx hb dX5_fewest_6 (by decide) (fun c3 => ?_) (fun c3 => ?_)
  · replace h := ite_f c3 h
    refine lv_aload_n hx hb dX5_fewest_16 rfl (lv_at hl 0 rfl) ?_
    refine lv_iload_n hx hb dX5_fewest_17 rfl (lv_at hl 1 rfl) ?_
    obtain ⟨x4, g5, h⟩ := bd_ex h
    refine c_V (As := [.int p1]) (rest := []) (w' := (MC g q d)) cx hw (c_X5_lives l g q N p1 d x4 g5) (cl_X5_107 cx.1.2.2.2.2 ⟨Nat.le_of_ble_eq_true rfl, Nat.le_of_ble_eq_true rfl⟩) (x_recv cx hw (ci := 5) rfl 0 rfl) (Ct.all (MC_ll ..)) hl.1 rfl rfl (Nat.le_of_ble_eq_true rfl) dX5_fewest_18 ⟨Nat.le_of_ble_eq_true rfl, Nat.le_of_ble_eq_true rfl⟩ (st1 := [.int x4]) rfl (fun H locs hw => ?_)
    refine lv_if_ne (tgt := 31) hx hb dX5_fewest_21 (by decide) (fun c6 => ?_) (fun c6 => ?_)
    · replace h := ite_f c6 h
      refine lv_bipush (v := 10) hx hb dX5_fewest_31 (by decide) ?_
      refine lv_istore_n (lv' := [(3, .int (10 : Int32)), (0, .ref (q 0)), (1, .int p1), (2, .int p2)]) hx hb dX5_fewest_33 rfl hl (by decide) rfl (fun ls hl => ?_)
      refine lv_iconst (v := 0) hx hb dX5_fewest_34 (by decide) ?_
      refine lv_istore (lv' := [(4, .int (0 : Int32)), (3, .int (10 : Int32)), (0, .ref (q 0)), (1, .int p1), (2, .int p2)]) hx hb dX5_fewest_35 hl (by decide) rfl (fun ls hl => ?_)
      exact L37 N p1 p2 (10 : Int32) (0 : Int32) d _ _ _ hw (lv_sub hl [2, 3, 4, 1, 0] rfl) h
    · replace h := ite_t c6 h
      refine lv_aload_n hx hb dX5_fewest_24 rfl (lv_at hl 0 rfl) ?_
      refine lv_ldc hx hb cx.1.2.2.2.1 (cx.1.2.2.2.2 _ tw_4_229) dX5_fewest_25 ?_
      obtain ⟨x7, d8, g9, h⟩ := bd2_ex h
      refine c_V (As := [.int (-1000000005 : Int32)]) (rest := []) (w' := (MC g q d8)) cx hw (c_X5_finds l g q N (-1000000005 : Int32) d x7 d8 g9) (cl_X5_62 cx.1.2.2.2.2 ⟨Nat.le_of_ble_eq_true rfl, Nat.le_of_ble_eq_true rfl⟩) (x_recv cx hw (ci := 5) rfl 0 rfl) (Ct.all (MC_ll ..)) hl.1 rfl rfl (Nat.le_of_ble_eq_true rfl) dX5_fewest_27 ⟨Nat.le_of_ble_eq_true rfl, Nat.le_of_ble_eq_true rfl⟩ (st1 := [.int x7]) rfl (fun H locs hw => ?_)
      exact r_i cx hr hlocks hw (pr1 h) (congrArg (fun z0 => (MC g q z0)) (pr2 h)) dX5_fewest_30
  · replace h := ite_t c3 h
    refine lv_aload_n hx hb dX5_fewest_9 rfl (lv_at hl 0 rfl) ?_
    refine lv_ldc hx hb cx.1.2.2.2.1 (cx.1.2.2.2.2 _ tw_4_79) dX5_fewest_10 ?_
    obtain ⟨x10, d11, g12, h⟩ := bd2_ex h
    refine c_V (As := [.int (-1000000001 : Int32)]) (rest := []) (w' := (MC g q d11)) cx hw (c_X5_finds l g q N (-1000000001 : Int32) d x10 d11 g12) (cl_X5_62 cx.1.2.2.2.2 ⟨Nat.le_of_ble_eq_true rfl, Nat.le_of_ble_eq_true rfl⟩) (x_recv cx hw (ci := 5) rfl 0 rfl) (Ct.all (MC_ll ..)) hl.1 rfl rfl (Nat.le_of_ble_eq_true rfl) dX5_fewest_12 ⟨Nat.le_of_ble_eq_true rfl, Nat.le_of_ble_eq_true rfl⟩ (st1 := [.int x10]) rfl (fun H locs hw => ?_)
    exact r_i cx hr hlocks hw (pr1 h) (congrArg (fun z0 => (MC g q z0)) (pr2 h)) dX5_fewest_15
set_option maxHeartbeats 4000000 in
set_option maxRecDepth 100000 in
theorem c_X5_goodsTo (l : Launch) (g : gE) (q : Nat → Nat) (N : Nat) (p1 : Int32) (d : MD) (r : Int32) (h : f_X5_goodsTo N  p1 d = some r) : MO l yX5_goodsTo (Cond.code yX5_goodsTo cX5_goodsTo 5 (some .int) :: TB) rm_X5_goodsTo [.ref (q 0), .int p1] g ((MC g q d)) ((MC g q d)) (some (.int r)) 0 0 := by
  refine MO.of (cc := cX5_goodsTo) (maxL := 5) (ret := (some .int)) (by decide) ?_
  intro p e s m below meth c cx hw hr hlocks _
  have hx := cx.1.1
  have hb := cx.1.2.1
  refine en_go (lv := [(0, .ref (q 0)), (1, .int p1)]) (Nat.le_of_ble_eq_true rfl) rfl (fun ls hl => ?_)
  have L11 : ∀ (n11 : Nat) (a2 : Int32) (a3 : Int32) (a4 : Int32) (H : Heap) (locs : List Loc) (ls : Array Slot), Wd g (va_A ((MC g q d)) s.heap.size) ((MC g q d)) s H locs → lv_has ls 5 [(0, .ref (q 0)), (2, .int a2), (3, .int a3), (4, .int a4)] → f_X5_goodsTo_L11 N d  n11 a2 a3 a4 = some r → W p l e rm_X5_goodsTo s m ([.ref (q 0), .int p1] : List Value).toArray below meth c H locs 0 0 (MQ below (QO (some (.int r)) g ((MC g q d)) (va_A ((MC g q d)) s.heap.size)) ([.ref (q 0), .int p1] : List Value).toArray s 0 0 (va_A ((MC g q d)) s.heap.size)) (F0 m 11 ls []) := by
    intro n11
    induction n11 with
    | zero => intro a2 a3 a4 H locs ls hw hl h; exact (Option.some_ne_none _ h.symm).elim
    | succ n11 ih11 =>
      intro a2 a3 a4 H locs ls hw hl h
      rw [f_X5_goodsTo_L11] at h
      refine lv_iload hx hb dX5_goodsTo_11 (lv_at hl 3 rfl) ?_
      refine lv_aload_n hx hb dX5_goodsTo_13 rfl (lv_at hl 0 rfl) ?_
      refine gf_X5_7 cx hw 0 rfl rfl dX5_goodsTo_14 ?_
      refine lv_iconst (v := 0) hx hb dX5_goodsTo_17 (by decide) ?_
      have ix12 := rd_in h
      refine x_iald cx hw 1 rfl ix12 dX5_goodsTo_18 ?_
      refine lv_topi (fun x12 ex12 => ?_)
      replace h := rd_nx ex12 h
      refine lv_icmp_ge (tgt := 52) hx hb dX5_goodsTo_19 (by decide) (fun c13 => ?_) (fun c13 => ?_)
      · replace h := ite_t c13 h
        refine lv_iload_n hx hb dX5_goodsTo_52 rfl (lv_at hl 2 rfl) ?_
        exact r_i cx hr hlocks hw (sm_eq h) rfl dX5_goodsTo_53
      · replace h := ite_f c13 h
        refine lv_iload_n hx hb dX5_goodsTo_22 rfl (lv_at hl 2 rfl) ?_
        refine lv_iload_n hx hb dX5_goodsTo_23 rfl (lv_at hl 1 rfl) ?_
        refine lv_iload hx hb dX5_goodsTo_24 (lv_at hl 3 rfl) ?_
        refine lv_ishr hx hb dX5_goodsTo_26 ?_
        refine lv_iconst (v := 1) hx hb dX5_goodsTo_27 (by decide) ?_
        refine lv_iand hx hb dX5_goodsTo_28 ?_
        refine lv_iconst (v := 1) hx hb dX5_goodsTo_29 (by decide) ?_
        refine lv_icmp_ne (tgt := 43) hx hb dX5_goodsTo_30 (by decide) (fun c14 => ?_) (fun c14 => ?_)
        · replace h := ite_f c14 h
          refine lv_iconst (v := 0) hx hb dX5_goodsTo_43 (by decide) ?_
          refine lv_iadd hx hb dX5_goodsTo_44 ?_
          refine lv_topi (fun x15 ex15 => ?_)
          replace h := lt_nx ex15 h
          refine lv_istore_n (lv' := [(3, .int x15), (0, .ref (q 0)), (2, .int a2), (4, .int a4)]) hx hb dX5_goodsTo_45 rfl hl (by decide) rfl (fun ls hl => ?_)
          obtain ⟨x16, ex16⟩ : ∃ y : Int32, y = (a4 + 1) := ⟨_, rfl⟩
          replace h := lt_nx ex16 h
          refine lv_iinc (v := x16) (lv' := [(4, .int x16), (3, .int x15), (0, .ref (q 0)), (2, .int a2)]) hx hb dX5_goodsTo_46 hl (k := 3) rfl (by rw [ex16]; rfl) (by decide) rfl (fun ls hl => ?_)
          refine lv_goto (tgt := 11) hx hb dX5_goodsTo_49 (by decide) ?_
          exact ih11 a2 x15 x16 _ _ _ hw (lv_sub hl [2, 3, 1, 0] rfl) h
        · replace h := ite_t c14 h
          refine lv_aload_n hx hb dX5_goodsTo_33 rfl (lv_at hl 0 rfl) ?_
          refine lv_iload hx hb dX5_goodsTo_34 (lv_at hl 3 rfl) ?_
          refine lv_iconst (v := 2) hx hb dX5_goodsTo_36 (by decide) ?_
          obtain ⟨x17, g18, h⟩ := bd_ex h
          refine c_V (As := [.int a4, .int (2 : Int32)]) (rest := [.int a3]) (w' := (MC g q d)) cx hw (c_X5_is l g q N a4 (2 : Int32) d x17 g18) (cl_X5_47 cx.1.2.2.2.2 ⟨Nat.le_of_ble_eq_true rfl, Nat.le_of_ble_eq_true rfl⟩) (x_recv cx hw (ci := 5) rfl 0 rfl) (Ct.all (MC_ll ..)) hl.1 rfl rfl (Nat.le_of_ble_eq_true rfl) dX5_goodsTo_37 ⟨Nat.le_of_ble_eq_true rfl, Nat.le_of_ble_eq_true rfl⟩ (st1 := [.int x17, .int a3]) rfl (fun H locs hw => ?_)
          refine lv_goto (tgt := 44) hx hb dX5_goodsTo_40 (by decide) ?_
          refine lv_iadd hx hb dX5_goodsTo_44 ?_
          refine lv_topi (fun x19 ex19 => ?_)
          replace h := lt_nx ex19 h
          refine lv_istore_n (lv' := [(3, .int x19), (0, .ref (q 0)), (2, .int a2), (4, .int a4)]) hx hb dX5_goodsTo_45 rfl hl (by decide) rfl (fun ls hl => ?_)
          obtain ⟨x20, ex20⟩ : ∃ y : Int32, y = (a4 + 1) := ⟨_, rfl⟩
          replace h := lt_nx ex20 h
          refine lv_iinc (v := x20) (lv' := [(4, .int x20), (3, .int x19), (0, .ref (q 0)), (2, .int a2)]) hx hb dX5_goodsTo_46 hl (k := 3) rfl (by rw [ex20]; rfl) (by decide) rfl (fun ls hl => ?_)
          refine lv_goto (tgt := 11) hx hb dX5_goodsTo_49 (by decide) ?_
          exact ih11 a2 x19 x20 _ _ _ hw (lv_sub hl [2, 3, 1, 0] rfl) h
  unfold f_X5_goodsTo at h
  refine lv_aload_n hx hb dX5_goodsTo_0 rfl (lv_at hl 0 rfl) ?_
  refine lv_iload_n hx hb dX5_goodsTo_1 rfl (lv_at hl 1 rfl) ?_
  obtain ⟨x1, g2, h⟩ := bd_ex h
  refine c_V (As := [.int p1]) (rest := []) (w' := (MC g q d)) cx hw (c_X5_heirsSet l g q N p1 d x1 g2) (cl_X5_117 cx.1.2.2.2.2 ⟨Nat.le_of_ble_eq_true rfl, Nat.le_of_ble_eq_true rfl⟩) (x_recv cx hw (ci := 5) rfl 0 rfl) (Ct.all (MC_ll ..)) hl.1 rfl rfl (Nat.le_of_ble_eq_true rfl) dX5_goodsTo_2 ⟨Nat.le_of_ble_eq_true rfl, Nat.le_of_ble_eq_true rfl⟩ (st1 := [.int x1]) rfl (fun H locs hw => ?_)
  refine lv_istore_n (lv' := [(2, .int x1), (0, .ref (q 0)), (1, .int p1)]) hx hb dX5_goodsTo_5 rfl hl (by decide) rfl (fun ls hl => ?_)
  refine lv_iconst (v := 0) hx hb dX5_goodsTo_6 (by decide) ?_
  refine lv_istore_n (lv' := [(3, .int (0 : Int32)), (2, .int x1), (0, .ref (q 0)), (1, .int p1)]) hx hb dX5_goodsTo_7 rfl hl (by decide) rfl (fun ls hl => ?_)
  refine lv_iconst (v := 0) hx hb dX5_goodsTo_8 (by decide) ?_
  refine lv_istore (lv' := [(4, .int (0 : Int32)), (3, .int (0 : Int32)), (2, .int x1), (0, .ref (q 0)), (1, .int p1)]) hx hb dX5_goodsTo_9 hl (by decide) rfl (fun ls hl => ?_)
  exact L11 N x1 (0 : Int32) (0 : Int32) _ _ _ hw (lv_sub hl [3, 2, 1, 0] rfl) h
set_option maxHeartbeats 4000000 in
set_option maxRecDepth 100000 in
theorem c_X5_worth (l : Launch) (g : gE) (q : Nat → Nat) (N : Nat) (p1 : Int32) (p2 : Int32) (d : MD) (r : Int32) (d' : MD) (h : f_X5_worth N  p1 p2 d = some (r, d')) : MO l yX5_worth (Cond.code yX5_worth cX5_worth 6 (some .int) :: TB) rm_X5_worth [.ref (q 0), .int p1, .int p2] g ((MC g q d)) ((MC g q d')) (some (.int r)) 0 0 := by
  refine MO.of (cc := cX5_worth) (maxL := 6) (ret := (some .int)) (by decide) ?_
  intro p e s m below meth c cx hw hr hlocks _
  have hx := cx.1.1
  have hb := cx.1.2.1
  refine en_go (lv := [(0, .ref (q 0)), (1, .int p1), (2, .int p2)]) (Nat.le_of_ble_eq_true rfl) rfl (fun ls hl => ?_)
  unfold f_X5_worth at h
  refine lv_aload_n hx hb dX5_worth_0 rfl (lv_at hl 0 rfl) ?_
  refine lv_iload_n hx hb dX5_worth_1 rfl (lv_at hl 1 rfl) ?_
  obtain ⟨x1, g2, h⟩ := bd_ex h
  refine c_V (As := [.int p1]) (rest := []) (w' := (MC g q d)) cx hw (c_X5_isOne l g q N p1 d x1 g2) (cl_X5_43 cx.1.2.2.2.2 ⟨Nat.le_of_ble_eq_true rfl, Nat.le_of_ble_eq_true rfl⟩) (x_recv cx hw (ci := 5) rfl 0 rfl) (Ct.all (MC_ll ..)) hl.1 rfl rfl (Nat.le_of_ble_eq_true rfl) dX5_worth_2 ⟨Nat.le_of_ble_eq_true rfl, Nat.le_of_ble_eq_true rfl⟩ (st1 := [.int x1]) rfl (fun H locs hw => ?_)
  refine lv_if_eq (tgt := 15) hx hb dX5_worth_5 (by decide) (fun c3 => ?_) (fun c3 => ?_)
  · replace h := ite_t c3 h
    refine lv_aload_n hx hb dX5_worth_15 rfl (lv_at hl 0 rfl) ?_
    refine lv_ldc hx hb cx.1.2.2.2.1 (cx.1.2.2.2.2 _ tw_4_79) dX5_worth_16 ?_
    obtain ⟨x4, d5, g6, h⟩ := bd2_ex h
    refine c_V (As := [.int (-1000000001 : Int32)]) (rest := []) (w' := (MC g q d5)) cx hw (c_X5_finds l g q N (-1000000001 : Int32) d x4 d5 g6) (cl_X5_62 cx.1.2.2.2.2 ⟨Nat.le_of_ble_eq_true rfl, Nat.le_of_ble_eq_true rfl⟩) (x_recv cx hw (ci := 5) rfl 0 rfl) (Ct.all (MC_ll ..)) hl.1 rfl rfl (Nat.le_of_ble_eq_true rfl) dX5_worth_18 ⟨Nat.le_of_ble_eq_true rfl, Nat.le_of_ble_eq_true rfl⟩ (st1 := [.int x4]) rfl (fun H locs hw => ?_)
    exact r_i cx hr hlocks hw (pr1 h) (congrArg (fun z0 => (MC g q z0)) (pr2 h)) dX5_worth_21
  · replace h := ite_f c3 h
    refine lv_iload_n hx hb dX5_worth_8 rfl (lv_at hl 2 rfl) ?_
    obtain ⟨x7, g8, h⟩ := bd_ex h
    refine c_S (As := [.int p2]) (rest := []) (w' := (MC g q d)) cx hw (c_X5_isMark l g  N p2  x7 g8) (cl_X5_51 cx.1.2.2.2.2 ⟨Nat.le_of_ble_eq_true rfl, Nat.le_of_ble_eq_true rfl⟩) Ct.nil hl.1 rfl rfl (Nat.le_of_ble_eq_true rfl) dX5_worth_9 ⟨Nat.le_of_ble_eq_true rfl, Nat.le_of_ble_eq_true rfl⟩ (st1 := [.int x7]) rfl (fun H locs hw => ?_)
    refine lv_if_ne (tgt := 22) hx hb dX5_worth_12 (by decide) (fun c9 => ?_) (fun c9 => ?_)
    · replace h := ite_f c9 h
      refine lv_aload_n hx hb dX5_worth_22 rfl (lv_at hl 0 rfl) ?_
      refine lv_iload_n hx hb dX5_worth_23 rfl (lv_at hl 1 rfl) ?_
      obtain ⟨x10, g11, h⟩ := bd_ex h
      refine c_V (As := [.int p1]) (rest := []) (w' := (MC g q d)) cx hw (c_X5_goodsTo l g q N p1 d x10 g11) (cl_X5_192 cx.1.2.2.2.2 ⟨Nat.le_of_ble_eq_true rfl, Nat.le_of_ble_eq_true rfl⟩) (x_recv cx hw (ci := 5) rfl 0 rfl) (Ct.all (MC_ll ..)) hl.1 rfl rfl (Nat.le_of_ble_eq_true rfl) dX5_worth_24 ⟨Nat.le_of_ble_eq_true rfl, Nat.le_of_ble_eq_true rfl⟩ (st1 := [.int x10]) rfl (fun H locs hw => ?_)
      refine lv_istore_n (lv' := [(3, .int x10), (0, .ref (q 0)), (1, .int p1), (2, .int p2)]) hx hb dX5_worth_27 rfl hl (by decide) rfl (fun ls hl => ?_)
      refine lv_aload_n hx hb dX5_worth_28 rfl (lv_at hl 1 rfl) ?_
      refine lv_iload_n hx hb dX5_worth_29 rfl (lv_at hl 2 rfl) ?_
      refine lv_bipush (v := 6) hx hb dX5_worth_30 (by decide) ?_
      refine lv_iload_n hx hb dX5_worth_32 rfl (lv_at hl 3 rfl) ?_
      refine lv_iadd hx hb dX5_worth_33 ?_
      obtain ⟨x12, g13, h⟩ := bd_ex h
      refine c_V (As := [.int p1, .int ((6 : Int32) + p2)]) (rest := []) (w' := (MC g q d)) cx hw (c_X5_is l g q N p1 ((6 : Int32) + p2) d x12 g13) (cl_X5_47 cx.1.2.2.2.2 ⟨Nat.le_of_ble_eq_true rfl, Nat.le_of_ble_eq_true rfl⟩) (x_recv cx hw (ci := 5) rfl 0 rfl) (Ct.all (MC_ll ..)) hl.1 rfl rfl (Nat.le_of_ble_eq_true rfl) dX5_worth_34 ⟨Nat.le_of_ble_eq_true rfl, Nat.le_of_ble_eq_true rfl⟩ (st1 := [.int x12]) rfl (fun H locs hw => ?_)
      refine lv_istore (lv' := [(4, .int x12), (3, .int x10), (0, .ref (q 0)), (1, .int p1), (2, .int p2)]) hx hb dX5_worth_37 hl (by decide) rfl (fun ls hl => ?_)
      refine lv_aload_n hx hb dX5_worth_39 rfl (lv_at hl 2 rfl) ?_
      refine lv_iload_n hx hb dX5_worth_40 rfl (lv_at hl 3 rfl) ?_
      refine lv_bipush (v := 6) hx hb dX5_worth_41 (by decide) ?_
      refine lv_iload_n hx hb dX5_worth_43 rfl (lv_at hl 4 rfl) ?_
      refine lv_iadd hx hb dX5_worth_44 ?_
      refine lv_iload hx hb dX5_worth_45 (lv_at hl 0 rfl) ?_
      refine lv_iconst (v := 1) hx hb dX5_worth_47 (by decide) ?_
      refine lv_iadd hx hb dX5_worth_48 ?_
      refine lv_iconst (v := 4) hx hb dX5_worth_49 (by decide) ?_
      refine lv_irem hx hb dX5_worth_50 (by decide) ?_
      obtain ⟨d14, g15, h⟩ := bd_ex h
      refine c_V (As := [.int p1, .int ((6 : Int32) + p2), .int ((x12 + (1 : Int32)) - (x12 + (1 : Int32)) / (4 : Int32) * (4 : Int32))]) (rest := []) (w' := (MC g q d14)) cx hw (c_X5_puts l g q N p1 ((6 : Int32) + p2) ((x12 + (1 : Int32)) - (x12 + (1 : Int32)) / (4 : Int32) * (4 : Int32)) d d14 g15) (cl_X5_71 cx.1.2.2.2.2 ⟨Nat.le_of_ble_eq_true rfl, Nat.le_of_ble_eq_true rfl⟩) (x_recv cx hw (ci := 5) rfl 0 rfl) (Ct.all (MC_ll ..)) hl.1 rfl rfl (Nat.le_of_ble_eq_true rfl) dX5_worth_51 ⟨Nat.le_of_ble_eq_true rfl, Nat.le_of_ble_eq_true rfl⟩ (st1 := []) rfl (fun H locs hw => ?_)
      refine lv_aload_n hx hb dX5_worth_54 rfl (lv_at hl 2 rfl) ?_
      refine lv_iload_n hx hb dX5_worth_55 rfl (lv_at hl 3 rfl) ?_
      obtain ⟨x16, g17, h⟩ := bd_ex h
      refine c_V (As := [.int p1]) (rest := []) (w' := (MC g q d14)) cx hw (c_X5_goodsTo l g q N p1 d14 x16 g17) (cl_X5_192 cx.1.2.2.2.2 ⟨Nat.le_of_ble_eq_true rfl, Nat.le_of_ble_eq_true rfl⟩) (x_recv cx hw (ci := 5) rfl 0 rfl) (Ct.all (MC_ll ..)) hl.1 rfl rfl (Nat.le_of_ble_eq_true rfl) dX5_worth_56 ⟨Nat.le_of_ble_eq_true rfl, Nat.le_of_ble_eq_true rfl⟩ (st1 := [.int x16]) rfl (fun H locs hw => ?_)
      refine lv_istore (lv' := [(5, .int x16), (4, .int x12), (3, .int x10), (0, .ref (q 0)), (1, .int p1), (2, .int p2)]) hx hb dX5_worth_59 hl (by decide) rfl (fun ls hl => ?_)
      refine lv_aload_n hx hb dX5_worth_61 rfl (lv_at hl 3 rfl) ?_
      refine lv_iload_n hx hb dX5_worth_62 rfl (lv_at hl 4 rfl) ?_
      refine lv_bipush (v := 6) hx hb dX5_worth_63 (by decide) ?_
      refine lv_iload_n hx hb dX5_worth_65 rfl (lv_at hl 5 rfl) ?_
      refine lv_iadd hx hb dX5_worth_66 ?_
      refine lv_iload hx hb dX5_worth_67 (lv_at hl 1 rfl) ?_
      obtain ⟨d18, g19, h⟩ := bd_ex h
      refine c_V (As := [.int p1, .int ((6 : Int32) + p2), .int x12]) (rest := []) (w' := (MC g q d18)) cx hw (c_X5_puts l g q N p1 ((6 : Int32) + p2) x12 d14 d18 g19) (cl_X5_71 cx.1.2.2.2.2 ⟨Nat.le_of_ble_eq_true rfl, Nat.le_of_ble_eq_true rfl⟩) (x_recv cx hw (ci := 5) rfl 0 rfl) (Ct.all (MC_ll ..)) hl.1 rfl rfl (Nat.le_of_ble_eq_true rfl) dX5_worth_69 ⟨Nat.le_of_ble_eq_true rfl, Nat.le_of_ble_eq_true rfl⟩ (st1 := []) rfl (fun H locs hw => ?_)
      refine lv_iload_n hx hb dX5_worth_72 rfl (lv_at hl 2 rfl) ?_
      refine lv_iload hx hb dX5_worth_73 (lv_at hl 0 rfl) ?_
      refine lv_isub hx hb dX5_worth_75 ?_
      exact r_i cx hr hlocks hw (pr1 h) (congrArg (fun z0 => (MC g q z0)) (pr2 h)) dX5_worth_76
    · replace h := ite_t c9 h
      refine lv_aload_n hx hb dX5_worth_15 rfl (lv_at hl 0 rfl) ?_
      refine lv_ldc hx hb cx.1.2.2.2.1 (cx.1.2.2.2.2 _ tw_4_79) dX5_worth_16 ?_
      obtain ⟨x20, d21, g22, h⟩ := bd2_ex h
      refine c_V (As := [.int (-1000000001 : Int32)]) (rest := []) (w' := (MC g q d21)) cx hw (c_X5_finds l g q N (-1000000001 : Int32) d x20 d21 g22) (cl_X5_62 cx.1.2.2.2.2 ⟨Nat.le_of_ble_eq_true rfl, Nat.le_of_ble_eq_true rfl⟩) (x_recv cx hw (ci := 5) rfl 0 rfl) (Ct.all (MC_ll ..)) hl.1 rfl rfl (Nat.le_of_ble_eq_true rfl) dX5_worth_18 ⟨Nat.le_of_ble_eq_true rfl, Nat.le_of_ble_eq_true rfl⟩ (st1 := [.int x20]) rfl (fun H locs hw => ?_)
      exact r_i cx hr hlocks hw (pr1 h) (congrArg (fun z0 => (MC g q z0)) (pr2 h)) dX5_worth_21
set_option maxHeartbeats 4000000 in
set_option maxRecDepth 100000 in
theorem c_X5_best (l : Launch) (g : gE) (q : Nat → Nat) (N : Nat) (p1 : Int32) (d : MD) (r : Int32) (d' : MD) (h : f_X5_best N  p1 d = some (r, d')) : MO l yX5_best (Cond.code yX5_best cX5_best 8 (some .int) :: TB) rm_X5_best [.ref (q 0), .int p1] g ((MC g q d)) ((MC g q d')) (some (.int r)) 0 0 := by
  refine MO.of (cc := cX5_best) (maxL := 8) (ret := (some .int)) (by decide) ?_
  intro p e s m below meth c cx hw hr hlocks _
  have hx := cx.1.1
  have hb := cx.1.2.1
  refine en_go (lv := [(0, .ref (q 0)), (1, .int p1)]) (Nat.le_of_ble_eq_true rfl) rfl (fun ls hl => ?_)
  have L37 : ∀ (n37 : Nat) (a1 : Int32) (a2 : Int32) (a3 : Int32) (a4 : Int32) (d_ : MD) (H : Heap) (locs : List Loc) (ls : Array Slot), Wd g (va_A ((MC g q d)) s.heap.size) ((MC g q d_)) s H locs → lv_has ls 8 [(0, .ref (q 0)), (1, .int a1), (2, .int a2), (3, .int a3), (4, .int a4)] → f_X5_best_L37 N   n37 a1 a2 a3 a4 d_ = some (r, d') → W p l e rm_X5_best s m ([.ref (q 0), .int p1] : List Value).toArray below meth c H locs 0 0 (MQ below (QO (some (.int r)) g ((MC g q d')) (va_A ((MC g q d)) s.heap.size)) ([.ref (q 0), .int p1] : List Value).toArray s 0 0 (va_A ((MC g q d)) s.heap.size)) (F0 m 37 ls []) := by
    intro n37
    induction n37 with
    | zero => intro a1 a2 a3 a4 d_ H locs ls hw hl h; exact (Option.some_ne_none _ h.symm).elim
    | succ n37 ih37 =>
      have L59 : ∀ (n59 : Nat) (a1 : Int32) (a2 : Int32) (a3 : Int32) (a4 : Int32) (a5 : Int32) (a6 : Int32) (d_ : MD) (H : Heap) (locs : List Loc) (ls : Array Slot), Wd g (va_A ((MC g q d)) s.heap.size) ((MC g q d_)) s H locs → lv_has ls 8 [(0, .ref (q 0)), (1, .int a1), (2, .int a2), (3, .int a3), (4, .int a4), (5, .int a5), (6, .int a6)] → f_X5_best_L59 N  (f_X5_best_L37 N   n37) n59 a1 a2 a3 a4 a5 a6 d_ = some (r, d') → W p l e rm_X5_best s m ([.ref (q 0), .int p1] : List Value).toArray below meth c H locs 0 0 (MQ below (QO (some (.int r)) g ((MC g q d')) (va_A ((MC g q d)) s.heap.size)) ([.ref (q 0), .int p1] : List Value).toArray s 0 0 (va_A ((MC g q d)) s.heap.size)) (F0 m 59 ls []) := by
        intro n59
        induction n59 with
        | zero => intro a1 a2 a3 a4 a5 a6 d_ H locs ls hw hl h; exact (Option.some_ne_none _ h.symm).elim
        | succ n59 ih59 =>
          have J102 : ∀ (a1 : Int32) (a3 : Int32) (a4 : Int32) (a5 : Int32) (a6 : Int32) (a7 : Int32) (t0 : Int32) (d_ : MD) (H : Heap) (locs : List Loc) (ls : Array Slot), Wd g (va_A ((MC g q d)) s.heap.size) ((MC g q d_)) s H locs → lv_has ls 8 [(0, .ref (q 0)), (1, .int a1), (3, .int a3), (4, .int a4), (5, .int a5), (6, .int a6), (7, .int a7)] → f_X5_best_J102 N  (f_X5_best_L37 N   n37) (f_X5_best_L59 N  (f_X5_best_L37 N   n37) n59) a1 a3 a4 a5 a6 a7 t0 d_ = some (r, d') → W p l e rm_X5_best s m ([.ref (q 0), .int p1] : List Value).toArray below meth c H locs 0 0 (MQ below (QO (some (.int r)) g ((MC g q d')) (va_A ((MC g q d)) s.heap.size)) ([.ref (q 0), .int p1] : List Value).toArray s 0 0 (va_A ((MC g q d)) s.heap.size)) (F0 m 102 ls [.int t0]) := by
            intro a1 a3 a4 a5 a6 a7 t0 d_ H locs ls hw hl h
            unfold f_X5_best_J102 at h
            refine lv_istore_n (lv' := [(2, .int t0), (0, .ref (q 0)), (1, .int a1), (3, .int a3), (4, .int a4), (5, .int a5), (6, .int a6), (7, .int a7)]) hx hb dX5_best_102 rfl hl (by decide) rfl (fun ls hl => ?_)
            refine lv_iload hx hb dX5_best_103 (lv_at hl 7 rfl) ?_
            refine lv_iload_n hx hb dX5_best_105 rfl (lv_at hl 3 rfl) ?_
            refine lv_icmp_le (tgt := 114) hx hb dX5_best_106 (by decide) (fun c28 => ?_) (fun c28 => ?_)
            · replace h := ite_t c28 h
              refine lv_iload_n hx hb dX5_best_114 rfl (lv_at hl 3 rfl) ?_
              refine lv_istore_n (lv' := [(3, .int a3), (2, .int t0), (0, .ref (q 0)), (1, .int a1), (4, .int a4), (5, .int a5), (6, .int a6), (7, .int a7)]) hx hb dX5_best_115 rfl hl (by decide) rfl (fun ls hl => ?_)
              obtain ⟨x29, ex29⟩ : ∃ y : Int32, y = (a6 + 1) := ⟨_, rfl⟩
              replace h := lt_nx ex29 h
              refine lv_iinc (v := x29) (lv' := [(6, .int x29), (3, .int a3), (2, .int t0), (0, .ref (q 0)), (1, .int a1), (4, .int a4), (5, .int a5), (7, .int a7)]) hx hb dX5_best_116 hl (k := 6) rfl (by rw [ex29]; rfl) (by decide) rfl (fun ls hl => ?_)
              refine lv_goto (tgt := 59) hx hb dX5_best_119 (by decide) ?_
              exact ih59 a1 t0 a3 a4 a5 x29 d_ _ _ _ hw (lv_sub hl [3, 4, 2, 1, 5, 6, 0] rfl) h
            · replace h := ite_f c28 h
              refine lv_iload hx hb dX5_best_109 (lv_at hl 7 rfl) ?_
              refine lv_goto (tgt := 115) hx hb dX5_best_111 (by decide) ?_
              refine lv_istore_n (lv' := [(3, .int a7), (2, .int t0), (0, .ref (q 0)), (1, .int a1), (4, .int a4), (5, .int a5), (6, .int a6), (7, .int a7)]) hx hb dX5_best_115 rfl hl (by decide) rfl (fun ls hl => ?_)
              obtain ⟨x30, ex30⟩ : ∃ y : Int32, y = (a6 + 1) := ⟨_, rfl⟩
              replace h := lt_nx ex30 h
              refine lv_iinc (v := x30) (lv' := [(6, .int x30), (3, .int a7), (2, .int t0), (0, .ref (q 0)), (1, .int a1), (4, .int a4), (5, .int a5), (7, .int a7)]) hx hb dX5_best_116 hl (k := 6) rfl (by rw [ex30]; rfl) (by decide) rfl (fun ls hl => ?_)
              refine lv_goto (tgt := 59) hx hb dX5_best_119 (by decide) ?_
              exact ih59 a1 t0 a7 a4 a5 x30 d_ _ _ _ hw (lv_sub hl [3, 4, 2, 1, 5, 6, 0] rfl) h
          intro a1 a2 a3 a4 a5 a6 d_ H locs ls hw hl h
          rw [f_X5_best_L59] at h
          refine lv_iload hx hb dX5_best_59 (lv_at hl 6 rfl) ?_
          refine lv_iconst (v := 4) hx hb dX5_best_61 (by decide) ?_
          refine lv_icmp_ge (tgt := 122) hx hb dX5_best_62 (by decide) (fun c31 => ?_) (fun c31 => ?_)
          · replace h := ite_t c31 h
            refine lv_aload_n hx hb dX5_best_122 rfl (lv_at hl 0 rfl) ?_
            refine lv_iload_n hx hb dX5_best_123 rfl (lv_at hl 1 rfl) ?_
            refine lv_bipush (v := 6) hx hb dX5_best_124 (by decide) ?_
            refine lv_iload hx hb dX5_best_126 (lv_at hl 4 rfl) ?_
            refine lv_iadd hx hb dX5_best_128 ?_
            refine lv_iload hx hb dX5_best_129 (lv_at hl 5 rfl) ?_
            obtain ⟨d32, g33, h⟩ := bd_ex h
            refine c_V (As := [.int a1, .int ((6 : Int32) + a4), .int a5]) (rest := []) (w' := (MC g q d32)) cx hw (c_X5_puts l g q N a1 ((6 : Int32) + a4) a5 d_ d32 g33) (cl_X5_71 cx.1.2.2.2.2 ⟨Nat.le_of_ble_eq_true rfl, Nat.le_of_ble_eq_true rfl⟩) (x_recv cx hw (ci := 5) rfl 0 rfl) (Ct.all (MC_ll ..)) hl.1 rfl rfl (Nat.le_of_ble_eq_true rfl) dX5_best_131 ⟨Nat.le_of_ble_eq_true rfl, Nat.le_of_ble_eq_true rfl⟩ (st1 := []) rfl (fun H locs hw => ?_)
            obtain ⟨x34, ex34⟩ : ∃ y : Int32, y = (a4 + 1) := ⟨_, rfl⟩
            replace h := lt_nx ex34 h
            refine lv_iinc (v := x34) (lv' := [(4, .int x34), (0, .ref (q 0)), (1, .int a1), (2, .int a2), (3, .int a3), (5, .int a5), (6, .int a6)]) hx hb dX5_best_134 hl (k := 4) rfl (by rw [ex34]; rfl) (by decide) rfl (fun ls hl => ?_)
            refine lv_goto (tgt := 37) hx hb dX5_best_137 (by decide) ?_
            exact ih37 a1 a2 a3 x34 d32 _ _ _ hw (lv_sub hl [1, 2, 3, 4, 0] rfl) h
          · replace h := ite_f c31 h
            refine lv_aload_n hx hb dX5_best_65 rfl (lv_at hl 0 rfl) ?_
            refine lv_iload_n hx hb dX5_best_66 rfl (lv_at hl 1 rfl) ?_
            refine lv_bipush (v := 6) hx hb dX5_best_67 (by decide) ?_
            refine lv_iload hx hb dX5_best_69 (lv_at hl 4 rfl) ?_
            refine lv_iadd hx hb dX5_best_71 ?_
            refine lv_iload hx hb dX5_best_72 (lv_at hl 6 rfl) ?_
            obtain ⟨d35, g36, h⟩ := bd_ex h
            refine c_V (As := [.int a1, .int ((6 : Int32) + a4), .int a6]) (rest := []) (w' := (MC g q d35)) cx hw (c_X5_puts l g q N a1 ((6 : Int32) + a4) a6 d_ d35 g36) (cl_X5_71 cx.1.2.2.2.2 ⟨Nat.le_of_ble_eq_true rfl, Nat.le_of_ble_eq_true rfl⟩) (x_recv cx hw (ci := 5) rfl 0 rfl) (Ct.all (MC_ll ..)) hl.1 rfl rfl (Nat.le_of_ble_eq_true rfl) dX5_best_74 ⟨Nat.le_of_ble_eq_true rfl, Nat.le_of_ble_eq_true rfl⟩ (st1 := []) rfl (fun H locs hw => ?_)
            refine lv_aload_n hx hb dX5_best_77 rfl (lv_at hl 0 rfl) ?_
            refine lv_iload_n hx hb dX5_best_78 rfl (lv_at hl 1 rfl) ?_
            obtain ⟨x37, g38, h⟩ := bd_ex h
            refine c_V (As := [.int a1]) (rest := []) (w' := (MC g q d35)) cx hw (c_X5_goodsTo l g q N a1 d35 x37 g38) (cl_X5_192 cx.1.2.2.2.2 ⟨Nat.le_of_ble_eq_true rfl, Nat.le_of_ble_eq_true rfl⟩) (x_recv cx hw (ci := 5) rfl 0 rfl) (Ct.all (MC_ll ..)) hl.1 rfl rfl (Nat.le_of_ble_eq_true rfl) dX5_best_79 ⟨Nat.le_of_ble_eq_true rfl, Nat.le_of_ble_eq_true rfl⟩ (st1 := [.int x37]) rfl (fun H locs hw => ?_)
            refine lv_istore (lv' := [(7, .int x37), (0, .ref (q 0)), (1, .int a1), (2, .int a2), (3, .int a3), (4, .int a4), (5, .int a5), (6, .int a6)]) hx hb dX5_best_82 hl (by decide) rfl (fun ls hl => ?_)
            refine lv_iload hx hb dX5_best_84 (lv_at hl 0 rfl) ?_
            refine lv_iload_n hx hb dX5_best_86 rfl (lv_at hl 4 rfl) ?_
            refine lv_icmp_le (tgt := 101) hx hb dX5_best_87 (by decide) (fun c39 => ?_) (fun c39 => ?_)
            · replace h := ite_t c39 h
              refine lv_iload_n hx hb dX5_best_101 rfl (lv_at hl 3 rfl) ?_
              exact J102 a1 a3 a4 a5 a6 x37 a2 d35 _ _ _ hw (lv_sub hl [1, 2, 4, 5, 6, 7, 0] rfl) h
            · replace h := ite_f c39 h
              refine lv_bipush (v := 10) hx hb dX5_best_90 (by decide) ?_
              refine lv_iload hx hb dX5_best_92 (lv_at hl 5 rfl) ?_
              refine lv_imul hx hb dX5_best_94 ?_
              refine lv_iload hx hb dX5_best_95 (lv_at hl 7 rfl) ?_
              refine lv_iadd hx hb dX5_best_97 ?_
              refine lv_goto (tgt := 102) hx hb dX5_best_98 (by decide) ?_
              exact J102 a1 a3 a4 a5 a6 x37 (((10 : Int32) * a4) + a6) d35 _ _ _ hw (lv_sub hl [1, 2, 4, 5, 6, 7, 0] rfl) h
      intro a1 a2 a3 a4 d_ H locs ls hw hl h
      rw [f_X5_best_L37] at h
      refine lv_iload hx hb dX5_best_37 (lv_at hl 4 rfl) ?_
      refine lv_bipush (v := 9) hx hb dX5_best_39 (by decide) ?_
      refine lv_icmp_ge (tgt := 140) hx hb dX5_best_41 (by decide) (fun c40 => ?_) (fun c40 => ?_)
      · replace h := ite_t c40 h
        refine lv_iload_n hx hb dX5_best_140 rfl (lv_at hl 2 rfl) ?_
        exact r_i cx hr hlocks hw (pr1 h) (congrArg (fun z0 => (MC g q z0)) (pr2 h)) dX5_best_141
      · replace h := ite_f c40 h
        refine lv_aload_n hx hb dX5_best_44 rfl (lv_at hl 0 rfl) ?_
        refine lv_iload_n hx hb dX5_best_45 rfl (lv_at hl 1 rfl) ?_
        refine lv_bipush (v := 6) hx hb dX5_best_46 (by decide) ?_
        refine lv_iload hx hb dX5_best_48 (lv_at hl 4 rfl) ?_
        refine lv_iadd hx hb dX5_best_50 ?_
        obtain ⟨x41, g42, h⟩ := bd_ex h
        refine c_V (As := [.int a1, .int ((6 : Int32) + a4)]) (rest := []) (w' := (MC g q d_)) cx hw (c_X5_is l g q N a1 ((6 : Int32) + a4) d_ x41 g42) (cl_X5_47 cx.1.2.2.2.2 ⟨Nat.le_of_ble_eq_true rfl, Nat.le_of_ble_eq_true rfl⟩) (x_recv cx hw (ci := 5) rfl 0 rfl) (Ct.all (MC_ll ..)) hl.1 rfl rfl (Nat.le_of_ble_eq_true rfl) dX5_best_51 ⟨Nat.le_of_ble_eq_true rfl, Nat.le_of_ble_eq_true rfl⟩ (st1 := [.int x41]) rfl (fun H locs hw => ?_)
        refine lv_istore (lv' := [(5, .int x41), (0, .ref (q 0)), (1, .int a1), (2, .int a2), (3, .int a3), (4, .int a4)]) hx hb dX5_best_54 hl (by decide) rfl (fun ls hl => ?_)
        refine lv_iconst (v := 0) hx hb dX5_best_56 (by decide) ?_
        refine lv_istore (lv' := [(6, .int (0 : Int32)), (5, .int x41), (0, .ref (q 0)), (1, .int a1), (2, .int a2), (3, .int a3), (4, .int a4)]) hx hb dX5_best_57 hl (by decide) rfl (fun ls hl => ?_)
        exact L59 N a1 a2 a3 a4 x41 (0 : Int32) d_ _ _ _ hw (lv_sub hl [2, 3, 4, 5, 6, 1, 0] rfl) h
  unfold f_X5_best at h
  refine lv_aload_n hx hb dX5_best_0 rfl (lv_at hl 0 rfl) ?_
  refine lv_iload_n hx hb dX5_best_1 rfl (lv_at hl 1 rfl) ?_
  obtain ⟨x1, g2, h⟩ := bd_ex h
  refine c_V (As := [.int p1]) (rest := []) (w' := (MC g q d)) cx hw (c_X5_isOne l g q N p1 d x1 g2) (cl_X5_43 cx.1.2.2.2.2 ⟨Nat.le_of_ble_eq_true rfl, Nat.le_of_ble_eq_true rfl⟩) (x_recv cx hw (ci := 5) rfl 0 rfl) (Ct.all (MC_ll ..)) hl.1 rfl rfl (Nat.le_of_ble_eq_true rfl) dX5_best_2 ⟨Nat.le_of_ble_eq_true rfl, Nat.le_of_ble_eq_true rfl⟩ (st1 := [.int x1]) rfl (fun H locs hw => ?_)
  refine lv_if_ne (tgt := 15) hx hb dX5_best_5 (by decide) (fun c3 => ?_) (fun c3 => ?_)
  · replace h := ite_f c3 h
    refine lv_aload_n hx hb dX5_best_15 rfl (lv_at hl 0 rfl) ?_
    refine lv_iload_n hx hb dX5_best_16 rfl (lv_at hl 1 rfl) ?_
    obtain ⟨x4, g5, h⟩ := bd_ex h
    refine c_V (As := [.int p1]) (rest := []) (w' := (MC g q d)) cx hw (c_X5_lives l g q N p1 d x4 g5) (cl_X5_107 cx.1.2.2.2.2 ⟨Nat.le_of_ble_eq_true rfl, Nat.le_of_ble_eq_true rfl⟩) (x_recv cx hw (ci := 5) rfl 0 rfl) (Ct.all (MC_ll ..)) hl.1 rfl rfl (Nat.le_of_ble_eq_true rfl) dX5_best_17 ⟨Nat.le_of_ble_eq_true rfl, Nat.le_of_ble_eq_true rfl⟩ (st1 := [.int x4]) rfl (fun H locs hw => ?_)
    refine lv_if_ne (tgt := 30) hx hb dX5_best_20 (by decide) (fun c6 => ?_) (fun c6 => ?_)
    · replace h := ite_f c6 h
      refine lv_iconst (v := 0) hx hb dX5_best_30 (by decide) ?_
      refine lv_istore_n (lv' := [(2, .int (0 : Int32)), (0, .ref (q 0)), (1, .int p1)]) hx hb dX5_best_31 rfl hl (by decide) rfl (fun ls hl => ?_)
      refine lv_iconst (v := -1) hx hb dX5_best_32 (by decide) ?_
      refine lv_istore_n (lv' := [(3, .int (-1 : Int32)), (2, .int (0 : Int32)), (0, .ref (q 0)), (1, .int p1)]) hx hb dX5_best_33 rfl hl (by decide) rfl (fun ls hl => ?_)
      refine lv_iconst (v := 0) hx hb dX5_best_34 (by decide) ?_
      refine lv_istore (lv' := [(4, .int (0 : Int32)), (3, .int (-1 : Int32)), (2, .int (0 : Int32)), (0, .ref (q 0)), (1, .int p1)]) hx hb dX5_best_35 hl (by decide) rfl (fun ls hl => ?_)
      exact L37 N p1 (0 : Int32) (-1 : Int32) (0 : Int32) d _ _ _ hw (lv_sub hl [3, 4, 2, 1, 0] rfl) h
    · replace h := ite_t c6 h
      refine lv_aload_n hx hb dX5_best_23 rfl (lv_at hl 0 rfl) ?_
      refine lv_ldc hx hb cx.1.2.2.2.1 (cx.1.2.2.2.2 _ tw_4_229) dX5_best_24 ?_
      obtain ⟨x7, d8, g9, h⟩ := bd2_ex h
      refine c_V (As := [.int (-1000000005 : Int32)]) (rest := []) (w' := (MC g q d8)) cx hw (c_X5_finds l g q N (-1000000005 : Int32) d x7 d8 g9) (cl_X5_62 cx.1.2.2.2.2 ⟨Nat.le_of_ble_eq_true rfl, Nat.le_of_ble_eq_true rfl⟩) (x_recv cx hw (ci := 5) rfl 0 rfl) (Ct.all (MC_ll ..)) hl.1 rfl rfl (Nat.le_of_ble_eq_true rfl) dX5_best_26 ⟨Nat.le_of_ble_eq_true rfl, Nat.le_of_ble_eq_true rfl⟩ (st1 := [.int x7]) rfl (fun H locs hw => ?_)
      exact r_i cx hr hlocks hw (pr1 h) (congrArg (fun z0 => (MC g q z0)) (pr2 h)) dX5_best_29
  · replace h := ite_t c3 h
    refine lv_aload_n hx hb dX5_best_8 rfl (lv_at hl 0 rfl) ?_
    refine lv_ldc hx hb cx.1.2.2.2.1 (cx.1.2.2.2.2 _ tw_4_79) dX5_best_9 ?_
    obtain ⟨x10, d11, g12, h⟩ := bd2_ex h
    refine c_V (As := [.int (-1000000001 : Int32)]) (rest := []) (w' := (MC g q d11)) cx hw (c_X5_finds l g q N (-1000000001 : Int32) d x10 d11 g12) (cl_X5_62 cx.1.2.2.2.2 ⟨Nat.le_of_ble_eq_true rfl, Nat.le_of_ble_eq_true rfl⟩) (x_recv cx hw (ci := 5) rfl 0 rfl) (Ct.all (MC_ll ..)) hl.1 rfl rfl (Nat.le_of_ble_eq_true rfl) dX5_best_11 ⟨Nat.le_of_ble_eq_true rfl, Nat.le_of_ble_eq_true rfl⟩ (st1 := [.int x10]) rfl (fun H locs hw => ?_)
    exact r_i cx hr hlocks hw (pr1 h) (congrArg (fun z0 => (MC g q z0)) (pr2 h)) dX5_best_14
set_option maxHeartbeats 4000000 in
set_option maxRecDepth 100000 in
theorem c_X5_steer (l : Launch) (g : gE) (q : Nat → Nat) (N : Nat) (p1 : Int32) (p2 : Int32) (d : MD) (r : Int32) (d' : MD) (h : f_X5_steer N  p1 p2 d = some (r, d')) : MO l yX5_steer (Cond.code yX5_steer cX5_steer 4 (some .int) :: TB) rm_X5_steer [.ref (q 0), .int p1, .int p2] g ((MC g q d)) ((MC g q d')) (some (.int r)) 0 0 := by
  refine MO.of (cc := cX5_steer) (maxL := 4) (ret := (some .int)) (by decide) ?_
  intro p e s m below meth c cx hw hr hlocks _
  have hx := cx.1.1
  have hb := cx.1.2.1
  refine en_go (lv := [(0, .ref (q 0)), (1, .int p1), (2, .int p2)]) (Nat.le_of_ble_eq_true rfl) rfl (fun ls hl => ?_)
  unfold f_X5_steer at h
  refine lv_aload_n hx hb dX5_steer_0 rfl (lv_at hl 0 rfl) ?_
  refine lv_iload_n hx hb dX5_steer_1 rfl (lv_at hl 1 rfl) ?_
  refine lv_iload_n hx hb dX5_steer_2 rfl (lv_at hl 2 rfl) ?_
  obtain ⟨x1, g2, h⟩ := bd_ex h
  refine c_V (As := [.int p1, .int p2]) (rest := []) (w' := (MC g q d)) cx hw (c_X5_areTwo l g q N p1 p2 d x1 g2) (cl_X5_90 cx.1.2.2.2.2 ⟨Nat.le_of_ble_eq_true rfl, Nat.le_of_ble_eq_true rfl⟩) (x_recv cx hw (ci := 5) rfl 0 rfl) (Ct.all (MC_ll ..)) hl.1 rfl rfl (Nat.le_of_ble_eq_true rfl) dX5_steer_3 ⟨Nat.le_of_ble_eq_true rfl, Nat.le_of_ble_eq_true rfl⟩ (st1 := [.int x1]) rfl (fun H locs hw => ?_)
  refine lv_if_ne (tgt := 16) hx hb dX5_steer_6 (by decide) (fun c3 => ?_) (fun c3 => ?_)
  · replace h := ite_f c3 h
    refine lv_aload_n hx hb dX5_steer_16 rfl (lv_at hl 0 rfl) ?_
    refine lv_iload_n hx hb dX5_steer_17 rfl (lv_at hl 2 rfl) ?_
    obtain ⟨x4, g5, h⟩ := bd_ex h
    refine c_V (As := [.int p2]) (rest := []) (w' := (MC g q d)) cx hw (c_X5_lives l g q N p2 d x4 g5) (cl_X5_107 cx.1.2.2.2.2 ⟨Nat.le_of_ble_eq_true rfl, Nat.le_of_ble_eq_true rfl⟩) (x_recv cx hw (ci := 5) rfl 0 rfl) (Ct.all (MC_ll ..)) hl.1 rfl rfl (Nat.le_of_ble_eq_true rfl) dX5_steer_18 ⟨Nat.le_of_ble_eq_true rfl, Nat.le_of_ble_eq_true rfl⟩ (st1 := [.int x4]) rfl (fun H locs hw => ?_)
    refine lv_if_eq (tgt := 33) hx hb dX5_steer_21 (by decide) (fun c6 => ?_) (fun c6 => ?_)
    · replace h := ite_t c6 h
      refine lv_aload_n hx hb dX5_steer_33 rfl (lv_at hl 0 rfl) ?_
      refine lv_ldc hx hb cx.1.2.2.2.1 (cx.1.2.2.2.2 _ tw_4_229) dX5_steer_34 ?_
      obtain ⟨x7, d8, g9, h⟩ := bd2_ex h
      refine c_V (As := [.int (-1000000005 : Int32)]) (rest := []) (w' := (MC g q d8)) cx hw (c_X5_finds l g q N (-1000000005 : Int32) d x7 d8 g9) (cl_X5_62 cx.1.2.2.2.2 ⟨Nat.le_of_ble_eq_true rfl, Nat.le_of_ble_eq_true rfl⟩) (x_recv cx hw (ci := 5) rfl 0 rfl) (Ct.all (MC_ll ..)) hl.1 rfl rfl (Nat.le_of_ble_eq_true rfl) dX5_steer_36 ⟨Nat.le_of_ble_eq_true rfl, Nat.le_of_ble_eq_true rfl⟩ (st1 := [.int x7]) rfl (fun H locs hw => ?_)
      exact r_i cx hr hlocks hw (pr1 h) (congrArg (fun z0 => (MC g q z0)) (pr2 h)) dX5_steer_39
    · replace h := ite_f c6 h
      refine lv_aload_n hx hb dX5_steer_24 rfl (lv_at hl 0 rfl) ?_
      refine lv_iload_n hx hb dX5_steer_25 rfl (lv_at hl 1 rfl) ?_
      obtain ⟨x10, g11, h⟩ := bd_ex h
      refine c_V (As := [.int p1]) (rest := []) (w' := (MC g q d)) cx hw (c_X5_heirFor l g q N p1 d x10 g11) (cl_X5_113 cx.1.2.2.2.2 ⟨Nat.le_of_ble_eq_true rfl, Nat.le_of_ble_eq_true rfl⟩) (x_recv cx hw (ci := 5) rfl 0 rfl) (Ct.all (MC_ll ..)) hl.1 rfl rfl (Nat.le_of_ble_eq_true rfl) dX5_steer_26 ⟨Nat.le_of_ble_eq_true rfl, Nat.le_of_ble_eq_true rfl⟩ (st1 := [.int x10]) rfl (fun H locs hw => ?_)
      refine lv_iload_n hx hb dX5_steer_29 rfl (lv_at hl 2 rfl) ?_
      refine lv_icmp_ne (tgt := 40) hx hb dX5_steer_30 (by decide) (fun c12 => ?_) (fun c12 => ?_)
      · replace h := ite_f c12 h
        refine lv_aload_n hx hb dX5_steer_40 rfl (lv_at hl 0 rfl) ?_
        refine lv_iload_n hx hb dX5_steer_41 rfl (lv_at hl 1 rfl) ?_
        refine lv_iload_n hx hb dX5_steer_42 rfl (lv_at hl 1 rfl) ?_
        refine lv_iload_n hx hb dX5_steer_43 rfl (lv_at hl 2 rfl) ?_
        obtain ⟨x13, d14, g15, h⟩ := bd2_ex h
        refine c_V (As := [.int p1, .int p1, .int p2]) (rest := []) (w' := (MC g q d14)) cx hw (c_X5_leastChange l g q N p1 p1 p2 d x13 d14 g15) (cl_X5_182 cx.1.2.2.2.2 ⟨Nat.le_of_ble_eq_true rfl, Nat.le_of_ble_eq_true rfl⟩) (x_recv cx hw (ci := 5) rfl 0 rfl) (Ct.all (MC_ll ..)) hl.1 rfl rfl (Nat.le_of_ble_eq_true rfl) dX5_steer_44 ⟨Nat.le_of_ble_eq_true rfl, Nat.le_of_ble_eq_true rfl⟩ (st1 := [.int x13]) rfl (fun H locs hw => ?_)
        refine lv_istore_n (lv' := [(3, .int x13), (0, .ref (q 0)), (1, .int p1), (2, .int p2)]) hx hb dX5_steer_47 rfl hl (by decide) rfl (fun ls hl => ?_)
        refine lv_iload_n hx hb dX5_steer_48 rfl (lv_at hl 0 rfl) ?_
        refine lv_if_ge (tgt := 61) hx hb dX5_steer_49 (by decide) (fun c16 => ?_) (fun c16 => ?_)
        · replace h := ite_t c16 h
          refine lv_iload_n hx hb dX5_steer_61 rfl (lv_at hl 0 rfl) ?_
          exact r_i cx hr hlocks hw (pr1 h) (congrArg (fun z0 => (MC g q z0)) (pr2 h)) dX5_steer_62
        · replace h := ite_f c16 h
          refine lv_aload_n hx hb dX5_steer_52 rfl (lv_at hl 1 rfl) ?_
          refine lv_ldc hx hb cx.1.2.2.2.1 (cx.1.2.2.2.2 _ tw_4_195) dX5_steer_53 ?_
          obtain ⟨x17, d18, g19, h⟩ := bd2_ex h
          refine c_V (As := [.int (-1000000004 : Int32)]) (rest := []) (w' := (MC g q d18)) cx hw (c_X5_finds l g q N (-1000000004 : Int32) d14 x17 d18 g19) (cl_X5_62 cx.1.2.2.2.2 ⟨Nat.le_of_ble_eq_true rfl, Nat.le_of_ble_eq_true rfl⟩) (x_recv cx hw (ci := 5) rfl 0 rfl) (Ct.all (MC_ll ..)) hl.1 rfl rfl (Nat.le_of_ble_eq_true rfl) dX5_steer_55 ⟨Nat.le_of_ble_eq_true rfl, Nat.le_of_ble_eq_true rfl⟩ (st1 := [.int x17]) rfl (fun H locs hw => ?_)
          refine lv_goto (tgt := 62) hx hb dX5_steer_58 (by decide) ?_
          exact r_i cx hr hlocks hw (pr1 h) (congrArg (fun z0 => (MC g q z0)) (pr2 h)) dX5_steer_62
      · replace h := ite_t c12 h
        refine lv_aload_n hx hb dX5_steer_33 rfl (lv_at hl 0 rfl) ?_
        refine lv_ldc hx hb cx.1.2.2.2.1 (cx.1.2.2.2.2 _ tw_4_229) dX5_steer_34 ?_
        obtain ⟨x20, d21, g22, h⟩ := bd2_ex h
        refine c_V (As := [.int (-1000000005 : Int32)]) (rest := []) (w' := (MC g q d21)) cx hw (c_X5_finds l g q N (-1000000005 : Int32) d x20 d21 g22) (cl_X5_62 cx.1.2.2.2.2 ⟨Nat.le_of_ble_eq_true rfl, Nat.le_of_ble_eq_true rfl⟩) (x_recv cx hw (ci := 5) rfl 0 rfl) (Ct.all (MC_ll ..)) hl.1 rfl rfl (Nat.le_of_ble_eq_true rfl) dX5_steer_36 ⟨Nat.le_of_ble_eq_true rfl, Nat.le_of_ble_eq_true rfl⟩ (st1 := [.int x20]) rfl (fun H locs hw => ?_)
        exact r_i cx hr hlocks hw (pr1 h) (congrArg (fun z0 => (MC g q z0)) (pr2 h)) dX5_steer_39
  · replace h := ite_t c3 h
    refine lv_aload_n hx hb dX5_steer_9 rfl (lv_at hl 0 rfl) ?_
    refine lv_ldc hx hb cx.1.2.2.2.1 (cx.1.2.2.2.2 _ tw_4_79) dX5_steer_10 ?_
    obtain ⟨x23, d24, g25, h⟩ := bd2_ex h
    refine c_V (As := [.int (-1000000001 : Int32)]) (rest := []) (w' := (MC g q d24)) cx hw (c_X5_finds l g q N (-1000000001 : Int32) d x23 d24 g25) (cl_X5_62 cx.1.2.2.2.2 ⟨Nat.le_of_ble_eq_true rfl, Nat.le_of_ble_eq_true rfl⟩) (x_recv cx hw (ci := 5) rfl 0 rfl) (Ct.all (MC_ll ..)) hl.1 rfl rfl (Nat.le_of_ble_eq_true rfl) dX5_steer_12 ⟨Nat.le_of_ble_eq_true rfl, Nat.le_of_ble_eq_true rfl⟩ (st1 := [.int x23]) rfl (fun H locs hw => ?_)
    exact r_i cx hr hlocks hw (pr1 h) (congrArg (fun z0 => (MC g q z0)) (pr2 h)) dX5_steer_15
set_option maxHeartbeats 4000000 in
set_option maxRecDepth 100000 in
theorem c_X5_kind (l : Launch) (g : gE) (q : Nat → Nat) (N : Nat) (p1 : Int32) (p2 : Int32) (d : MD) (r : Int32) (d' : MD) (h : f_X5_kind N  p1 p2 d = some (r, d')) : MO l yX5_kind (Cond.code yX5_kind cX5_kind 8 (some .int) :: TB) rm_X5_kind [.ref (q 0), .int p1, .int p2] g ((MC g q d)) ((MC g q d')) (some (.int r)) 0 0 := by
  refine MO.of (cc := cX5_kind) (maxL := 8) (ret := (some .int)) (by decide) ?_
  intro p e s m below meth c cx hw hr hlocks _
  have hx := cx.1.1
  have hb := cx.1.2.1
  refine en_go (lv := [(0, .ref (q 0)), (1, .int p1), (2, .int p2)]) (Nat.le_of_ble_eq_true rfl) rfl (fun ls hl => ?_)
  have L54 : ∀ (n54 : Nat) (a1 : Int32) (a2 : Int32) (a3 : Int32) (a4 : Int32) (a5 : Int32) (d_ : MD) (H : Heap) (locs : List Loc) (ls : Array Slot), Wd g (va_A ((MC g q d)) s.heap.size) ((MC g q d_)) s H locs → lv_has ls 8 [(0, .ref (q 0)), (1, .int a1), (2, .int a2), (3, .int a3), (4, .int a4), (5, .int a5)] → f_X5_kind_L54 N   n54 a1 a2 a3 a4 a5 d_ = some (r, d') → W p l e rm_X5_kind s m ([.ref (q 0), .int p1, .int p2] : List Value).toArray below meth c H locs 0 0 (MQ below (QO (some (.int r)) g ((MC g q d')) (va_A ((MC g q d)) s.heap.size)) ([.ref (q 0), .int p1, .int p2] : List Value).toArray s 0 0 (va_A ((MC g q d)) s.heap.size)) (F0 m 54 ls []) := by
    intro n54
    induction n54 with
    | zero => intro a1 a2 a3 a4 a5 d_ H locs ls hw hl h; exact (Option.some_ne_none _ h.symm).elim
    | succ n54 ih54 =>
      have J101 : ∀ (a1 : Int32) (a2 : Int32) (a4 : Int32) (a5 : Int32) (a7 : Int32) (t0 : Int32) (d_ : MD) (H : Heap) (locs : List Loc) (ls : Array Slot), Wd g (va_A ((MC g q d)) s.heap.size) ((MC g q d_)) s H locs → lv_has ls 8 [(0, .ref (q 0)), (1, .int a1), (2, .int a2), (4, .int a4), (5, .int a5), (7, .int a7)] → f_X5_kind_J101 N  (f_X5_kind_L54 N   n54) a1 a2 a4 a5 a7 t0 d_ = some (r, d') → W p l e rm_X5_kind s m ([.ref (q 0), .int p1, .int p2] : List Value).toArray below meth c H locs 0 0 (MQ below (QO (some (.int r)) g ((MC g q d')) (va_A ((MC g q d)) s.heap.size)) ([.ref (q 0), .int p1, .int p2] : List Value).toArray s 0 0 (va_A ((MC g q d)) s.heap.size)) (F0 m 101 ls [.int t0]) := by
        intro a1 a2 a4 a5 a7 t0 d_ H locs ls hw hl h
        unfold f_X5_kind_J101 at h
        refine lv_istore_n (lv' := [(3, .int t0), (0, .ref (q 0)), (1, .int a1), (2, .int a2), (4, .int a4), (5, .int a5), (7, .int a7)]) hx hb dX5_kind_101 rfl hl (by decide) rfl (fun ls hl => ?_)
        refine lv_iload hx hb dX5_kind_102 (lv_at hl 6 rfl) ?_
        refine lv_iload hx hb dX5_kind_104 (lv_at hl 4 rfl) ?_
        refine lv_icmp_le (tgt := 114) hx hb dX5_kind_106 (by decide) (fun c35 => ?_) (fun c35 => ?_)
        · replace h := ite_t c35 h
          refine lv_iload hx hb dX5_kind_114 (lv_at hl 4 rfl) ?_
          refine lv_istore (lv' := [(4, .int a4), (3, .int t0), (0, .ref (q 0)), (1, .int a1), (2, .int a2), (5, .int a5), (7, .int a7)]) hx hb dX5_kind_116 hl (by decide) rfl (fun ls hl => ?_)
          obtain ⟨x36, ex36⟩ : ∃ y : Int32, y = (a5 + 1) := ⟨_, rfl⟩
          replace h := lt_nx ex36 h
          refine lv_iinc (v := x36) (lv' := [(5, .int x36), (4, .int a4), (3, .int t0), (0, .ref (q 0)), (1, .int a1), (2, .int a2), (7, .int a7)]) hx hb dX5_kind_118 hl (k := 5) rfl (by rw [ex36]; rfl) (by decide) rfl (fun ls hl => ?_)
          refine lv_goto (tgt := 54) hx hb dX5_kind_121 (by decide) ?_
          exact ih54 a1 a2 t0 a4 x36 d_ _ _ _ hw (lv_sub hl [3, 4, 5, 2, 1, 0] rfl) h
        · replace h := ite_f c35 h
          refine lv_iload hx hb dX5_kind_109 (lv_at hl 6 rfl) ?_
          refine lv_goto (tgt := 116) hx hb dX5_kind_111 (by decide) ?_
          refine lv_istore (lv' := [(4, .int a7), (3, .int t0), (0, .ref (q 0)), (1, .int a1), (2, .int a2), (5, .int a5), (7, .int a7)]) hx hb dX5_kind_116 hl (by decide) rfl (fun ls hl => ?_)
          obtain ⟨x37, ex37⟩ : ∃ y : Int32, y = (a5 + 1) := ⟨_, rfl⟩
          replace h := lt_nx ex37 h
          refine lv_iinc (v := x37) (lv' := [(5, .int x37), (4, .int a7), (3, .int t0), (0, .ref (q 0)), (1, .int a1), (2, .int a2), (7, .int a7)]) hx hb dX5_kind_118 hl (k := 5) rfl (by rw [ex37]; rfl) (by decide) rfl (fun ls hl => ?_)
          refine lv_goto (tgt := 54) hx hb dX5_kind_121 (by decide) ?_
          exact ih54 a1 a2 t0 a7 x37 d_ _ _ _ hw (lv_sub hl [3, 4, 5, 2, 1, 0] rfl) h
      intro a1 a2 a3 a4 a5 d_ H locs ls hw hl h
      rw [f_X5_kind_L54] at h
      refine lv_iload hx hb dX5_kind_54 (lv_at hl 5 rfl) ?_
      refine lv_bipush (v := 6) hx hb dX5_kind_56 (by decide) ?_
      refine lv_icmp_ge (tgt := 124) hx hb dX5_kind_58 (by decide) (fun c38 => ?_) (fun c38 => ?_)
      · replace h := ite_t c38 h
        refine lv_iload_n hx hb dX5_kind_124 rfl (lv_at hl 3 rfl) ?_
        exact r_i cx hr hlocks hw (pr1 h) (congrArg (fun z0 => (MC g q z0)) (pr2 h)) dX5_kind_125
      · replace h := ite_f c38 h
        refine lv_aload_n hx hb dX5_kind_61 rfl (lv_at hl 0 rfl) ?_
        refine lv_iload_n hx hb dX5_kind_62 rfl (lv_at hl 1 rfl) ?_
        refine lv_iconst (v := 0) hx hb dX5_kind_63 (by decide) ?_
        refine lv_iload hx hb dX5_kind_64 (lv_at hl 5 rfl) ?_
        obtain ⟨d39, g40, h⟩ := bd_ex h
        refine c_V (As := [.int a1, .int (0 : Int32), .int a5]) (rest := []) (w' := (MC g q d39)) cx hw (c_X5_puts l g q N a1 (0 : Int32) a5 d_ d39 g40) (cl_X5_71 cx.1.2.2.2.2 ⟨Nat.le_of_ble_eq_true rfl, Nat.le_of_ble_eq_true rfl⟩) (x_recv cx hw (ci := 5) rfl 0 rfl) (Ct.all (MC_ll ..)) hl.1 rfl rfl (Nat.le_of_ble_eq_true rfl) dX5_kind_66 ⟨Nat.le_of_ble_eq_true rfl, Nat.le_of_ble_eq_true rfl⟩ (st1 := []) rfl (fun H locs hw => ?_)
        refine lv_aload_n hx hb dX5_kind_69 rfl (lv_at hl 0 rfl) ?_
        refine lv_iload_n hx hb dX5_kind_70 rfl (lv_at hl 2 rfl) ?_
        obtain ⟨x41, d42, g43, h⟩ := bd2_ex h
        refine c_V (As := [.int a2]) (rest := []) (w' := (MC g q d42)) cx hw (c_X5_goesOnMany l g q N a2 d39 x41 d42 g43) (cl_X5_160 cx.1.2.2.2.2 ⟨Nat.le_of_ble_eq_true rfl, Nat.le_of_ble_eq_true rfl⟩) (x_recv cx hw (ci := 5) rfl 0 rfl) (Ct.all (MC_ll ..)) hl.1 rfl rfl (Nat.le_of_ble_eq_true rfl) dX5_kind_71 ⟨Nat.le_of_ble_eq_true rfl, Nat.le_of_ble_eq_true rfl⟩ (st1 := [.int x41]) rfl (fun H locs hw => ?_)
        refine lv_istore (lv' := [(6, .int x41), (0, .ref (q 0)), (1, .int a1), (2, .int a2), (3, .int a3), (4, .int a4), (5, .int a5)]) hx hb dX5_kind_74 hl (by decide) rfl (fun ls hl => ?_)
        refine lv_aload_n hx hb dX5_kind_76 rfl (lv_at hl 1 rfl) ?_
        refine lv_iload_n hx hb dX5_kind_77 rfl (lv_at hl 2 rfl) ?_
        refine lv_iconst (v := 2) hx hb dX5_kind_78 (by decide) ?_
        obtain ⟨x44, g45, h⟩ := bd_ex h
        refine c_V (As := [.int a1, .int (2 : Int32)]) (rest := []) (w' := (MC g q d42)) cx hw (c_X5_is l g q N a1 (2 : Int32) d42 x44 g45) (cl_X5_47 cx.1.2.2.2.2 ⟨Nat.le_of_ble_eq_true rfl, Nat.le_of_ble_eq_true rfl⟩) (x_recv cx hw (ci := 5) rfl 0 rfl) (Ct.all (MC_ll ..)) hl.1 rfl rfl (Nat.le_of_ble_eq_true rfl) dX5_kind_79 ⟨Nat.le_of_ble_eq_true rfl, Nat.le_of_ble_eq_true rfl⟩ (st1 := [.int x44]) rfl (fun H locs hw => ?_)
        refine lv_istore (lv' := [(7, .int x44), (6, .int x41), (0, .ref (q 0)), (1, .int a1), (2, .int a2), (3, .int a3), (4, .int a4), (5, .int a5)]) hx hb dX5_kind_82 hl (by decide) rfl (fun ls hl => ?_)
        refine lv_aload_n hx hb dX5_kind_84 rfl (lv_at hl 2 rfl) ?_
        obtain ⟨d46, g47, h⟩ := bd_ex h
        refine c_V (As := []) (rest := []) (w' := (MC g q d46)) cx hw (c_X5_laysBack l g q N  d42 d46 g47) (cl_X5_176 cx.1.2.2.2.2 ⟨Nat.le_of_ble_eq_true rfl, Nat.le_of_ble_eq_true rfl⟩) (x_recv cx hw (ci := 5) rfl 0 rfl) (Ct.all (MC_ll ..)) hl.1 rfl rfl (Nat.le_of_ble_eq_true rfl) dX5_kind_85 ⟨Nat.le_of_ble_eq_true rfl, Nat.le_of_ble_eq_true rfl⟩ (st1 := []) rfl (fun H locs hw => ?_)
        refine lv_iload hx hb dX5_kind_88 (lv_at hl 0 rfl) ?_
        refine lv_iload hx hb dX5_kind_90 (lv_at hl 6 rfl) ?_
        refine lv_icmp_le (tgt := 100) hx hb dX5_kind_92 (by decide) (fun c48 => ?_) (fun c48 => ?_)
        · replace h := ite_t c48 h
          refine lv_iload_n hx hb dX5_kind_100 rfl (lv_at hl 5 rfl) ?_
          exact J101 a1 a2 a4 a5 x44 a3 d46 _ _ _ hw (lv_sub hl [2, 3, 4, 6, 7, 0] rfl) h
        · replace h := ite_f c48 h
          refine lv_iload hx hb dX5_kind_95 (lv_at hl 7 rfl) ?_
          refine lv_goto (tgt := 101) hx hb dX5_kind_97 (by decide) ?_
          exact J101 a1 a2 a4 a5 x44 a5 d46 _ _ _ hw (lv_sub hl [2, 3, 4, 6, 7, 0] rfl) h
  unfold f_X5_kind at h
  refine lv_aload_n hx hb dX5_kind_0 rfl (lv_at hl 0 rfl) ?_
  refine lv_iload_n hx hb dX5_kind_1 rfl (lv_at hl 1 rfl) ?_
  obtain ⟨x1, g2, h⟩ := bd_ex h
  refine c_V (As := [.int p1]) (rest := []) (w' := (MC g q d)) cx hw (c_X5_isOne l g q N p1 d x1 g2) (cl_X5_43 cx.1.2.2.2.2 ⟨Nat.le_of_ble_eq_true rfl, Nat.le_of_ble_eq_true rfl⟩) (x_recv cx hw (ci := 5) rfl 0 rfl) (Ct.all (MC_ll ..)) hl.1 rfl rfl (Nat.le_of_ble_eq_true rfl) dX5_kind_2 ⟨Nat.le_of_ble_eq_true rfl, Nat.le_of_ble_eq_true rfl⟩ (st1 := [.int x1]) rfl (fun H locs hw => ?_)
  refine lv_if_eq (tgt := 20) hx hb dX5_kind_5 (by decide) (fun c3 => ?_) (fun c3 => ?_)
  · replace h := ite_t c3 h
    refine lv_aload_n hx hb dX5_kind_20 rfl (lv_at hl 0 rfl) ?_
    refine lv_ldc hx hb cx.1.2.2.2.1 (cx.1.2.2.2.2 _ tw_4_79) dX5_kind_21 ?_
    obtain ⟨x4, d5, g6, h⟩ := bd2_ex h
    refine c_V (As := [.int (-1000000001 : Int32)]) (rest := []) (w' := (MC g q d5)) cx hw (c_X5_finds l g q N (-1000000001 : Int32) d x4 d5 g6) (cl_X5_62 cx.1.2.2.2.2 ⟨Nat.le_of_ble_eq_true rfl, Nat.le_of_ble_eq_true rfl⟩) (x_recv cx hw (ci := 5) rfl 0 rfl) (Ct.all (MC_ll ..)) hl.1 rfl rfl (Nat.le_of_ble_eq_true rfl) dX5_kind_23 ⟨Nat.le_of_ble_eq_true rfl, Nat.le_of_ble_eq_true rfl⟩ (st1 := [.int x4]) rfl (fun H locs hw => ?_)
    exact r_i cx hr hlocks hw (pr1 h) (congrArg (fun z0 => (MC g q z0)) (pr2 h)) dX5_kind_26
  · replace h := ite_f c3 h
    refine lv_iload_n hx hb dX5_kind_8 rfl (lv_at hl 2 rfl) ?_
    refine lv_i2l hx hb dX5_kind_9 rfl ?_
    refine lv_lconst (v := 1) hx hb dX5_kind_10 (by decide) ?_
    refine lv_ldc2 hx hb cx.1.2.2.2.1 (cx.1.2.2.2.2 _ tw_4_224) dX5_kind_11 ?_
    obtain ⟨x7, g8, h⟩ := bd_ex h
    refine c_S (As := [.long ((p2).toInt64), .long (1 : Int64), .long (100 : Int64)]) (rest := []) (w' := (MC g q d)) cx hw (c_X5_isIn l g  N ((p2).toInt64) (1 : Int64) (100 : Int64)  x7 g8) (cl_X5_54 cx.1.2.2.2.2 ⟨Nat.le_of_ble_eq_true rfl, Nat.le_of_ble_eq_true rfl⟩) Ct.nil hl.1 rfl rfl (Nat.le_of_ble_eq_true rfl) dX5_kind_14 ⟨Nat.le_of_ble_eq_true rfl, Nat.le_of_ble_eq_true rfl⟩ (st1 := [.int x7]) rfl (fun H locs hw => ?_)
    refine lv_if_ne (tgt := 27) hx hb dX5_kind_17 (by decide) (fun c9 => ?_) (fun c9 => ?_)
    · replace h := ite_f c9 h
      refine lv_aload_n hx hb dX5_kind_27 rfl (lv_at hl 0 rfl) ?_
      refine lv_iload_n hx hb dX5_kind_28 rfl (lv_at hl 2 rfl) ?_
      obtain ⟨x10, g11, h⟩ := bd_ex h
      refine c_V (As := [.int p2]) (rest := []) (w' := (MC g q d)) cx hw (c_X5_isFar l g q N p2 d x10 g11) (cl_X5_156 cx.1.2.2.2.2 ⟨Nat.le_of_ble_eq_true rfl, Nat.le_of_ble_eq_true rfl⟩) (x_recv cx hw (ci := 5) rfl 0 rfl) (Ct.all (MC_ll ..)) hl.1 rfl rfl (Nat.le_of_ble_eq_true rfl) dX5_kind_29 ⟨Nat.le_of_ble_eq_true rfl, Nat.le_of_ble_eq_true rfl⟩ (st1 := [.int x10]) rfl (fun H locs hw => ?_)
      refine lv_if_eq (tgt := 42) hx hb dX5_kind_32 (by decide) (fun c12 => ?_) (fun c12 => ?_)
      · replace h := ite_t c12 h
        refine lv_aload_n hx hb dX5_kind_42 rfl (lv_at hl 0 rfl) ?_
        obtain ⟨d13, g14, h⟩ := bd_ex h
        refine c_V (As := []) (rest := []) (w' := (MC g q d13)) cx hw (c_X5_laysBy l g q N  d d13 g14) (cl_X5_173 cx.1.2.2.2.2 ⟨Nat.le_of_ble_eq_true rfl, Nat.le_of_ble_eq_true rfl⟩) (x_recv cx hw (ci := 5) rfl 0 rfl) (Ct.all (MC_ll ..)) hl.1 rfl rfl (Nat.le_of_ble_eq_true rfl) dX5_kind_43 ⟨Nat.le_of_ble_eq_true rfl, Nat.le_of_ble_eq_true rfl⟩ (st1 := []) rfl (fun H locs hw => ?_)
        refine lv_iconst (v := 0) hx hb dX5_kind_46 (by decide) ?_
        refine lv_istore_n (lv' := [(3, .int (0 : Int32)), (0, .ref (q 0)), (1, .int p1), (2, .int p2)]) hx hb dX5_kind_47 rfl hl (by decide) rfl (fun ls hl => ?_)
        refine lv_iconst (v := -1) hx hb dX5_kind_48 (by decide) ?_
        refine lv_istore (lv' := [(4, .int (-1 : Int32)), (3, .int (0 : Int32)), (0, .ref (q 0)), (1, .int p1), (2, .int p2)]) hx hb dX5_kind_49 hl (by decide) rfl (fun ls hl => ?_)
        refine lv_iconst (v := 0) hx hb dX5_kind_51 (by decide) ?_
        refine lv_istore (lv' := [(5, .int (0 : Int32)), (4, .int (-1 : Int32)), (3, .int (0 : Int32)), (0, .ref (q 0)), (1, .int p1), (2, .int p2)]) hx hb dX5_kind_52 hl (by decide) rfl (fun ls hl => ?_)
        exact L54 N p1 p2 (0 : Int32) (-1 : Int32) (0 : Int32) d13 _ _ _ hw (lv_sub hl [3, 4, 5, 2, 1, 0] rfl) h
      · replace h := ite_f c12 h
        refine lv_aload_n hx hb dX5_kind_35 rfl (lv_at hl 0 rfl) ?_
        refine lv_ldc hx hb cx.1.2.2.2.1 (cx.1.2.2.2.2 _ tw_4_229) dX5_kind_36 ?_
        obtain ⟨x15, d16, g17, h⟩ := bd2_ex h
        refine c_V (As := [.int (-1000000005 : Int32)]) (rest := []) (w' := (MC g q d16)) cx hw (c_X5_finds l g q N (-1000000005 : Int32) d x15 d16 g17) (cl_X5_62 cx.1.2.2.2.2 ⟨Nat.le_of_ble_eq_true rfl, Nat.le_of_ble_eq_true rfl⟩) (x_recv cx hw (ci := 5) rfl 0 rfl) (Ct.all (MC_ll ..)) hl.1 rfl rfl (Nat.le_of_ble_eq_true rfl) dX5_kind_38 ⟨Nat.le_of_ble_eq_true rfl, Nat.le_of_ble_eq_true rfl⟩ (st1 := [.int x15]) rfl (fun H locs hw => ?_)
        exact r_i cx hr hlocks hw (pr1 h) (congrArg (fun z0 => (MC g q z0)) (pr2 h)) dX5_kind_41
    · replace h := ite_t c9 h
      refine lv_aload_n hx hb dX5_kind_20 rfl (lv_at hl 0 rfl) ?_
      refine lv_ldc hx hb cx.1.2.2.2.1 (cx.1.2.2.2.2 _ tw_4_79) dX5_kind_21 ?_
      obtain ⟨x18, d19, g20, h⟩ := bd2_ex h
      refine c_V (As := [.int (-1000000001 : Int32)]) (rest := []) (w' := (MC g q d19)) cx hw (c_X5_finds l g q N (-1000000001 : Int32) d x18 d19 g20) (cl_X5_62 cx.1.2.2.2.2 ⟨Nat.le_of_ble_eq_true rfl, Nat.le_of_ble_eq_true rfl⟩) (x_recv cx hw (ci := 5) rfl 0 rfl) (Ct.all (MC_ll ..)) hl.1 rfl rfl (Nat.le_of_ble_eq_true rfl) dX5_kind_23 ⟨Nat.le_of_ble_eq_true rfl, Nat.le_of_ble_eq_true rfl⟩ (st1 := [.int x18]) rfl (fun H locs hw => ?_)
      exact r_i cx hr hlocks hw (pr1 h) (congrArg (fun z0 => (MC g q z0)) (pr2 h)) dX5_kind_26
set_option maxHeartbeats 4000000 in
set_option maxRecDepth 100000 in
theorem c_X5_fair (l : Launch) (g : gE) (q : Nat → Nat) (N : Nat) (p1 : Int32) (d : MD) (r : Int32) (d' : MD) (h : f_X5_fair N  p1 d = some (r, d')) : MO l yX5_fair (Cond.code yX5_fair cX5_fair 8 (some .int) :: TB) rm_X5_fair [.ref (q 0), .int p1] g ((MC g q d)) ((MC g q d')) (some (.int r)) 0 0 := by
  refine MO.of (cc := cX5_fair) (maxL := 8) (ret := (some .int)) (by decide) ?_
  intro p e s m below meth c cx hw hr hlocks _
  have hx := cx.1.1
  have hb := cx.1.2.1
  refine en_go (lv := [(0, .ref (q 0)), (1, .int p1)]) (Nat.le_of_ble_eq_true rfl) rfl (fun ls hl => ?_)
  have L46 : ∀ (n46 : Nat) (a1 : Int32) (a2 : Int32) (a3 : Int32) (a4 : Int32) (d_ : MD) (H : Heap) (locs : List Loc) (ls : Array Slot), Wd g (va_A ((MC g q d)) s.heap.size) ((MC g q d_)) s H locs → lv_has ls 8 [(0, .ref (q 0)), (1, .int a1), (2, .int a2), (3, .int a3), (4, .int a4)] → f_X5_fair_L46 N   n46 a1 a2 a3 a4 d_ = some (r, d') → W p l e rm_X5_fair s m ([.ref (q 0), .int p1] : List Value).toArray below meth c H locs 0 0 (MQ below (QO (some (.int r)) g ((MC g q d')) (va_A ((MC g q d)) s.heap.size)) ([.ref (q 0), .int p1] : List Value).toArray s 0 0 (va_A ((MC g q d)) s.heap.size)) (F0 m 46 ls []) := by
    intro n46
    induction n46 with
    | zero => intro a1 a2 a3 a4 d_ H locs ls hw hl h; exact (Option.some_ne_none _ h.symm).elim
    | succ n46 ih46 =>
      have J108 : ∀ (a1 : Int32) (a3 : Int32) (a4 : Int32) (a7 : Int32) (t0 : Int32) (d_ : MD) (H : Heap) (locs : List Loc) (ls : Array Slot), Wd g (va_A ((MC g q d)) s.heap.size) ((MC g q d_)) s H locs → lv_has ls 8 [(0, .ref (q 0)), (1, .int a1), (3, .int a3), (4, .int a4), (7, .int a7)] → f_X5_fair_J108 N  (f_X5_fair_L46 N   n46) a1 a3 a4 a7 t0 d_ = some (r, d') → W p l e rm_X5_fair s m ([.ref (q 0), .int p1] : List Value).toArray below meth c H locs 0 0 (MQ below (QO (some (.int r)) g ((MC g q d')) (va_A ((MC g q d)) s.heap.size)) ([.ref (q 0), .int p1] : List Value).toArray s 0 0 (va_A ((MC g q d)) s.heap.size)) (F0 m 108 ls [.int t0]) := by
        intro a1 a3 a4 a7 t0 d_ H locs ls hw hl h
        unfold f_X5_fair_J108 at h
        refine lv_istore_n (lv' := [(2, .int t0), (0, .ref (q 0)), (1, .int a1), (3, .int a3), (4, .int a4), (7, .int a7)]) hx hb dX5_fair_108 rfl hl (by decide) rfl (fun ls hl => ?_)
        refine lv_iload hx hb dX5_fair_109 (lv_at hl 5 rfl) ?_
        refine lv_iload_n hx hb dX5_fair_111 rfl (lv_at hl 3 rfl) ?_
        refine lv_icmp_ge (tgt := 120) hx hb dX5_fair_112 (by decide) (fun c32 => ?_) (fun c32 => ?_)
        · replace h := ite_t c32 h
          refine lv_iload_n hx hb dX5_fair_120 rfl (lv_at hl 3 rfl) ?_
          refine lv_istore_n (lv' := [(3, .int a3), (2, .int t0), (0, .ref (q 0)), (1, .int a1), (4, .int a4), (7, .int a7)]) hx hb dX5_fair_121 rfl hl (by decide) rfl (fun ls hl => ?_)
          obtain ⟨x33, ex33⟩ : ∃ y : Int32, y = (a4 + 1) := ⟨_, rfl⟩
          replace h := lt_nx ex33 h
          refine lv_iinc (v := x33) (lv' := [(4, .int x33), (3, .int a3), (2, .int t0), (0, .ref (q 0)), (1, .int a1), (7, .int a7)]) hx hb dX5_fair_122 hl (k := 4) rfl (by rw [ex33]; rfl) (by decide) rfl (fun ls hl => ?_)
          refine lv_goto (tgt := 46) hx hb dX5_fair_125 (by decide) ?_
          exact ih46 a1 t0 a3 x33 d_ _ _ _ hw (lv_sub hl [3, 4, 2, 1, 0] rfl) h
        · replace h := ite_f c32 h
          refine lv_iload hx hb dX5_fair_115 (lv_at hl 5 rfl) ?_
          refine lv_goto (tgt := 121) hx hb dX5_fair_117 (by decide) ?_
          refine lv_istore_n (lv' := [(3, .int a7), (2, .int t0), (0, .ref (q 0)), (1, .int a1), (4, .int a4), (7, .int a7)]) hx hb dX5_fair_121 rfl hl (by decide) rfl (fun ls hl => ?_)
          obtain ⟨x34, ex34⟩ : ∃ y : Int32, y = (a4 + 1) := ⟨_, rfl⟩
          replace h := lt_nx ex34 h
          refine lv_iinc (v := x34) (lv' := [(4, .int x34), (3, .int a7), (2, .int t0), (0, .ref (q 0)), (1, .int a1), (7, .int a7)]) hx hb dX5_fair_122 hl (k := 4) rfl (by rw [ex34]; rfl) (by decide) rfl (fun ls hl => ?_)
          refine lv_goto (tgt := 46) hx hb dX5_fair_125 (by decide) ?_
          exact ih46 a1 t0 a7 x34 d_ _ _ _ hw (lv_sub hl [3, 4, 2, 1, 0] rfl) h
      have J90 : ∀ (a1 : Int32) (a2 : Int32) (a3 : Int32) (a4 : Int32) (t0 : Int32) (d_ : MD) (H : Heap) (locs : List Loc) (ls : Array Slot), Wd g (va_A ((MC g q d)) s.heap.size) ((MC g q d_)) s H locs → lv_has ls 8 [(0, .ref (q 0)), (1, .int a1), (2, .int a2), (3, .int a3), (4, .int a4)] → f_X5_fair_J90 N  (f_X5_fair_L46 N   n46) a1 a2 a3 a4 t0 d_ = some (r, d') → W p l e rm_X5_fair s m ([.ref (q 0), .int p1] : List Value).toArray below meth c H locs 0 0 (MQ below (QO (some (.int r)) g ((MC g q d')) (va_A ((MC g q d)) s.heap.size)) ([.ref (q 0), .int p1] : List Value).toArray s 0 0 (va_A ((MC g q d)) s.heap.size)) (F0 m 90 ls [.int t0]) := by
        intro a1 a2 a3 a4 t0 d_ H locs ls hw hl h
        unfold f_X5_fair_J90 at h
        refine lv_istore (lv' := [(7, .int t0), (0, .ref (q 0)), (1, .int a1), (2, .int a2), (3, .int a3), (4, .int a4)]) hx hb dX5_fair_90 hl (by decide) rfl (fun ls hl => ?_)
        refine lv_aload_n hx hb dX5_fair_92 rfl (lv_at hl 1 rfl) ?_
        obtain ⟨d35, g36, h⟩ := bd_ex h
        refine c_V (As := []) (rest := []) (w' := (MC g q d35)) cx hw (c_X5_laysBack l g q N  d_ d35 g36) (cl_X5_176 cx.1.2.2.2.2 ⟨Nat.le_of_ble_eq_true rfl, Nat.le_of_ble_eq_true rfl⟩) (x_recv cx hw (ci := 5) rfl 0 rfl) (Ct.all (MC_ll ..)) hl.1 rfl rfl (Nat.le_of_ble_eq_true rfl) dX5_fair_93 ⟨Nat.le_of_ble_eq_true rfl, Nat.le_of_ble_eq_true rfl⟩ (st1 := []) rfl (fun H locs hw => ?_)
        refine lv_iload hx hb dX5_fair_96 (lv_at hl 0 rfl) ?_
        refine lv_iload_n hx hb dX5_fair_98 rfl (lv_at hl 4 rfl) ?_
        refine lv_icmp_ge (tgt := 107) hx hb dX5_fair_99 (by decide) (fun c37 => ?_) (fun c37 => ?_)
        · replace h := ite_t c37 h
          refine lv_iload_n hx hb dX5_fair_107 rfl (lv_at hl 3 rfl) ?_
          exact J108 a1 a3 a4 t0 a2 d35 _ _ _ hw (lv_sub hl [1, 2, 4, 5, 0] rfl) h
        · replace h := ite_f c37 h
          refine lv_iload hx hb dX5_fair_102 (lv_at hl 5 rfl) ?_
          refine lv_goto (tgt := 108) hx hb dX5_fair_104 (by decide) ?_
          exact J108 a1 a3 a4 t0 a4 d35 _ _ _ hw (lv_sub hl [1, 2, 4, 5, 0] rfl) h
      intro a1 a2 a3 a4 d_ H locs ls hw hl h
      rw [f_X5_fair_L46] at h
      refine lv_iload hx hb dX5_fair_46 (lv_at hl 4 rfl) ?_
      refine lv_iconst (v := 3) hx hb dX5_fair_48 (by decide) ?_
      refine lv_icmp_ge (tgt := 128) hx hb dX5_fair_49 (by decide) (fun c38 => ?_) (fun c38 => ?_)
      · replace h := ite_t c38 h
        refine lv_iload_n hx hb dX5_fair_128 rfl (lv_at hl 2 rfl) ?_
        exact r_i cx hr hlocks hw (pr1 h) (congrArg (fun z0 => (MC g q z0)) (pr2 h)) dX5_fair_129
      · replace h := ite_f c38 h
        refine lv_aload_n hx hb dX5_fair_52 rfl (lv_at hl 0 rfl) ?_
        refine gf_X5_7 cx hw 0 rfl rfl dX5_fair_53 ?_
        refine lv_iconst (v := 2) hx hb dX5_fair_56 (by decide) ?_
        refine lv_iload hx hb dX5_fair_57 (lv_at hl 4 rfl) ?_
        have i39 := ck_in h
        replace h := ck_nx h
        refine x_iast cx hw 1 rfl i39 dX5_fair_59 (fun H locs hw => ?_)
        obtain ⟨d40, ed40, h⟩ := lt_ex h
        have hw : Wd g (va_A ((MC g q d)) s.heap.size) ((MC g q d40)) s H locs := by rw [ed40]; exact hw
        refine lv_aload_n hx hb dX5_fair_60 rfl (lv_at hl 0 rfl) ?_
        refine lv_iload_n hx hb dX5_fair_61 rfl (lv_at hl 1 rfl) ?_
        obtain ⟨x41, d42, g43, h⟩ := bd2_ex h
        refine c_V (As := [.int a1]) (rest := []) (w' := (MC g q d42)) cx hw (c_X5_goesOnMany l g q N a1 d40 x41 d42 g43) (cl_X5_160 cx.1.2.2.2.2 ⟨Nat.le_of_ble_eq_true rfl, Nat.le_of_ble_eq_true rfl⟩) (x_recv cx hw (ci := 5) rfl 0 rfl) (Ct.all (MC_ll ..)) hl.1 rfl rfl (Nat.le_of_ble_eq_true rfl) dX5_fair_62 ⟨Nat.le_of_ble_eq_true rfl, Nat.le_of_ble_eq_true rfl⟩ (st1 := [.int x41]) rfl (fun H locs hw => ?_)
        refine lv_istore (lv' := [(5, .int x41), (0, .ref (q 0)), (1, .int a1), (2, .int a2), (3, .int a3), (4, .int a4)]) hx hb dX5_fair_65 hl (by decide) rfl (fun ls hl => ?_)
        refine lv_aload_n hx hb dX5_fair_67 rfl (lv_at hl 1 rfl) ?_
        refine lv_iconst (v := -1) hx hb dX5_fair_68 (by decide) ?_
        obtain ⟨x44, g45, h⟩ := bd_ex h
        refine c_V (As := [.int (-1 : Int32)]) (rest := []) (w' := (MC g q d42)) cx hw (c_X5_richestBut l g q N (-1 : Int32) d42 x44 g45) (cl_X5_120 cx.1.2.2.2.2 ⟨Nat.le_of_ble_eq_true rfl, Nat.le_of_ble_eq_true rfl⟩) (x_recv cx hw (ci := 5) rfl 0 rfl) (Ct.all (MC_ll ..)) hl.1 rfl rfl (Nat.le_of_ble_eq_true rfl) dX5_fair_69 ⟨Nat.le_of_ble_eq_true rfl, Nat.le_of_ble_eq_true rfl⟩ (st1 := [.int x44]) rfl (fun H locs hw => ?_)
        refine lv_istore (lv' := [(6, .int x44), (5, .int x41), (0, .ref (q 0)), (1, .int a1), (2, .int a2), (3, .int a3), (4, .int a4)]) hx hb dX5_fair_72 hl (by decide) rfl (fun ls hl => ?_)
        refine lv_iload hx hb dX5_fair_74 (lv_at hl 0 rfl) ?_
        refine lv_if_ge (tgt := 83) hx hb dX5_fair_76 (by decide) (fun c46 => ?_) (fun c46 => ?_)
        · replace h := ite_t c46 h
          refine lv_aload_n hx hb dX5_fair_83 rfl (lv_at hl 2 rfl) ?_
          refine lv_iload hx hb dX5_fair_84 (lv_at hl 0 rfl) ?_
          refine lv_iconst (v := 2) hx hb dX5_fair_86 (by decide) ?_
          obtain ⟨x47, g48, h⟩ := bd_ex h
          refine c_V (As := [.int x44, .int (2 : Int32)]) (rest := []) (w' := (MC g q d42)) cx hw (c_X5_is l g q N x44 (2 : Int32) d42 x47 g48) (cl_X5_47 cx.1.2.2.2.2 ⟨Nat.le_of_ble_eq_true rfl, Nat.le_of_ble_eq_true rfl⟩) (x_recv cx hw (ci := 5) rfl 0 rfl) (Ct.all (MC_ll ..)) hl.1 rfl rfl (Nat.le_of_ble_eq_true rfl) dX5_fair_87 ⟨Nat.le_of_ble_eq_true rfl, Nat.le_of_ble_eq_true rfl⟩ (st1 := [.int x47]) rfl (fun H locs hw => ?_)
          exact J90 a1 a2 a3 a4 x47 d42 _ _ _ hw (lv_sub hl [2, 3, 4, 5, 6] rfl) h
        · replace h := ite_f c46 h
          refine lv_iconst (v := 0) hx hb dX5_fair_79 (by decide) ?_
          refine lv_goto (tgt := 90) hx hb dX5_fair_80 (by decide) ?_
          exact J90 a1 a2 a3 a4 (0 : Int32) d42 _ _ _ hw (lv_sub hl [2, 3, 4, 5, 6] rfl) h
  unfold f_X5_fair at h
  refine lv_iload_n hx hb dX5_fair_0 rfl (lv_at hl 1 rfl) ?_
  refine lv_i2l hx hb dX5_fair_1 rfl ?_
  refine lv_lconst (v := 1) hx hb dX5_fair_2 (by decide) ?_
  refine lv_ldc2 hx hb cx.1.2.2.2.1 (cx.1.2.2.2.2 _ tw_4_224) dX5_fair_3 ?_
  obtain ⟨x1, g2, h⟩ := bd_ex h
  refine c_S (As := [.long ((p1).toInt64), .long (1 : Int64), .long (100 : Int64)]) (rest := []) (w' := (MC g q d)) cx hw (c_X5_isIn l g  N ((p1).toInt64) (1 : Int64) (100 : Int64)  x1 g2) (cl_X5_54 cx.1.2.2.2.2 ⟨Nat.le_of_ble_eq_true rfl, Nat.le_of_ble_eq_true rfl⟩) Ct.nil hl.1 rfl rfl (Nat.le_of_ble_eq_true rfl) dX5_fair_6 ⟨Nat.le_of_ble_eq_true rfl, Nat.le_of_ble_eq_true rfl⟩ (st1 := [.int x1]) rfl (fun H locs hw => ?_)
  refine lv_if_ne (tgt := 19) hx hb dX5_fair_9 (by decide) (fun c3 => ?_) (fun c3 => ?_)
  · replace h := ite_f c3 h
    refine lv_aload_n hx hb dX5_fair_19 rfl (lv_at hl 0 rfl) ?_
    refine lv_iload_n hx hb dX5_fair_20 rfl (lv_at hl 1 rfl) ?_
    obtain ⟨x4, g5, h⟩ := bd_ex h
    refine c_V (As := [.int p1]) (rest := []) (w' := (MC g q d)) cx hw (c_X5_isFar l g q N p1 d x4 g5) (cl_X5_156 cx.1.2.2.2.2 ⟨Nat.le_of_ble_eq_true rfl, Nat.le_of_ble_eq_true rfl⟩) (x_recv cx hw (ci := 5) rfl 0 rfl) (Ct.all (MC_ll ..)) hl.1 rfl rfl (Nat.le_of_ble_eq_true rfl) dX5_fair_21 ⟨Nat.le_of_ble_eq_true rfl, Nat.le_of_ble_eq_true rfl⟩ (st1 := [.int x4]) rfl (fun H locs hw => ?_)
    refine lv_if_eq (tgt := 34) hx hb dX5_fair_24 (by decide) (fun c6 => ?_) (fun c6 => ?_)
    · replace h := ite_t c6 h
      refine lv_aload_n hx hb dX5_fair_34 rfl (lv_at hl 0 rfl) ?_
      obtain ⟨d7, g8, h⟩ := bd_ex h
      refine c_V (As := []) (rest := []) (w' := (MC g q d7)) cx hw (c_X5_laysBy l g q N  d d7 g8) (cl_X5_173 cx.1.2.2.2.2 ⟨Nat.le_of_ble_eq_true rfl, Nat.le_of_ble_eq_true rfl⟩) (x_recv cx hw (ci := 5) rfl 0 rfl) (Ct.all (MC_ll ..)) hl.1 rfl rfl (Nat.le_of_ble_eq_true rfl) dX5_fair_35 ⟨Nat.le_of_ble_eq_true rfl, Nat.le_of_ble_eq_true rfl⟩ (st1 := []) rfl (fun H locs hw => ?_)
      refine lv_iconst (v := 0) hx hb dX5_fair_38 (by decide) ?_
      refine lv_istore_n (lv' := [(2, .int (0 : Int32)), (0, .ref (q 0)), (1, .int p1)]) hx hb dX5_fair_39 rfl hl (by decide) rfl (fun ls hl => ?_)
      refine lv_ldc hx hb cx.1.2.2.2.1 (cx.1.2.2.2.2 _ tw_5_105) dX5_fair_40 ?_
      refine lv_istore_n (lv' := [(3, .int (1000000 : Int32)), (2, .int (0 : Int32)), (0, .ref (q 0)), (1, .int p1)]) hx hb dX5_fair_42 rfl hl (by decide) rfl (fun ls hl => ?_)
      refine lv_iconst (v := 0) hx hb dX5_fair_43 (by decide) ?_
      refine lv_istore (lv' := [(4, .int (0 : Int32)), (3, .int (1000000 : Int32)), (2, .int (0 : Int32)), (0, .ref (q 0)), (1, .int p1)]) hx hb dX5_fair_44 hl (by decide) rfl (fun ls hl => ?_)
      exact L46 N p1 (0 : Int32) (1000000 : Int32) (0 : Int32) d7 _ _ _ hw (lv_sub hl [3, 4, 2, 1, 0] rfl) h
    · replace h := ite_f c6 h
      refine lv_aload_n hx hb dX5_fair_27 rfl (lv_at hl 0 rfl) ?_
      refine lv_ldc hx hb cx.1.2.2.2.1 (cx.1.2.2.2.2 _ tw_4_229) dX5_fair_28 ?_
      obtain ⟨x9, d10, g11, h⟩ := bd2_ex h
      refine c_V (As := [.int (-1000000005 : Int32)]) (rest := []) (w' := (MC g q d10)) cx hw (c_X5_finds l g q N (-1000000005 : Int32) d x9 d10 g11) (cl_X5_62 cx.1.2.2.2.2 ⟨Nat.le_of_ble_eq_true rfl, Nat.le_of_ble_eq_true rfl⟩) (x_recv cx hw (ci := 5) rfl 0 rfl) (Ct.all (MC_ll ..)) hl.1 rfl rfl (Nat.le_of_ble_eq_true rfl) dX5_fair_30 ⟨Nat.le_of_ble_eq_true rfl, Nat.le_of_ble_eq_true rfl⟩ (st1 := [.int x9]) rfl (fun H locs hw => ?_)
      exact r_i cx hr hlocks hw (pr1 h) (congrArg (fun z0 => (MC g q z0)) (pr2 h)) dX5_fair_33
  · replace h := ite_t c3 h
    refine lv_aload_n hx hb dX5_fair_12 rfl (lv_at hl 0 rfl) ?_
    refine lv_ldc hx hb cx.1.2.2.2.1 (cx.1.2.2.2.2 _ tw_4_79) dX5_fair_13 ?_
    obtain ⟨x12, d13, g14, h⟩ := bd2_ex h
    refine c_V (As := [.int (-1000000001 : Int32)]) (rest := []) (w' := (MC g q d13)) cx hw (c_X5_finds l g q N (-1000000001 : Int32) d x12 d13 g14) (cl_X5_62 cx.1.2.2.2.2 ⟨Nat.le_of_ble_eq_true rfl, Nat.le_of_ble_eq_true rfl⟩) (x_recv cx hw (ci := 5) rfl 0 rfl) (Ct.all (MC_ll ..)) hl.1 rfl rfl (Nat.le_of_ble_eq_true rfl) dX5_fair_15 ⟨Nat.le_of_ble_eq_true rfl, Nat.le_of_ble_eq_true rfl⟩ (st1 := [.int x12]) rfl (fun H locs hw => ?_)
    exact r_i cx hr hlocks hw (pr1 h) (congrArg (fun z0 => (MC g q z0)) (pr2 h)) dX5_fair_18
set_option maxHeartbeats 4000000 in
set_option maxRecDepth 100000 in
theorem c_X5_ways (l : Launch) (g : gE) (q : Nat → Nat) (N : Nat) (p1 : Int32) (p2 : Int32) (d : MD) (r : Int32) (d' : MD) (h : f_X5_ways N  p1 p2 d = some (r, d')) : MO l yX5_ways (Cond.code yX5_ways cX5_ways 6 (some .int) :: TB) rm_X5_ways [.ref (q 0), .int p1, .int p2] g ((MC g q d)) ((MC g q d')) (some (.int r)) 0 0 := by
  refine MO.of (cc := cX5_ways) (maxL := 6) (ret := (some .int)) (by decide) ?_
  intro p e s m below meth c cx hw hr hlocks _
  have hx := cx.1.1
  have hb := cx.1.2.1
  refine en_go (lv := [(0, .ref (q 0)), (1, .int p1), (2, .int p2)]) (Nat.le_of_ble_eq_true rfl) rfl (fun ls hl => ?_)
  have L40 : ∀ (n40 : Nat) (a1 : Int32) (a2 : Int32) (a3 : Int32) (a4 : Int32) (d_ : MD) (H : Heap) (locs : List Loc) (ls : Array Slot), Wd g (va_A ((MC g q d)) s.heap.size) ((MC g q d_)) s H locs → lv_has ls 6 [(0, .ref (q 0)), (1, .int a1), (2, .int a2), (3, .int a3), (4, .int a4)] → f_X5_ways_L40 N   n40 a1 a2 a3 a4 d_ = some (r, d') → W p l e rm_X5_ways s m ([.ref (q 0), .int p1, .int p2] : List Value).toArray below meth c H locs 0 0 (MQ below (QO (some (.int r)) g ((MC g q d')) (va_A ((MC g q d)) s.heap.size)) ([.ref (q 0), .int p1, .int p2] : List Value).toArray s 0 0 (va_A ((MC g q d)) s.heap.size)) (F0 m 40 ls []) := by
    intro n40
    induction n40 with
    | zero => intro a1 a2 a3 a4 d_ H locs ls hw hl h; exact (Option.some_ne_none _ h.symm).elim
    | succ n40 ih40 =>
      have L51 : ∀ (n51 : Nat) (a1 : Int32) (a2 : Int32) (a3 : Int32) (a4 : Int32) (a5 : Int32) (d_ : MD) (H : Heap) (locs : List Loc) (ls : Array Slot), Wd g (va_A ((MC g q d)) s.heap.size) ((MC g q d_)) s H locs → lv_has ls 6 [(0, .ref (q 0)), (1, .int a1), (2, .int a2), (3, .int a3), (4, .int a4), (5, .int a5)] → f_X5_ways_L51 N  (f_X5_ways_L40 N   n40) n51 a1 a2 a3 a4 a5 d_ = some (r, d') → W p l e rm_X5_ways s m ([.ref (q 0), .int p1, .int p2] : List Value).toArray below meth c H locs 0 0 (MQ below (QO (some (.int r)) g ((MC g q d')) (va_A ((MC g q d)) s.heap.size)) ([.ref (q 0), .int p1, .int p2] : List Value).toArray s 0 0 (va_A ((MC g q d)) s.heap.size)) (F0 m 51 ls []) := by
        intro n51
        induction n51 with
        | zero => intro a1 a2 a3 a4 a5 d_ H locs ls hw hl h; exact (Option.some_ne_none _ h.symm).elim
        | succ n51 ih51 =>
          intro a1 a2 a3 a4 a5 d_ H locs ls hw hl h
          rw [f_X5_ways_L51] at h
          refine lv_iload hx hb dX5_ways_51 (lv_at hl 5 rfl) ?_
          refine lv_bipush (v := 6) hx hb dX5_ways_53 (by decide) ?_
          refine lv_icmp_ge (tgt := 83) hx hb dX5_ways_55 (by decide) (fun c29 => ?_) (fun c29 => ?_)
          · replace h := ite_t c29 h
            refine lv_iload_n hx hb dX5_ways_83 rfl (lv_at hl 3 rfl) ?_
            refine lv_aload_n hx hb dX5_ways_84 rfl (lv_at hl 0 rfl) ?_
            refine lv_iload_n hx hb dX5_ways_85 rfl (lv_at hl 1 rfl) ?_
            obtain ⟨x30, g31, h⟩ := bd_ex h
            refine c_V (As := [.int a1]) (rest := [.int a3]) (w' := (MC g q d_)) cx hw (c_X5_heirFor l g q N a1 d_ x30 g31) (cl_X5_113 cx.1.2.2.2.2 ⟨Nat.le_of_ble_eq_true rfl, Nat.le_of_ble_eq_true rfl⟩) (x_recv cx hw (ci := 5) rfl 0 rfl) (Ct.all (MC_ll ..)) hl.1 rfl rfl (Nat.le_of_ble_eq_true rfl) dX5_ways_86 ⟨Nat.le_of_ble_eq_true rfl, Nat.le_of_ble_eq_true rfl⟩ (st1 := [.int x30, .int a3]) rfl (fun H locs hw => ?_)
            refine lv_iload_n hx hb dX5_ways_89 rfl (lv_at hl 2 rfl) ?_
            refine lv_icmp_ne (tgt := 97) hx hb dX5_ways_90 (by decide) (fun c32 => ?_) (fun c32 => ?_)
            · replace h := ite_f c32 h
              refine lv_iconst (v := 0) hx hb dX5_ways_97 (by decide) ?_
              refine lv_iadd hx hb dX5_ways_98 ?_
              refine lv_topi (fun x33 ex33 => ?_)
              replace h := lt_nx ex33 h
              refine lv_istore_n (lv' := [(3, .int x33), (0, .ref (q 0)), (1, .int a1), (2, .int a2), (4, .int a4), (5, .int a5)]) hx hb dX5_ways_99 rfl hl (by decide) rfl (fun ls hl => ?_)
              obtain ⟨x34, ex34⟩ : ∃ y : Int32, y = (a4 + 1) := ⟨_, rfl⟩
              replace h := lt_nx ex34 h
              refine lv_iinc (v := x34) (lv' := [(4, .int x34), (3, .int x33), (0, .ref (q 0)), (1, .int a1), (2, .int a2), (5, .int a5)]) hx hb dX5_ways_100 hl (k := 4) rfl (by rw [ex34]; rfl) (by decide) rfl (fun ls hl => ?_)
              refine lv_goto (tgt := 40) hx hb dX5_ways_103 (by decide) ?_
              exact ih40 a1 a2 x33 x34 d_ _ _ _ hw (lv_sub hl [2, 3, 4, 1, 0] rfl) h
            · replace h := ite_t c32 h
              refine lv_iconst (v := 1) hx hb dX5_ways_93 (by decide) ?_
              refine lv_goto (tgt := 98) hx hb dX5_ways_94 (by decide) ?_
              refine lv_iadd hx hb dX5_ways_98 ?_
              refine lv_topi (fun x35 ex35 => ?_)
              replace h := lt_nx ex35 h
              refine lv_istore_n (lv' := [(3, .int x35), (0, .ref (q 0)), (1, .int a1), (2, .int a2), (4, .int a4), (5, .int a5)]) hx hb dX5_ways_99 rfl hl (by decide) rfl (fun ls hl => ?_)
              obtain ⟨x36, ex36⟩ : ∃ y : Int32, y = (a4 + 1) := ⟨_, rfl⟩
              replace h := lt_nx ex36 h
              refine lv_iinc (v := x36) (lv' := [(4, .int x36), (3, .int x35), (0, .ref (q 0)), (1, .int a1), (2, .int a2), (5, .int a5)]) hx hb dX5_ways_100 hl (k := 4) rfl (by rw [ex36]; rfl) (by decide) rfl (fun ls hl => ?_)
              refine lv_goto (tgt := 40) hx hb dX5_ways_103 (by decide) ?_
              exact ih40 a1 a2 x35 x36 d_ _ _ _ hw (lv_sub hl [2, 3, 4, 1, 0] rfl) h
          · replace h := ite_f c29 h
            refine lv_aload_n hx hb dX5_ways_58 rfl (lv_at hl 0 rfl) ?_
            refine lv_iload_n hx hb dX5_ways_59 rfl (lv_at hl 1 rfl) ?_
            refine lv_bipush (v := 6) hx hb dX5_ways_60 (by decide) ?_
            refine lv_iload hx hb dX5_ways_62 (lv_at hl 5 rfl) ?_
            refine lv_iadd hx hb dX5_ways_64 ?_
            refine lv_iload hx hb dX5_ways_65 (lv_at hl 4 rfl) ?_
            refine lv_iconst (v := 2) hx hb dX5_ways_67 (by decide) ?_
            refine lv_iload hx hb dX5_ways_68 (lv_at hl 5 rfl) ?_
            refine lv_imul hx hb dX5_ways_70 ?_
            refine lv_ishr hx hb dX5_ways_71 ?_
            refine lv_iconst (v := 3) hx hb dX5_ways_72 (by decide) ?_
            refine lv_iand hx hb dX5_ways_73 ?_
            obtain ⟨d37, g38, h⟩ := bd_ex h
            refine c_V (As := [.int a1, .int ((6 : Int32) + a5), .int ((a4 >>> (((2 : Int32) * a5) &&& 31)) &&& (3 : Int32))]) (rest := []) (w' := (MC g q d37)) cx hw (c_X5_puts l g q N a1 ((6 : Int32) + a5) ((a4 >>> (((2 : Int32) * a5) &&& 31)) &&& (3 : Int32)) d_ d37 g38) (cl_X5_71 cx.1.2.2.2.2 ⟨Nat.le_of_ble_eq_true rfl, Nat.le_of_ble_eq_true rfl⟩) (x_recv cx hw (ci := 5) rfl 0 rfl) (Ct.all (MC_ll ..)) hl.1 rfl rfl (Nat.le_of_ble_eq_true rfl) dX5_ways_74 ⟨Nat.le_of_ble_eq_true rfl, Nat.le_of_ble_eq_true rfl⟩ (st1 := []) rfl (fun H locs hw => ?_)
            obtain ⟨x39, ex39⟩ : ∃ y : Int32, y = (a5 + 1) := ⟨_, rfl⟩
            replace h := lt_nx ex39 h
            refine lv_iinc (v := x39) (lv' := [(5, .int x39), (0, .ref (q 0)), (1, .int a1), (2, .int a2), (3, .int a3), (4, .int a4)]) hx hb dX5_ways_77 hl (k := 5) rfl (by rw [ex39]; rfl) (by decide) rfl (fun ls hl => ?_)
            refine lv_goto (tgt := 51) hx hb dX5_ways_80 (by decide) ?_
            exact ih51 a1 a2 a3 a4 x39 d37 _ _ _ hw (lv_sub hl [1, 2, 3, 4, 5, 0] rfl) h
      intro a1 a2 a3 a4 d_ H locs ls hw hl h
      rw [f_X5_ways_L40] at h
      refine lv_iload hx hb dX5_ways_40 (lv_at hl 4 rfl) ?_
      refine lv_sipush (v := 4096) hx hb dX5_ways_42 (by decide) ?_
      refine lv_icmp_ge (tgt := 106) hx hb dX5_ways_45 (by decide) (fun c40 => ?_) (fun c40 => ?_)
      · replace h := ite_t c40 h
        refine lv_aload_n hx hb dX5_ways_106 rfl (lv_at hl 0 rfl) ?_
        obtain ⟨d41, g42, h⟩ := bd_ex h
        refine c_V (As := []) (rest := []) (w' := (MC g q d41)) cx hw (c_X5_laysBack l g q N  d_ d41 g42) (cl_X5_176 cx.1.2.2.2.2 ⟨Nat.le_of_ble_eq_true rfl, Nat.le_of_ble_eq_true rfl⟩) (x_recv cx hw (ci := 5) rfl 0 rfl) (Ct.all (MC_ll ..)) hl.1 rfl rfl (Nat.le_of_ble_eq_true rfl) dX5_ways_107 ⟨Nat.le_of_ble_eq_true rfl, Nat.le_of_ble_eq_true rfl⟩ (st1 := []) rfl (fun H locs hw => ?_)
        refine lv_iload_n hx hb dX5_ways_110 rfl (lv_at hl 3 rfl) ?_
        exact r_i cx hr hlocks hw (pr1 h) (congrArg (fun z0 => (MC g q z0)) (pr2 h)) dX5_ways_111
      · replace h := ite_f c40 h
        refine lv_iconst (v := 0) hx hb dX5_ways_48 (by decide) ?_
        refine lv_istore (lv' := [(5, .int (0 : Int32)), (0, .ref (q 0)), (1, .int a1), (2, .int a2), (3, .int a3), (4, .int a4)]) hx hb dX5_ways_49 hl (by decide) rfl (fun ls hl => ?_)
        exact L51 N a1 a2 a3 a4 (0 : Int32) d_ _ _ _ hw (lv_sub hl [1, 2, 3, 4, 5, 0] rfl) h
  unfold f_X5_ways at h
  refine lv_aload_n hx hb dX5_ways_0 rfl (lv_at hl 0 rfl) ?_
  refine lv_iload_n hx hb dX5_ways_1 rfl (lv_at hl 1 rfl) ?_
  refine lv_iload_n hx hb dX5_ways_2 rfl (lv_at hl 2 rfl) ?_
  obtain ⟨x1, g2, h⟩ := bd_ex h
  refine c_V (As := [.int p1, .int p2]) (rest := []) (w' := (MC g q d)) cx hw (c_X5_areTwo l g q N p1 p2 d x1 g2) (cl_X5_90 cx.1.2.2.2.2 ⟨Nat.le_of_ble_eq_true rfl, Nat.le_of_ble_eq_true rfl⟩) (x_recv cx hw (ci := 5) rfl 0 rfl) (Ct.all (MC_ll ..)) hl.1 rfl rfl (Nat.le_of_ble_eq_true rfl) dX5_ways_3 ⟨Nat.le_of_ble_eq_true rfl, Nat.le_of_ble_eq_true rfl⟩ (st1 := [.int x1]) rfl (fun H locs hw => ?_)
  refine lv_if_ne (tgt := 16) hx hb dX5_ways_6 (by decide) (fun c3 => ?_) (fun c3 => ?_)
  · replace h := ite_f c3 h
    refine lv_aload_n hx hb dX5_ways_16 rfl (lv_at hl 0 rfl) ?_
    refine lv_iload_n hx hb dX5_ways_17 rfl (lv_at hl 2 rfl) ?_
    obtain ⟨x4, g5, h⟩ := bd_ex h
    refine c_V (As := [.int p2]) (rest := []) (w' := (MC g q d)) cx hw (c_X5_lives l g q N p2 d x4 g5) (cl_X5_107 cx.1.2.2.2.2 ⟨Nat.le_of_ble_eq_true rfl, Nat.le_of_ble_eq_true rfl⟩) (x_recv cx hw (ci := 5) rfl 0 rfl) (Ct.all (MC_ll ..)) hl.1 rfl rfl (Nat.le_of_ble_eq_true rfl) dX5_ways_18 ⟨Nat.le_of_ble_eq_true rfl, Nat.le_of_ble_eq_true rfl⟩ (st1 := [.int x4]) rfl (fun H locs hw => ?_)
    refine lv_if_ne (tgt := 31) hx hb dX5_ways_21 (by decide) (fun c6 => ?_) (fun c6 => ?_)
    · replace h := ite_f c6 h
      refine lv_aload_n hx hb dX5_ways_31 rfl (lv_at hl 0 rfl) ?_
      obtain ⟨d7, g8, h⟩ := bd_ex h
      refine c_V (As := []) (rest := []) (w' := (MC g q d7)) cx hw (c_X5_laysBy l g q N  d d7 g8) (cl_X5_173 cx.1.2.2.2.2 ⟨Nat.le_of_ble_eq_true rfl, Nat.le_of_ble_eq_true rfl⟩) (x_recv cx hw (ci := 5) rfl 0 rfl) (Ct.all (MC_ll ..)) hl.1 rfl rfl (Nat.le_of_ble_eq_true rfl) dX5_ways_32 ⟨Nat.le_of_ble_eq_true rfl, Nat.le_of_ble_eq_true rfl⟩ (st1 := []) rfl (fun H locs hw => ?_)
      refine lv_iconst (v := 0) hx hb dX5_ways_35 (by decide) ?_
      refine lv_istore_n (lv' := [(3, .int (0 : Int32)), (0, .ref (q 0)), (1, .int p1), (2, .int p2)]) hx hb dX5_ways_36 rfl hl (by decide) rfl (fun ls hl => ?_)
      refine lv_iconst (v := 0) hx hb dX5_ways_37 (by decide) ?_
      refine lv_istore (lv' := [(4, .int (0 : Int32)), (3, .int (0 : Int32)), (0, .ref (q 0)), (1, .int p1), (2, .int p2)]) hx hb dX5_ways_38 hl (by decide) rfl (fun ls hl => ?_)
      exact L40 N p1 p2 (0 : Int32) (0 : Int32) d7 _ _ _ hw (lv_sub hl [2, 3, 4, 1, 0] rfl) h
    · replace h := ite_t c6 h
      refine lv_aload_n hx hb dX5_ways_24 rfl (lv_at hl 0 rfl) ?_
      refine lv_ldc hx hb cx.1.2.2.2.1 (cx.1.2.2.2.2 _ tw_4_229) dX5_ways_25 ?_
      obtain ⟨x9, d10, g11, h⟩ := bd2_ex h
      refine c_V (As := [.int (-1000000005 : Int32)]) (rest := []) (w' := (MC g q d10)) cx hw (c_X5_finds l g q N (-1000000005 : Int32) d x9 d10 g11) (cl_X5_62 cx.1.2.2.2.2 ⟨Nat.le_of_ble_eq_true rfl, Nat.le_of_ble_eq_true rfl⟩) (x_recv cx hw (ci := 5) rfl 0 rfl) (Ct.all (MC_ll ..)) hl.1 rfl rfl (Nat.le_of_ble_eq_true rfl) dX5_ways_27 ⟨Nat.le_of_ble_eq_true rfl, Nat.le_of_ble_eq_true rfl⟩ (st1 := [.int x9]) rfl (fun H locs hw => ?_)
      exact r_i cx hr hlocks hw (pr1 h) (congrArg (fun z0 => (MC g q z0)) (pr2 h)) dX5_ways_30
  · replace h := ite_t c3 h
    refine lv_aload_n hx hb dX5_ways_9 rfl (lv_at hl 0 rfl) ?_
    refine lv_ldc hx hb cx.1.2.2.2.1 (cx.1.2.2.2.2 _ tw_4_79) dX5_ways_10 ?_
    obtain ⟨x12, d13, g14, h⟩ := bd2_ex h
    refine c_V (As := [.int (-1000000001 : Int32)]) (rest := []) (w' := (MC g q d13)) cx hw (c_X5_finds l g q N (-1000000001 : Int32) d x12 d13 g14) (cl_X5_62 cx.1.2.2.2.2 ⟨Nat.le_of_ble_eq_true rfl, Nat.le_of_ble_eq_true rfl⟩) (x_recv cx hw (ci := 5) rfl 0 rfl) (Ct.all (MC_ll ..)) hl.1 rfl rfl (Nat.le_of_ble_eq_true rfl) dX5_ways_12 ⟨Nat.le_of_ble_eq_true rfl, Nat.le_of_ble_eq_true rfl⟩ (st1 := [.int x12]) rfl (fun H locs hw => ?_)
    exact r_i cx hr hlocks hw (pr1 h) (congrArg (fun z0 => (MC g q z0)) (pr2 h)) dX5_ways_15
set_option maxHeartbeats 4000000 in
set_option maxRecDepth 100000 in
theorem c_X5_feed (l : Launch) (g : gE) (q : Nat → Nat) (N : Nat) (p1 : Int32) (p2 : Int32) (d : MD) (r : Int32) (d' : MD) (h : f_X5_feed N  p1 p2 d = some (r, d')) : MO l yX5_feed (Cond.code yX5_feed cX5_feed 4 (some .int) :: TB) rm_X5_feed [.ref (q 0), .int p1, .int p2] g ((MC g q d)) ((MC g q d')) (some (.int r)) 0 0 := by
  refine MO.of (cc := cX5_feed) (maxL := 4) (ret := (some .int)) (by decide) ?_
  intro p e s m below meth c cx hw hr hlocks _
  have hx := cx.1.1
  have hb := cx.1.2.1
  refine en_go (lv := [(0, .ref (q 0)), (1, .int p1), (2, .int p2)]) (Nat.le_of_ble_eq_true rfl) rfl (fun ls hl => ?_)
  have L41 : ∀ (n41 : Nat) (a1 : Int32) (a3 : Int32) (d_ : MD) (H : Heap) (locs : List Loc) (ls : Array Slot), Wd g (va_A ((MC g q d)) s.heap.size) ((MC g q d_)) s H locs → lv_has ls 4 [(0, .ref (q 0)), (1, .int a1), (3, .int a3)] → f_X5_feed_L41 N   n41 a1 a3 d_ = some (r, d') → W p l e rm_X5_feed s m ([.ref (q 0), .int p1, .int p2] : List Value).toArray below meth c H locs 0 0 (MQ below (QO (some (.int r)) g ((MC g q d')) (va_A ((MC g q d)) s.heap.size)) ([.ref (q 0), .int p1, .int p2] : List Value).toArray s 0 0 (va_A ((MC g q d)) s.heap.size)) (F0 m 41 ls []) := by
    intro n41
    induction n41 with
    | zero => intro a1 a3 d_ H locs ls hw hl h; exact (Option.some_ne_none _ h.symm).elim
    | succ n41 ih41 =>
      intro a1 a3 d_ H locs ls hw hl h
      rw [f_X5_feed_L41] at h
      refine lv_iload_n hx hb dX5_feed_41 rfl (lv_at hl 2 rfl) ?_
      refine lv_if_lt (tgt := 80) hx hb dX5_feed_42 (by decide) (fun c17 => ?_) (fun c17 => ?_)
      · replace h := ite_t c17 h
        refine lv_aload_n hx hb dX5_feed_80 rfl (lv_at hl 0 rfl) ?_
        refine gf_X5_198 cx hw 0 rfl rfl dX5_feed_81 ?_
        exact r_i cx hr hlocks hw (pr1 h) (congrArg (fun z0 => (MC g q z0)) (pr2 h)) dX5_feed_84
      · replace h := ite_f c17 h
        refine lv_aload_n hx hb dX5_feed_45 rfl (lv_at hl 0 rfl) ?_
        refine gf_X5_25 cx hw 0 rfl rfl dX5_feed_46 ?_
        refine lv_aload_n hx hb dX5_feed_49 rfl (lv_at hl 0 rfl) ?_
        refine gf_X5_198 cx hw 0 rfl rfl dX5_feed_50 ?_
        refine lv_iload_n hx hb dX5_feed_53 rfl (lv_at hl 1 rfl) ?_
        refine lv_bipush (v := 8) hx hb dX5_feed_54 (by decide) ?_
        refine lv_iload_n hx hb dX5_feed_56 rfl (lv_at hl 2 rfl) ?_
        refine lv_imul hx hb dX5_feed_57 ?_
        refine lv_ishr hx hb dX5_feed_58 ?_
        refine lv_sipush (v := 255) hx hb dX5_feed_59 (by decide) ?_
        refine lv_iand hx hb dX5_feed_62 ?_
        have i18 := ck_in h
        replace h := ck_nx h
        refine x_iast cx hw 6 rfl i18 dX5_feed_63 (fun H locs hw => ?_)
        obtain ⟨d19, ed19, h⟩ := lt_ex h
        have hw : Wd g (va_A ((MC g q d)) s.heap.size) ((MC g q d19)) s H locs := by rw [ed19]; exact hw
        refine lv_aload_n hx hb dX5_feed_64 rfl (lv_at hl 0 rfl) ?_
        refine lv_dup hx hb dX5_feed_65 rfl ?_
        refine gf_X5_198 cx hw 0 rfl rfl dX5_feed_66 ?_
        refine lv_iconst (v := 1) hx hb dX5_feed_69 (by decide) ?_
        refine lv_iadd hx hb dX5_feed_70 ?_
        refine pf_X5_198 cx hw 0 rfl rfl rfl (Nat.le_of_ble_eq_true rfl) dX5_feed_71 (fun H locs hw => ?_)
        obtain ⟨d20, ed20, h⟩ := lt_ex h
        have hw : Wd g (va_A ((MC g q d)) s.heap.size) ((MC g q d20)) s H locs := by rw [ed20]; exact hw
        obtain ⟨x21, ex21⟩ : ∃ y : Int32, y = (a3 + (-1)) := ⟨_, rfl⟩
        replace h := lt_nx ex21 h
        refine lv_iinc (v := x21) (lv' := [(3, .int x21), (0, .ref (q 0)), (1, .int a1)]) hx hb dX5_feed_74 hl (k := 2) rfl (by rw [ex21]; rfl) (by decide) rfl (fun ls hl => ?_)
        refine lv_goto (tgt := 41) hx hb dX5_feed_77 (by decide) ?_
        exact ih41 a1 x21 d20 _ _ _ hw (lv_sub hl [1, 2, 0] rfl) h
  unfold f_X5_feed at h
  refine lv_iload_n hx hb dX5_feed_0 rfl (lv_at hl 2 rfl) ?_
  refine lv_i2l hx hb dX5_feed_1 rfl ?_
  refine lv_lconst (v := 1) hx hb dX5_feed_2 (by decide) ?_
  refine lv_ldc2 hx hb cx.1.2.2.2.1 (cx.1.2.2.2.2 _ tw_5_114) dX5_feed_3 ?_
  obtain ⟨x1, g2, h⟩ := bd_ex h
  refine c_S (As := [.long ((p2).toInt64), .long (1 : Int64), .long (4 : Int64)]) (rest := []) (w' := (MC g q d)) cx hw (c_X5_isIn l g  N ((p2).toInt64) (1 : Int64) (4 : Int64)  x1 g2) (cl_X5_54 cx.1.2.2.2.2 ⟨Nat.le_of_ble_eq_true rfl, Nat.le_of_ble_eq_true rfl⟩) Ct.nil hl.1 rfl rfl (Nat.le_of_ble_eq_true rfl) dX5_feed_6 ⟨Nat.le_of_ble_eq_true rfl, Nat.le_of_ble_eq_true rfl⟩ (st1 := [.int x1]) rfl (fun H locs hw => ?_)
  refine lv_if_ne (tgt := 19) hx hb dX5_feed_9 (by decide) (fun c3 => ?_) (fun c3 => ?_)
  · replace h := ite_f c3 h
    refine lv_aload_n hx hb dX5_feed_19 rfl (lv_at hl 0 rfl) ?_
    refine gf_X5_198 cx hw 0 rfl rfl dX5_feed_20 ?_
    refine lv_iload_n hx hb dX5_feed_23 rfl (lv_at hl 2 rfl) ?_
    refine lv_iadd hx hb dX5_feed_24 ?_
    refine lv_bipush (v := 120) hx hb dX5_feed_25 (by decide) ?_
    refine lv_icmp_le (tgt := 37) hx hb dX5_feed_27 (by decide) (fun c4 => ?_) (fun c4 => ?_)
    · replace h := ite_t c4 h
      refine lv_iload_n hx hb dX5_feed_37 rfl (lv_at hl 2 rfl) ?_
      refine lv_iconst (v := 1) hx hb dX5_feed_38 (by decide) ?_
      refine lv_isub hx hb dX5_feed_39 ?_
      refine lv_topi (fun x5 ex5 => ?_)
      replace h := lt_nx ex5 h
      refine lv_istore_n (lv' := [(3, .int x5), (0, .ref (q 0)), (1, .int p1), (2, .int p2)]) hx hb dX5_feed_40 rfl hl (by decide) rfl (fun ls hl => ?_)
      exact L41 N p1 x5 d _ _ _ hw (lv_sub hl [1, 2, 0] rfl) h
    · replace h := ite_f c4 h
      refine lv_aload_n hx hb dX5_feed_30 rfl (lv_at hl 0 rfl) ?_
      refine lv_ldc hx hb cx.1.2.2.2.1 (cx.1.2.2.2.2 _ tw_4_99) dX5_feed_31 ?_
      obtain ⟨x6, d7, g8, h⟩ := bd2_ex h
      refine c_V (As := [.int (-1000000002 : Int32)]) (rest := []) (w' := (MC g q d7)) cx hw (c_X5_finds l g q N (-1000000002 : Int32) d x6 d7 g8) (cl_X5_62 cx.1.2.2.2.2 ⟨Nat.le_of_ble_eq_true rfl, Nat.le_of_ble_eq_true rfl⟩) (x_recv cx hw (ci := 5) rfl 0 rfl) (Ct.all (MC_ll ..)) hl.1 rfl rfl (Nat.le_of_ble_eq_true rfl) dX5_feed_33 ⟨Nat.le_of_ble_eq_true rfl, Nat.le_of_ble_eq_true rfl⟩ (st1 := [.int x6]) rfl (fun H locs hw => ?_)
      exact r_i cx hr hlocks hw (pr1 h) (congrArg (fun z0 => (MC g q z0)) (pr2 h)) dX5_feed_36
  · replace h := ite_t c3 h
    refine lv_aload_n hx hb dX5_feed_12 rfl (lv_at hl 0 rfl) ?_
    refine lv_ldc hx hb cx.1.2.2.2.1 (cx.1.2.2.2.2 _ tw_4_79) dX5_feed_13 ?_
    obtain ⟨x9, d10, g11, h⟩ := bd2_ex h
    refine c_V (As := [.int (-1000000001 : Int32)]) (rest := []) (w' := (MC g q d10)) cx hw (c_X5_finds l g q N (-1000000001 : Int32) d x9 d10 g11) (cl_X5_62 cx.1.2.2.2.2 ⟨Nat.le_of_ble_eq_true rfl, Nat.le_of_ble_eq_true rfl⟩) (x_recv cx hw (ci := 5) rfl 0 rfl) (Ct.all (MC_ll ..)) hl.1 rfl rfl (Nat.le_of_ble_eq_true rfl) dX5_feed_15 ⟨Nat.le_of_ble_eq_true rfl, Nat.le_of_ble_eq_true rfl⟩ (st1 := [.int x9]) rfl (fun H locs hw => ?_)
    exact r_i cx hr hlocks hw (pr1 h) (congrArg (fun z0 => (MC g q z0)) (pr2 h)) dX5_feed_18
set_option maxHeartbeats 4000000 in
set_option maxRecDepth 100000 in
theorem c_X5_wipe (l : Launch) (g : gE) (q : Nat → Nat) (N : Nat)  (d : MD) (r : Int32) (d' : MD) (h : f_X5_wipe N  d = some (r, d')) : MO l yX5_wipe (Cond.code yX5_wipe cX5_wipe 2 (some .int) :: TB) rm_X5_wipe [.ref (q 0)] g ((MC g q d)) ((MC g q d')) (some (.int r)) 0 0 := by
  refine MO.of (cc := cX5_wipe) (maxL := 2) (ret := (some .int)) (by decide) ?_
  intro p e s m below meth c cx hw hr hlocks _
  have hx := cx.1.1
  have hb := cx.1.2.1
  refine en_go (lv := [(0, .ref (q 0))]) (Nat.le_of_ble_eq_true rfl) rfl (fun ls hl => ?_)
  unfold f_X5_wipe at h
  refine lv_aload_n hx hb dX5_wipe_0 rfl (lv_at hl 0 rfl) ?_
  refine gf_X5_198 cx hw 0 rfl rfl dX5_wipe_1 ?_
  refine lv_topi (fun x1 ex1 => ?_)
  replace h := lt_nx ex1 h
  refine lv_istore_n (lv' := [(1, .int x1), (0, .ref (q 0))]) hx hb dX5_wipe_4 rfl hl (by decide) rfl (fun ls hl => ?_)
  refine lv_aload_n hx hb dX5_wipe_5 rfl (lv_at hl 1 rfl) ?_
  refine lv_iconst (v := 0) hx hb dX5_wipe_6 (by decide) ?_
  refine pf_X5_198 cx hw 0 rfl rfl rfl (Nat.le_of_ble_eq_true rfl) dX5_wipe_7 (fun H locs hw => ?_)
  obtain ⟨d2, ed2, h⟩ := lt_ex h
  have hw : Wd g (va_A ((MC g q d)) s.heap.size) ((MC g q d2)) s H locs := by rw [ed2]; exact hw
  refine lv_iload_n hx hb dX5_wipe_10 rfl (lv_at hl 0 rfl) ?_
  exact r_i cx hr hlocks hw (pr1 h) (congrArg (fun z0 => (MC g q z0)) (pr2 h)) dX5_wipe_11
set_option maxHeartbeats 4000000 in
set_option maxRecDepth 100000 in
theorem c_X5_isLetter (l : Launch) (g : gE)  (N : Nat) (p0 : Int32)  (r : Int32) (h : f_X5_isLetter N  p0 = some r) : MO l yX5_isLetter (Cond.code yX5_isLetter cX5_isLetter 1 (some .boolean) :: TB) rm_X5_isLetter [.int p0] g (([] : va_W)) (([] : va_W)) (some (.int r)) 0 0 := by
  refine MO.of (cc := cX5_isLetter) (maxL := 1) (ret := (some .boolean)) (by decide) ?_
  intro p e s m below meth c cx hw hr hlocks _
  have hx := cx.1.1
  have hb := cx.1.2.1
  refine en_go (lv := [(0, .int p0)]) (Nat.le_of_ble_eq_true rfl) rfl (fun ls hl => ?_)
  unfold f_X5_isLetter at h
  refine lv_iload_n hx hb dX5_isLetter_0 rfl (lv_at hl 0 rfl) ?_
  refine lv_bipush (v := 97) hx hb dX5_isLetter_1 (by decide) ?_
  refine lv_icmp_lt (tgt := 16) hx hb dX5_isLetter_3 (by decide) (fun c1 => ?_) (fun c1 => ?_)
  · replace h := ite_t c1 h
    refine lv_iconst (v := 0) hx hb dX5_isLetter_16 (by decide) ?_
    exact r_z cx hr hlocks rfl hw (sm_eq h) rfl dX5_isLetter_17
  · replace h := ite_f c1 h
    refine lv_iload_n hx hb dX5_isLetter_6 rfl (lv_at hl 0 rfl) ?_
    refine lv_bipush (v := 122) hx hb dX5_isLetter_7 (by decide) ?_
    refine lv_icmp_gt (tgt := 16) hx hb dX5_isLetter_9 (by decide) (fun c2 => ?_) (fun c2 => ?_)
    · replace h := ite_t c2 h
      refine lv_iconst (v := 0) hx hb dX5_isLetter_16 (by decide) ?_
      exact r_z cx hr hlocks rfl hw (sm_eq h) rfl dX5_isLetter_17
    · replace h := ite_f c2 h
      refine lv_iconst (v := 1) hx hb dX5_isLetter_12 (by decide) ?_
      refine lv_goto (tgt := 17) hx hb dX5_isLetter_13 (by decide) ?_
      exact r_z cx hr hlocks rfl hw (sm_eq h) rfl dX5_isLetter_17
set_option maxHeartbeats 4000000 in
set_option maxRecDepth 100000 in
theorem c_X5_isDigit (l : Launch) (g : gE)  (N : Nat) (p0 : Int32)  (r : Int32) (h : f_X5_isDigit N  p0 = some r) : MO l yX5_isDigit (Cond.code yX5_isDigit cX5_isDigit 1 (some .boolean) :: TB) rm_X5_isDigit [.int p0] g (([] : va_W)) (([] : va_W)) (some (.int r)) 0 0 := by
  refine MO.of (cc := cX5_isDigit) (maxL := 1) (ret := (some .boolean)) (by decide) ?_
  intro p e s m below meth c cx hw hr hlocks _
  have hx := cx.1.1
  have hb := cx.1.2.1
  refine en_go (lv := [(0, .int p0)]) (Nat.le_of_ble_eq_true rfl) rfl (fun ls hl => ?_)
  unfold f_X5_isDigit at h
  refine lv_iload_n hx hb dX5_isDigit_0 rfl (lv_at hl 0 rfl) ?_
  refine lv_bipush (v := 48) hx hb dX5_isDigit_1 (by decide) ?_
  refine lv_icmp_lt (tgt := 16) hx hb dX5_isDigit_3 (by decide) (fun c1 => ?_) (fun c1 => ?_)
  · replace h := ite_t c1 h
    refine lv_iconst (v := 0) hx hb dX5_isDigit_16 (by decide) ?_
    exact r_z cx hr hlocks rfl hw (sm_eq h) rfl dX5_isDigit_17
  · replace h := ite_f c1 h
    refine lv_iload_n hx hb dX5_isDigit_6 rfl (lv_at hl 0 rfl) ?_
    refine lv_bipush (v := 57) hx hb dX5_isDigit_7 (by decide) ?_
    refine lv_icmp_gt (tgt := 16) hx hb dX5_isDigit_9 (by decide) (fun c2 => ?_) (fun c2 => ?_)
    · replace h := ite_t c2 h
      refine lv_iconst (v := 0) hx hb dX5_isDigit_16 (by decide) ?_
      exact r_z cx hr hlocks rfl hw (sm_eq h) rfl dX5_isDigit_17
    · replace h := ite_f c2 h
      refine lv_iconst (v := 1) hx hb dX5_isDigit_12 (by decide) ?_
      refine lv_goto (tgt := 17) hx hb dX5_isDigit_13 (by decide) ?_
      exact r_z cx hr hlocks rfl hw (sm_eq h) rfl dX5_isDigit_17
set_option maxHeartbeats 4000000 in
set_option maxRecDepth 100000 in
theorem c_X5_byteAt (l : Launch) (g : gE) (q : Nat → Nat) (N : Nat) (p1 : Int32) (d : MD) (r : Int32) (h : f_X5_byteAt N  p1 d = some r) : MO l yX5_byteAt (Cond.code yX5_byteAt cX5_byteAt 2 (some .int) :: TB) rm_X5_byteAt [.ref (q 0), .int p1] g ((MC g q d)) ((MC g q d)) (some (.int r)) 0 0 := by
  refine MO.of (cc := cX5_byteAt) (maxL := 2) (ret := (some .int)) (by decide) ?_
  intro p e s m below meth c cx hw hr hlocks _
  have hx := cx.1.1
  have hb := cx.1.2.1
  refine en_go (lv := [(0, .ref (q 0)), (1, .int p1)]) (Nat.le_of_ble_eq_true rfl) rfl (fun ls hl => ?_)
  unfold f_X5_byteAt at h
  refine lv_iload_n hx hb dX5_byteAt_0 rfl (lv_at hl 1 rfl) ?_
  refine lv_aload_n hx hb dX5_byteAt_1 rfl (lv_at hl 0 rfl) ?_
  refine gf_X5_198 cx hw 0 rfl rfl dX5_byteAt_2 ?_
  refine lv_icmp_ge (tgt := 17) hx hb dX5_byteAt_5 (by decide) (fun c1 => ?_) (fun c1 => ?_)
  · replace h := ite_t c1 h
    refine lv_iconst (v := -1) hx hb dX5_byteAt_17 (by decide) ?_
    exact r_i cx hr hlocks hw (sm_eq h) rfl dX5_byteAt_18
  · replace h := ite_f c1 h
    refine lv_aload_n hx hb dX5_byteAt_8 rfl (lv_at hl 0 rfl) ?_
    refine gf_X5_25 cx hw 0 rfl rfl dX5_byteAt_9 ?_
    refine lv_iload_n hx hb dX5_byteAt_12 rfl (lv_at hl 1 rfl) ?_
    have ix2 := rd_in h
    refine x_iald cx hw 6 rfl ix2 dX5_byteAt_13 ?_
    refine lv_topi (fun x2 ex2 => ?_)
    replace h := rd_nx ex2 h
    refine lv_goto (tgt := 18) hx hb dX5_byteAt_14 (by decide) ?_
    exact r_i cx hr hlocks hw (sm_eq h) rfl dX5_byteAt_18
set_option maxHeartbeats 4000000 in
set_option maxRecDepth 100000 in
theorem c_X5_nextToken (l : Launch) (g : gE) (q : Nat → Nat) (N : Nat)  (d : MD) (d' : MD) (h : f_X5_nextToken N  d = some d') : MO l yX5_nextToken (Cond.code yX5_nextToken cX5_nextToken 2 none :: TB) rm_X5_nextToken [.ref (q 0)] g ((MC g q d)) ((MC g q d')) none 0 0 := by
  refine MO.of (cc := cX5_nextToken) (maxL := 2) (ret := none) (by decide) ?_
  intro p e s m below meth c cx hw hr hlocks _
  have hx := cx.1.1
  have hb := cx.1.2.1
  refine en_go (lv := [(0, .ref (q 0))]) (Nat.le_of_ble_eq_true rfl) rfl (fun ls hl => ?_)
  have J208 : ∀ (d_ : MD) (H : Heap) (locs : List Loc) (ls : Array Slot), Wd g (va_A ((MC g q d)) s.heap.size) ((MC g q d_)) s H locs → lv_has ls 2 [(0, .ref (q 0))] → f_X5_nextToken_J208 N   d_ = some d' → W p l e rm_X5_nextToken s m ([.ref (q 0)] : List Value).toArray below meth c H locs 0 0 (MQ below (QO none g ((MC g q d')) (va_A ((MC g q d)) s.heap.size)) ([.ref (q 0)] : List Value).toArray s 0 0 (va_A ((MC g q d)) s.heap.size)) (F0 m 208 ls []) := by
    intro d_ H locs ls hw hl h
    unfold f_X5_nextToken_J208 at h
    refine lv_aload_n hx hb dX5_nextToken_208 rfl (lv_at hl 0 rfl) ?_
    refine lv_dup hx hb dX5_nextToken_209 rfl ?_
    refine gf_X5_201 cx hw 0 rfl rfl dX5_nextToken_210 ?_
    refine lv_aload_n hx hb dX5_nextToken_213 rfl (lv_at hl 0 rfl) ?_
    refine gf_X5_216 cx hw 0 rfl rfl dX5_nextToken_214 ?_
    refine lv_iconst (v := 2) hx hb dX5_nextToken_217 (by decide) ?_
    refine lv_icmp_le (tgt := 225) hx hb dX5_nextToken_218 (by decide) (fun c48 => ?_) (fun c48 => ?_)
    · replace h := ite_t c48 h
      refine lv_iconst (v := 0) hx hb dX5_nextToken_225 (by decide) ?_
      refine lv_iadd hx hb dX5_nextToken_226 ?_
      refine pf_X5_201 cx hw 0 rfl rfl rfl (Nat.le_of_ble_eq_true rfl) dX5_nextToken_227 (fun H locs hw => ?_)
      obtain ⟨d49, ed49, h⟩ := lt_ex h
      have hw : Wd g (va_A ((MC g q d)) s.heap.size) ((MC g q d49)) s H locs := by rw [ed49]; exact hw
      exact r_v cx hr hlocks hw (congrArg (fun z0 => (MC g q z0)) (sm_eq h)) dX5_nextToken_230
    · replace h := ite_f c48 h
      refine lv_iconst (v := 1) hx hb dX5_nextToken_221 (by decide) ?_
      refine lv_goto (tgt := 226) hx hb dX5_nextToken_222 (by decide) ?_
      refine lv_iadd hx hb dX5_nextToken_226 ?_
      refine pf_X5_201 cx hw 0 rfl rfl rfl (Nat.le_of_ble_eq_true rfl) dX5_nextToken_227 (fun H locs hw => ?_)
      obtain ⟨d50, ed50, h⟩ := lt_ex h
      have hw : Wd g (va_A ((MC g q d)) s.heap.size) ((MC g q d50)) s H locs := by rw [ed50]; exact hw
      exact r_v cx hr hlocks hw (congrArg (fun z0 => (MC g q z0)) (sm_eq h)) dX5_nextToken_230
  have L136 : ∀ (n136 : Nat) (d_ : MD) (H : Heap) (locs : List Loc) (ls : Array Slot), Wd g (va_A ((MC g q d)) s.heap.size) ((MC g q d_)) s H locs → lv_has ls 2 [(0, .ref (q 0))] → f_X5_nextToken_L136 N   n136 d_ = some d' → W p l e rm_X5_nextToken s m ([.ref (q 0)] : List Value).toArray below meth c H locs 0 0 (MQ below (QO none g ((MC g q d')) (va_A ((MC g q d)) s.heap.size)) ([.ref (q 0)] : List Value).toArray s 0 0 (va_A ((MC g q d)) s.heap.size)) (F0 m 136 ls []) := by
    intro n136
    induction n136 with
    | zero => intro d_ H locs ls hw hl h; exact (Option.some_ne_none _ h.symm).elim
    | succ n136 ih136 =>
      have J192 : ∀ (t1 : Int32) (d_ : MD) (H : Heap) (locs : List Loc) (ls : Array Slot), Wd g (va_A ((MC g q d)) s.heap.size) ((MC g q d_)) s H locs → lv_has ls 2 [(0, .ref (q 0))] → f_X5_nextToken_J192 N  (f_X5_nextToken_L136 N   n136) t1 d_ = some d' → W p l e rm_X5_nextToken s m ([.ref (q 0)] : List Value).toArray below meth c H locs 0 0 (MQ below (QO none g ((MC g q d')) (va_A ((MC g q d)) s.heap.size)) ([.ref (q 0)] : List Value).toArray s 0 0 (va_A ((MC g q d)) s.heap.size)) (F0 m 192 ls [.int t1, .ref (q 0)]) := by
        intro t1 d_ H locs ls hw hl h
        unfold f_X5_nextToken_J192 at h
        refine pf_X5_219 cx hw 0 rfl rfl rfl (Nat.le_of_ble_eq_true rfl) dX5_nextToken_192 (fun H locs hw => ?_)
        obtain ⟨d51, ed51, h⟩ := lt_ex h
        have hw : Wd g (va_A ((MC g q d)) s.heap.size) ((MC g q d51)) s H locs := by rw [ed51]; exact hw
        refine lv_aload_n hx hb dX5_nextToken_195 rfl (lv_at hl 0 rfl) ?_
        refine lv_dup hx hb dX5_nextToken_196 rfl ?_
        refine gf_X5_201 cx hw 0 rfl rfl dX5_nextToken_197 ?_
        refine lv_iconst (v := 1) hx hb dX5_nextToken_200 (by decide) ?_
        refine lv_iadd hx hb dX5_nextToken_201 ?_
        refine pf_X5_201 cx hw 0 rfl rfl rfl (Nat.le_of_ble_eq_true rfl) dX5_nextToken_202 (fun H locs hw => ?_)
        obtain ⟨d52, ed52, h⟩ := lt_ex h
        have hw : Wd g (va_A ((MC g q d)) s.heap.size) ((MC g q d52)) s H locs := by rw [ed52]; exact hw
        refine lv_goto (tgt := 136) hx hb dX5_nextToken_205 (by decide) ?_
        exact ih136 d52 _ _ _ hw (lv_sub hl [0] rfl) h
      intro d_ H locs ls hw hl h
      rw [f_X5_nextToken_L136] at h
      refine lv_aload_n hx hb dX5_nextToken_136 rfl (lv_at hl 0 rfl) ?_
      refine gf_X5_216 cx hw 0 rfl rfl dX5_nextToken_137 ?_
      refine lv_iconst (v := 2) hx hb dX5_nextToken_140 (by decide) ?_
      refine lv_icmp_ne (tgt := 208) hx hb dX5_nextToken_141 (by decide) (fun c53 => ?_) (fun c53 => ?_)
      · replace h := ite_f c53 h
        exact J208 d_ _ _ _ hw (lv_sub hl [0] rfl) h
      · replace h := ite_t c53 h
        refine lv_aload_n hx hb dX5_nextToken_144 rfl (lv_at hl 0 rfl) ?_
        refine lv_aload_n hx hb dX5_nextToken_145 rfl (lv_at hl 0 rfl) ?_
        refine gf_X5_201 cx hw 0 rfl rfl dX5_nextToken_146 ?_
        obtain ⟨x54, g55, h⟩ := bd_ex h
        refine c_V (As := [.int (m_to d_)]) (rest := []) (w' := (MC g q d_)) cx hw (c_X5_byteAt l g q N (m_to d_) d_ x54 g55) (cl_X5_207 cx.1.2.2.2.2 ⟨Nat.le_of_ble_eq_true rfl, Nat.le_of_ble_eq_true rfl⟩) (x_recv cx hw (ci := 5) rfl 0 rfl) (Ct.all (MC_ll ..)) hl.1 rfl rfl (Nat.le_of_ble_eq_true rfl) dX5_nextToken_149 ⟨Nat.le_of_ble_eq_true rfl, Nat.le_of_ble_eq_true rfl⟩ (st1 := [.int x54]) rfl (fun H locs hw => ?_)
        obtain ⟨x56, g57, h⟩ := bd_ex h
        refine c_S (As := [.int x54]) (rest := []) (w' := (MC g q d_)) cx hw (c_X5_isDigit l g  N x54  x56 g57) (cl_X5_213 cx.1.2.2.2.2 ⟨Nat.le_of_ble_eq_true rfl, Nat.le_of_ble_eq_true rfl⟩) Ct.nil hl.1 rfl rfl (Nat.le_of_ble_eq_true rfl) dX5_nextToken_152 ⟨Nat.le_of_ble_eq_true rfl, Nat.le_of_ble_eq_true rfl⟩ (st1 := [.int x56]) rfl (fun H locs hw => ?_)
        refine lv_if_eq (tgt := 208) hx hb dX5_nextToken_155 (by decide) (fun c58 => ?_) (fun c58 => ?_)
        · replace h := ite_t c58 h
          exact J208 d_ _ _ _ hw (lv_sub hl [0] rfl) h
        · replace h := ite_f c58 h
          refine lv_aload_n hx hb dX5_nextToken_158 rfl (lv_at hl 0 rfl) ?_
          refine lv_aload_n hx hb dX5_nextToken_159 rfl (lv_at hl 0 rfl) ?_
          refine gf_X5_219 cx hw 0 rfl rfl dX5_nextToken_160 ?_
          refine lv_ldc hx hb cx.1.2.2.2.1 (cx.1.2.2.2.2 _ tw_5_137) dX5_nextToken_163 ?_
          refine lv_icmp_le (tgt := 173) hx hb dX5_nextToken_165 (by decide) (fun c59 => ?_) (fun c59 => ?_)
          · replace h := ite_t c59 h
            refine lv_bipush (v := 10) hx hb dX5_nextToken_173 (by decide) ?_
            refine lv_aload_n hx hb dX5_nextToken_175 rfl (lv_at hl 0 rfl) ?_
            refine gf_X5_219 cx hw 0 rfl rfl dX5_nextToken_176 ?_
            refine lv_imul hx hb dX5_nextToken_179 ?_
            refine lv_aload_n hx hb dX5_nextToken_180 rfl (lv_at hl 0 rfl) ?_
            refine lv_aload_n hx hb dX5_nextToken_181 rfl (lv_at hl 0 rfl) ?_
            refine gf_X5_201 cx hw 0 rfl rfl dX5_nextToken_182 ?_
            obtain ⟨x60, g61, h⟩ := bd_ex h
            refine c_V (As := [.int (m_to d_)]) (rest := [.int ((10 : Int32) * (m_value d_)), .ref (q 0)]) (w' := (MC g q d_)) cx hw (c_X5_byteAt l g q N (m_to d_) d_ x60 g61) (cl_X5_207 cx.1.2.2.2.2 ⟨Nat.le_of_ble_eq_true rfl, Nat.le_of_ble_eq_true rfl⟩) (x_recv cx hw (ci := 5) rfl 0 rfl) (Ct.all (MC_ll ..)) hl.1 rfl rfl (Nat.le_of_ble_eq_true rfl) dX5_nextToken_185 ⟨Nat.le_of_ble_eq_true rfl, Nat.le_of_ble_eq_true rfl⟩ (st1 := [.int x60, .int ((10 : Int32) * (m_value d_)), .ref (q 0)]) rfl (fun H locs hw => ?_)
            refine lv_iadd hx hb dX5_nextToken_188 ?_
            refine lv_bipush (v := 48) hx hb dX5_nextToken_189 (by decide) ?_
            refine lv_isub hx hb dX5_nextToken_191 ?_
            exact J192 ((((10 : Int32) * (m_value d_)) + x60) - (48 : Int32)) d_ _ _ _ hw (lv_sub hl [0] rfl) h
          · replace h := ite_f c59 h
            refine lv_ldc hx hb cx.1.2.2.2.1 (cx.1.2.2.2.2 _ tw_5_138) dX5_nextToken_168 ?_
            refine lv_goto (tgt := 192) hx hb dX5_nextToken_170 (by decide) ?_
            exact J192 (2000000000 : Int32) d_ _ _ _ hw (lv_sub hl [0] rfl) h
  have L101 : ∀ (n101 : Nat) (d_ : MD) (H : Heap) (locs : List Loc) (ls : Array Slot), Wd g (va_A ((MC g q d)) s.heap.size) ((MC g q d_)) s H locs → lv_has ls 2 [(0, .ref (q 0))] → f_X5_nextToken_L101 N   n101 d_ = some d' → W p l e rm_X5_nextToken s m ([.ref (q 0)] : List Value).toArray below meth c H locs 0 0 (MQ below (QO none g ((MC g q d')) (va_A ((MC g q d)) s.heap.size)) ([.ref (q 0)] : List Value).toArray s 0 0 (va_A ((MC g q d)) s.heap.size)) (F0 m 101 ls []) := by
    intro n101
    induction n101 with
    | zero => intro d_ H locs ls hw hl h; exact (Option.some_ne_none _ h.symm).elim
    | succ n101 ih101 =>
      intro d_ H locs ls hw hl h
      rw [f_X5_nextToken_L101] at h
      refine lv_aload_n hx hb dX5_nextToken_101 rfl (lv_at hl 0 rfl) ?_
      refine gf_X5_216 cx hw 0 rfl rfl dX5_nextToken_102 ?_
      refine lv_iconst (v := 1) hx hb dX5_nextToken_105 (by decide) ?_
      refine lv_icmp_ne (tgt := 136) hx hb dX5_nextToken_106 (by decide) (fun c62 => ?_) (fun c62 => ?_)
      · replace h := ite_f c62 h
        exact L136 N d_ _ _ _ hw (lv_sub hl [0] rfl) h
      · replace h := ite_t c62 h
        refine lv_aload_n hx hb dX5_nextToken_109 rfl (lv_at hl 0 rfl) ?_
        refine lv_aload_n hx hb dX5_nextToken_110 rfl (lv_at hl 0 rfl) ?_
        refine gf_X5_201 cx hw 0 rfl rfl dX5_nextToken_111 ?_
        obtain ⟨x63, g64, h⟩ := bd_ex h
        refine c_V (As := [.int (m_to d_)]) (rest := []) (w' := (MC g q d_)) cx hw (c_X5_byteAt l g q N (m_to d_) d_ x63 g64) (cl_X5_207 cx.1.2.2.2.2 ⟨Nat.le_of_ble_eq_true rfl, Nat.le_of_ble_eq_true rfl⟩) (x_recv cx hw (ci := 5) rfl 0 rfl) (Ct.all (MC_ll ..)) hl.1 rfl rfl (Nat.le_of_ble_eq_true rfl) dX5_nextToken_114 ⟨Nat.le_of_ble_eq_true rfl, Nat.le_of_ble_eq_true rfl⟩ (st1 := [.int x63]) rfl (fun H locs hw => ?_)
        obtain ⟨x65, g66, h⟩ := bd_ex h
        refine c_S (As := [.int x63]) (rest := []) (w' := (MC g q d_)) cx hw (c_X5_isLetter l g  N x63  x65 g66) (cl_X5_210 cx.1.2.2.2.2 ⟨Nat.le_of_ble_eq_true rfl, Nat.le_of_ble_eq_true rfl⟩) Ct.nil hl.1 rfl rfl (Nat.le_of_ble_eq_true rfl) dX5_nextToken_117 ⟨Nat.le_of_ble_eq_true rfl, Nat.le_of_ble_eq_true rfl⟩ (st1 := [.int x65]) rfl (fun H locs hw => ?_)
        refine lv_if_eq (tgt := 136) hx hb dX5_nextToken_120 (by decide) (fun c67 => ?_) (fun c67 => ?_)
        · replace h := ite_t c67 h
          exact L136 N d_ _ _ _ hw (lv_sub hl [0] rfl) h
        · replace h := ite_f c67 h
          refine lv_aload_n hx hb dX5_nextToken_123 rfl (lv_at hl 0 rfl) ?_
          refine lv_dup hx hb dX5_nextToken_124 rfl ?_
          refine gf_X5_201 cx hw 0 rfl rfl dX5_nextToken_125 ?_
          refine lv_iconst (v := 1) hx hb dX5_nextToken_128 (by decide) ?_
          refine lv_iadd hx hb dX5_nextToken_129 ?_
          refine pf_X5_201 cx hw 0 rfl rfl rfl (Nat.le_of_ble_eq_true rfl) dX5_nextToken_130 (fun H locs hw => ?_)
          obtain ⟨d68, ed68, h⟩ := lt_ex h
          have hw : Wd g (va_A ((MC g q d)) s.heap.size) ((MC g q d68)) s H locs := by rw [ed68]; exact hw
          refine lv_goto (tgt := 101) hx hb dX5_nextToken_133 (by decide) ?_
          exact ih101 d68 _ _ _ hw (lv_sub hl [0] rfl) h
  have L8 : ∀ (n8 : Nat) (d_ : MD) (H : Heap) (locs : List Loc) (ls : Array Slot), Wd g (va_A ((MC g q d)) s.heap.size) ((MC g q d_)) s H locs → lv_has ls 2 [(0, .ref (q 0))] → f_X5_nextToken_L8 N   n8 d_ = some d' → W p l e rm_X5_nextToken s m ([.ref (q 0)] : List Value).toArray below meth c H locs 0 0 (MQ below (QO none g ((MC g q d')) (va_A ((MC g q d)) s.heap.size)) ([.ref (q 0)] : List Value).toArray s 0 0 (va_A ((MC g q d)) s.heap.size)) (F0 m 8 ls []) := by
    intro n8
    induction n8 with
    | zero => intro d_ H locs ls hw hl h; exact (Option.some_ne_none _ h.symm).elim
    | succ n8 ih8 =>
      intro d_ H locs ls hw hl h
      rw [f_X5_nextToken_L8] at h
      refine lv_aload_n hx hb dX5_nextToken_8 rfl (lv_at hl 0 rfl) ?_
      refine lv_aload_n hx hb dX5_nextToken_9 rfl (lv_at hl 0 rfl) ?_
      refine gf_X5_204 cx hw 0 rfl rfl dX5_nextToken_10 ?_
      obtain ⟨x69, g70, h⟩ := bd_ex h
      refine c_V (As := [.int (m_from d_)]) (rest := []) (w' := (MC g q d_)) cx hw (c_X5_byteAt l g q N (m_from d_) d_ x69 g70) (cl_X5_207 cx.1.2.2.2.2 ⟨Nat.le_of_ble_eq_true rfl, Nat.le_of_ble_eq_true rfl⟩) (x_recv cx hw (ci := 5) rfl 0 rfl) (Ct.all (MC_ll ..)) hl.1 rfl rfl (Nat.le_of_ble_eq_true rfl) dX5_nextToken_13 ⟨Nat.le_of_ble_eq_true rfl, Nat.le_of_ble_eq_true rfl⟩ (st1 := [.int x69]) rfl (fun H locs hw => ?_)
      refine lv_bipush (v := 32) hx hb dX5_nextToken_16 (by decide) ?_
      refine lv_icmp_ne (tgt := 34) hx hb dX5_nextToken_18 (by decide) (fun c71 => ?_) (fun c71 => ?_)
      · replace h := ite_f c71 h
        refine lv_aload_n hx hb dX5_nextToken_34 rfl (lv_at hl 0 rfl) ?_
        refine lv_aload_n hx hb dX5_nextToken_35 rfl (lv_at hl 0 rfl) ?_
        refine gf_X5_204 cx hw 0 rfl rfl dX5_nextToken_36 ?_
        refine pf_X5_201 cx hw 0 rfl rfl rfl (Nat.le_of_ble_eq_true rfl) dX5_nextToken_39 (fun H locs hw => ?_)
        obtain ⟨d72, ed72, h⟩ := lt_ex h
        have hw : Wd g (va_A ((MC g q d)) s.heap.size) ((MC g q d72)) s H locs := by rw [ed72]; exact hw
        refine lv_aload_n hx hb dX5_nextToken_42 rfl (lv_at hl 0 rfl) ?_
        refine lv_aload_n hx hb dX5_nextToken_43 rfl (lv_at hl 0 rfl) ?_
        refine gf_X5_204 cx hw 0 rfl rfl dX5_nextToken_44 ?_
        obtain ⟨x73, g74, h⟩ := bd_ex h
        refine c_V (As := [.int (m_from d72)]) (rest := []) (w' := (MC g q d72)) cx hw (c_X5_byteAt l g q N (m_from d72) d72 x73 g74) (cl_X5_207 cx.1.2.2.2.2 ⟨Nat.le_of_ble_eq_true rfl, Nat.le_of_ble_eq_true rfl⟩) (x_recv cx hw (ci := 5) rfl 0 rfl) (Ct.all (MC_ll ..)) hl.1 rfl rfl (Nat.le_of_ble_eq_true rfl) dX5_nextToken_47 ⟨Nat.le_of_ble_eq_true rfl, Nat.le_of_ble_eq_true rfl⟩ (st1 := [.int x73]) rfl (fun H locs hw => ?_)
        refine lv_istore_n (lv' := [(1, .int x73), (0, .ref (q 0))]) hx hb dX5_nextToken_50 rfl hl (by decide) rfl (fun ls hl => ?_)
        refine lv_aload_n hx hb dX5_nextToken_51 rfl (lv_at hl 1 rfl) ?_
        refine lv_iload_n hx hb dX5_nextToken_52 rfl (lv_at hl 0 rfl) ?_
        refine lv_if_ge (tgt := 60) hx hb dX5_nextToken_53 (by decide) (fun c75 => ?_) (fun c75 => ?_)
        · replace h := ite_t c75 h
          refine lv_iload_n hx hb dX5_nextToken_60 rfl (lv_at hl 0 rfl) ?_
          obtain ⟨x76, g77, h⟩ := bd_ex h
          refine c_S (As := [.int x73]) (rest := [.ref (q 0)]) (w' := (MC g q d72)) cx hw (c_X5_isLetter l g  N x73  x76 g77) (cl_X5_210 cx.1.2.2.2.2 ⟨Nat.le_of_ble_eq_true rfl, Nat.le_of_ble_eq_true rfl⟩) Ct.nil hl.1 rfl rfl (Nat.le_of_ble_eq_true rfl) dX5_nextToken_61 ⟨Nat.le_of_ble_eq_true rfl, Nat.le_of_ble_eq_true rfl⟩ (st1 := [.int x76, .ref (q 0)]) rfl (fun H locs hw => ?_)
          refine lv_if_eq (tgt := 71) hx hb dX5_nextToken_64 (by decide) (fun c78 => ?_) (fun c78 => ?_)
          · replace h := ite_t c78 h
            refine lv_iload_n hx hb dX5_nextToken_71 rfl (lv_at hl 0 rfl) ?_
            obtain ⟨x79, g80, h⟩ := bd_ex h
            refine c_S (As := [.int x73]) (rest := [.ref (q 0)]) (w' := (MC g q d72)) cx hw (c_X5_isDigit l g  N x73  x79 g80) (cl_X5_213 cx.1.2.2.2.2 ⟨Nat.le_of_ble_eq_true rfl, Nat.le_of_ble_eq_true rfl⟩) Ct.nil hl.1 rfl rfl (Nat.le_of_ble_eq_true rfl) dX5_nextToken_72 ⟨Nat.le_of_ble_eq_true rfl, Nat.le_of_ble_eq_true rfl⟩ (st1 := [.int x79, .ref (q 0)]) rfl (fun H locs hw => ?_)
            refine lv_if_eq (tgt := 82) hx hb dX5_nextToken_75 (by decide) (fun c81 => ?_) (fun c81 => ?_)
            · replace h := ite_t c81 h
              refine lv_iload_n hx hb dX5_nextToken_82 rfl (lv_at hl 0 rfl) ?_
              refine lv_bipush (v := 59) hx hb dX5_nextToken_83 (by decide) ?_
              refine lv_icmp_ne (tgt := 92) hx hb dX5_nextToken_85 (by decide) (fun c82 => ?_) (fun c82 => ?_)
              · replace h := ite_f c82 h
                refine lv_iconst (v := 4) hx hb dX5_nextToken_92 (by decide) ?_
                refine pf_X5_216 cx hw 0 rfl rfl rfl (Nat.le_of_ble_eq_true rfl) dX5_nextToken_93 (fun H locs hw => ?_)
                obtain ⟨d83, ed83, h⟩ := lt_ex h
                have hw : Wd g (va_A ((MC g q d)) s.heap.size) ((MC g q d83)) s H locs := by rw [ed83]; exact hw
                refine lv_aload_n hx hb dX5_nextToken_96 rfl (lv_at hl 1 rfl) ?_
                refine lv_iconst (v := 0) hx hb dX5_nextToken_97 (by decide) ?_
                refine pf_X5_219 cx hw 0 rfl rfl rfl (Nat.le_of_ble_eq_true rfl) dX5_nextToken_98 (fun H locs hw => ?_)
                obtain ⟨d84, ed84, h⟩ := lt_ex h
                have hw : Wd g (va_A ((MC g q d)) s.heap.size) ((MC g q d84)) s H locs := by rw [ed84]; exact hw
                exact L101 N d84 _ _ _ hw (lv_sub hl [1] rfl) h
              · replace h := ite_t c82 h
                refine lv_iconst (v := 3) hx hb dX5_nextToken_88 (by decide) ?_
                refine lv_goto (tgt := 93) hx hb dX5_nextToken_89 (by decide) ?_
                refine pf_X5_216 cx hw 0 rfl rfl rfl (Nat.le_of_ble_eq_true rfl) dX5_nextToken_93 (fun H locs hw => ?_)
                obtain ⟨d85, ed85, h⟩ := lt_ex h
                have hw : Wd g (va_A ((MC g q d)) s.heap.size) ((MC g q d85)) s H locs := by rw [ed85]; exact hw
                refine lv_aload_n hx hb dX5_nextToken_96 rfl (lv_at hl 1 rfl) ?_
                refine lv_iconst (v := 0) hx hb dX5_nextToken_97 (by decide) ?_
                refine pf_X5_219 cx hw 0 rfl rfl rfl (Nat.le_of_ble_eq_true rfl) dX5_nextToken_98 (fun H locs hw => ?_)
                obtain ⟨d86, ed86, h⟩ := lt_ex h
                have hw : Wd g (va_A ((MC g q d)) s.heap.size) ((MC g q d86)) s H locs := by rw [ed86]; exact hw
                exact L101 N d86 _ _ _ hw (lv_sub hl [1] rfl) h
            · replace h := ite_f c81 h
              refine lv_iconst (v := 2) hx hb dX5_nextToken_78 (by decide) ?_
              refine lv_goto (tgt := 93) hx hb dX5_nextToken_79 (by decide) ?_
              refine pf_X5_216 cx hw 0 rfl rfl rfl (Nat.le_of_ble_eq_true rfl) dX5_nextToken_93 (fun H locs hw => ?_)
              obtain ⟨d87, ed87, h⟩ := lt_ex h
              have hw : Wd g (va_A ((MC g q d)) s.heap.size) ((MC g q d87)) s H locs := by rw [ed87]; exact hw
              refine lv_aload_n hx hb dX5_nextToken_96 rfl (lv_at hl 1 rfl) ?_
              refine lv_iconst (v := 0) hx hb dX5_nextToken_97 (by decide) ?_
              refine pf_X5_219 cx hw 0 rfl rfl rfl (Nat.le_of_ble_eq_true rfl) dX5_nextToken_98 (fun H locs hw => ?_)
              obtain ⟨d88, ed88, h⟩ := lt_ex h
              have hw : Wd g (va_A ((MC g q d)) s.heap.size) ((MC g q d88)) s H locs := by rw [ed88]; exact hw
              exact L101 N d88 _ _ _ hw (lv_sub hl [1] rfl) h
          · replace h := ite_f c78 h
            refine lv_iconst (v := 1) hx hb dX5_nextToken_67 (by decide) ?_
            refine lv_goto (tgt := 93) hx hb dX5_nextToken_68 (by decide) ?_
            refine pf_X5_216 cx hw 0 rfl rfl rfl (Nat.le_of_ble_eq_true rfl) dX5_nextToken_93 (fun H locs hw => ?_)
            obtain ⟨d89, ed89, h⟩ := lt_ex h
            have hw : Wd g (va_A ((MC g q d)) s.heap.size) ((MC g q d89)) s H locs := by rw [ed89]; exact hw
            refine lv_aload_n hx hb dX5_nextToken_96 rfl (lv_at hl 1 rfl) ?_
            refine lv_iconst (v := 0) hx hb dX5_nextToken_97 (by decide) ?_
            refine pf_X5_219 cx hw 0 rfl rfl rfl (Nat.le_of_ble_eq_true rfl) dX5_nextToken_98 (fun H locs hw => ?_)
            obtain ⟨d90, ed90, h⟩ := lt_ex h
            have hw : Wd g (va_A ((MC g q d)) s.heap.size) ((MC g q d90)) s H locs := by rw [ed90]; exact hw
            exact L101 N d90 _ _ _ hw (lv_sub hl [1] rfl) h
        · replace h := ite_f c75 h
          refine lv_iconst (v := 0) hx hb dX5_nextToken_56 (by decide) ?_
          refine lv_goto (tgt := 93) hx hb dX5_nextToken_57 (by decide) ?_
          refine pf_X5_216 cx hw 0 rfl rfl rfl (Nat.le_of_ble_eq_true rfl) dX5_nextToken_93 (fun H locs hw => ?_)
          obtain ⟨d91, ed91, h⟩ := lt_ex h
          have hw : Wd g (va_A ((MC g q d)) s.heap.size) ((MC g q d91)) s H locs := by rw [ed91]; exact hw
          refine lv_aload_n hx hb dX5_nextToken_96 rfl (lv_at hl 1 rfl) ?_
          refine lv_iconst (v := 0) hx hb dX5_nextToken_97 (by decide) ?_
          refine pf_X5_219 cx hw 0 rfl rfl rfl (Nat.le_of_ble_eq_true rfl) dX5_nextToken_98 (fun H locs hw => ?_)
          obtain ⟨d92, ed92, h⟩ := lt_ex h
          have hw : Wd g (va_A ((MC g q d)) s.heap.size) ((MC g q d92)) s H locs := by rw [ed92]; exact hw
          exact L101 N d92 _ _ _ hw (lv_sub hl [1] rfl) h
      · replace h := ite_t c71 h
        refine lv_aload_n hx hb dX5_nextToken_21 rfl (lv_at hl 0 rfl) ?_
        refine lv_dup hx hb dX5_nextToken_22 rfl ?_
        refine gf_X5_204 cx hw 0 rfl rfl dX5_nextToken_23 ?_
        refine lv_iconst (v := 1) hx hb dX5_nextToken_26 (by decide) ?_
        refine lv_iadd hx hb dX5_nextToken_27 ?_
        refine pf_X5_204 cx hw 0 rfl rfl rfl (Nat.le_of_ble_eq_true rfl) dX5_nextToken_28 (fun H locs hw => ?_)
        obtain ⟨d93, ed93, h⟩ := lt_ex h
        have hw : Wd g (va_A ((MC g q d)) s.heap.size) ((MC g q d93)) s H locs := by rw [ed93]; exact hw
        refine lv_goto (tgt := 8) hx hb dX5_nextToken_31 (by decide) ?_
        exact ih8 d93 _ _ _ hw (lv_sub hl [0] rfl) h
  unfold f_X5_nextToken at h
  refine lv_aload_n hx hb dX5_nextToken_0 rfl (lv_at hl 0 rfl) ?_
  refine lv_aload_n hx hb dX5_nextToken_1 rfl (lv_at hl 0 rfl) ?_
  refine gf_X5_201 cx hw 0 rfl rfl dX5_nextToken_2 ?_
  refine pf_X5_204 cx hw 0 rfl rfl rfl (Nat.le_of_ble_eq_true rfl) dX5_nextToken_5 (fun H locs hw => ?_)
  obtain ⟨d1, ed1, h⟩ := lt_ex h
  have hw : Wd g (va_A ((MC g q d)) s.heap.size) ((MC g q d1)) s H locs := by rw [ed1]; exact hw
  exact L8 N d1 _ _ _ hw (lv_sub hl [0] rfl) h
set_option maxHeartbeats 4000000 in
set_option maxRecDepth 100000 in
theorem c_X5_has3 (l : Launch) (g : gE) (q : Nat → Nat) (N : Nat) (p1 : Int32) (p2 : Int32) (p3 : Int32) (p4 : Int32) (d : MD) (r : Int32) (h : f_X5_has3 N  p1 p2 p3 p4 d = some r) : MO l yX5_has3 (Cond.code yX5_has3 cX5_has3 5 (some .boolean) :: TB) rm_X5_has3 [.ref (q 0), .int p1, .int p2, .int p3, .int p4] g ((MC g q d)) ((MC g q d)) (some (.int r)) 0 0 := by
  refine MO.of (cc := cX5_has3) (maxL := 5) (ret := (some .boolean)) (by decide) ?_
  intro p e s m below meth c cx hw hr hlocks _
  have hx := cx.1.1
  have hb := cx.1.2.1
  refine en_go (lv := [(0, .ref (q 0)), (1, .int p1), (2, .int p2), (3, .int p3), (4, .int p4)]) (Nat.le_of_ble_eq_true rfl) rfl (fun ls hl => ?_)
  unfold f_X5_has3 at h
  refine lv_aload_n hx hb dX5_has3_0 rfl (lv_at hl 0 rfl) ?_
  refine lv_aload_n hx hb dX5_has3_1 rfl (lv_at hl 0 rfl) ?_
  refine gf_X5_204 cx hw 0 rfl rfl dX5_has3_2 ?_
  refine lv_iload_n hx hb dX5_has3_5 rfl (lv_at hl 1 rfl) ?_
  refine lv_iadd hx hb dX5_has3_6 ?_
  obtain ⟨x1, g2, h⟩ := bd_ex h
  refine c_V (As := [.int ((m_from d) + p1)]) (rest := []) (w' := (MC g q d)) cx hw (c_X5_byteAt l g q N ((m_from d) + p1) d x1 g2) (cl_X5_207 cx.1.2.2.2.2 ⟨Nat.le_of_ble_eq_true rfl, Nat.le_of_ble_eq_true rfl⟩) (x_recv cx hw (ci := 5) rfl 0 rfl) (Ct.all (MC_ll ..)) hl.1 rfl rfl (Nat.le_of_ble_eq_true rfl) dX5_has3_7 ⟨Nat.le_of_ble_eq_true rfl, Nat.le_of_ble_eq_true rfl⟩ (st1 := [.int x1]) rfl (fun H locs hw => ?_)
  refine lv_iload_n hx hb dX5_has3_10 rfl (lv_at hl 2 rfl) ?_
  refine lv_icmp_ne (tgt := 51) hx hb dX5_has3_11 (by decide) (fun c3 => ?_) (fun c3 => ?_)
  · replace h := ite_f c3 h
    refine lv_iconst (v := 0) hx hb dX5_has3_51 (by decide) ?_
    exact r_z cx hr hlocks rfl hw (sm_eq h) rfl dX5_has3_52
  · replace h := ite_t c3 h
    refine lv_aload_n hx hb dX5_has3_14 rfl (lv_at hl 0 rfl) ?_
    refine lv_aload_n hx hb dX5_has3_15 rfl (lv_at hl 0 rfl) ?_
    refine gf_X5_204 cx hw 0 rfl rfl dX5_has3_16 ?_
    refine lv_iload_n hx hb dX5_has3_19 rfl (lv_at hl 1 rfl) ?_
    refine lv_iadd hx hb dX5_has3_20 ?_
    refine lv_iconst (v := 1) hx hb dX5_has3_21 (by decide) ?_
    refine lv_iadd hx hb dX5_has3_22 ?_
    obtain ⟨x4, g5, h⟩ := bd_ex h
    refine c_V (As := [.int (((m_from d) + p1) + (1 : Int32))]) (rest := []) (w' := (MC g q d)) cx hw (c_X5_byteAt l g q N (((m_from d) + p1) + (1 : Int32)) d x4 g5) (cl_X5_207 cx.1.2.2.2.2 ⟨Nat.le_of_ble_eq_true rfl, Nat.le_of_ble_eq_true rfl⟩) (x_recv cx hw (ci := 5) rfl 0 rfl) (Ct.all (MC_ll ..)) hl.1 rfl rfl (Nat.le_of_ble_eq_true rfl) dX5_has3_23 ⟨Nat.le_of_ble_eq_true rfl, Nat.le_of_ble_eq_true rfl⟩ (st1 := [.int x4]) rfl (fun H locs hw => ?_)
    refine lv_iload_n hx hb dX5_has3_26 rfl (lv_at hl 3 rfl) ?_
    refine lv_icmp_ne (tgt := 51) hx hb dX5_has3_27 (by decide) (fun c6 => ?_) (fun c6 => ?_)
    · replace h := ite_f c6 h
      refine lv_iconst (v := 0) hx hb dX5_has3_51 (by decide) ?_
      exact r_z cx hr hlocks rfl hw (sm_eq h) rfl dX5_has3_52
    · replace h := ite_t c6 h
      refine lv_aload_n hx hb dX5_has3_30 rfl (lv_at hl 0 rfl) ?_
      refine lv_aload_n hx hb dX5_has3_31 rfl (lv_at hl 0 rfl) ?_
      refine gf_X5_204 cx hw 0 rfl rfl dX5_has3_32 ?_
      refine lv_iload_n hx hb dX5_has3_35 rfl (lv_at hl 1 rfl) ?_
      refine lv_iadd hx hb dX5_has3_36 ?_
      refine lv_iconst (v := 2) hx hb dX5_has3_37 (by decide) ?_
      refine lv_iadd hx hb dX5_has3_38 ?_
      obtain ⟨x7, g8, h⟩ := bd_ex h
      refine c_V (As := [.int (((m_from d) + p1) + (2 : Int32))]) (rest := []) (w' := (MC g q d)) cx hw (c_X5_byteAt l g q N (((m_from d) + p1) + (2 : Int32)) d x7 g8) (cl_X5_207 cx.1.2.2.2.2 ⟨Nat.le_of_ble_eq_true rfl, Nat.le_of_ble_eq_true rfl⟩) (x_recv cx hw (ci := 5) rfl 0 rfl) (Ct.all (MC_ll ..)) hl.1 rfl rfl (Nat.le_of_ble_eq_true rfl) dX5_has3_39 ⟨Nat.le_of_ble_eq_true rfl, Nat.le_of_ble_eq_true rfl⟩ (st1 := [.int x7]) rfl (fun H locs hw => ?_)
      refine lv_iload hx hb dX5_has3_42 (lv_at hl 4 rfl) ?_
      refine lv_icmp_ne (tgt := 51) hx hb dX5_has3_44 (by decide) (fun c9 => ?_) (fun c9 => ?_)
      · replace h := ite_f c9 h
        refine lv_iconst (v := 0) hx hb dX5_has3_51 (by decide) ?_
        exact r_z cx hr hlocks rfl hw (sm_eq h) rfl dX5_has3_52
      · replace h := ite_t c9 h
        refine lv_iconst (v := 1) hx hb dX5_has3_47 (by decide) ?_
        refine lv_goto (tgt := 52) hx hb dX5_has3_48 (by decide) ?_
        exact r_z cx hr hlocks rfl hw (sm_eq h) rfl dX5_has3_52
set_option maxHeartbeats 4000000 in
set_option maxRecDepth 100000 in
theorem c_X5_isWord (l : Launch) (g : gE) (q : Nat → Nat) (N : Nat) (p1 : Int32) (d : MD) (r : Int32) (h : f_X5_isWord N  p1 d = some r) : MO l yX5_isWord (Cond.code yX5_isWord cX5_isWord 2 (some .boolean) :: TB) rm_X5_isWord [.ref (q 0), .int p1] g ((MC g q d)) ((MC g q d)) (some (.int r)) 0 0 := by
  refine MO.of (cc := cX5_isWord) (maxL := 2) (ret := (some .boolean)) (by decide) ?_
  intro p e s m below meth c cx hw hr hlocks _
  have hx := cx.1.1
  have hb := cx.1.2.1
  refine en_go (lv := [(0, .ref (q 0)), (1, .int p1)]) (Nat.le_of_ble_eq_true rfl) rfl (fun ls hl => ?_)
  unfold f_X5_isWord at h
  refine lv_aload_n hx hb dX5_isWord_0 rfl (lv_at hl 0 rfl) ?_
  refine gf_X5_216 cx hw 0 rfl rfl dX5_isWord_1 ?_
  refine lv_iconst (v := 1) hx hb dX5_isWord_4 (by decide) ?_
  refine lv_icmp_ne (tgt := 25) hx hb dX5_isWord_5 (by decide) (fun c1 => ?_) (fun c1 => ?_)
  · replace h := ite_f c1 h
    refine lv_iconst (v := 0) hx hb dX5_isWord_25 (by decide) ?_
    exact r_z cx hr hlocks rfl hw (sm_eq h) rfl dX5_isWord_26
  · replace h := ite_t c1 h
    refine lv_aload_n hx hb dX5_isWord_8 rfl (lv_at hl 0 rfl) ?_
    refine gf_X5_201 cx hw 0 rfl rfl dX5_isWord_9 ?_
    refine lv_aload_n hx hb dX5_isWord_12 rfl (lv_at hl 0 rfl) ?_
    refine gf_X5_204 cx hw 0 rfl rfl dX5_isWord_13 ?_
    refine lv_isub hx hb dX5_isWord_16 ?_
    refine lv_iload_n hx hb dX5_isWord_17 rfl (lv_at hl 1 rfl) ?_
    refine lv_icmp_ne (tgt := 25) hx hb dX5_isWord_18 (by decide) (fun c2 => ?_) (fun c2 => ?_)
    · replace h := ite_f c2 h
      refine lv_iconst (v := 0) hx hb dX5_isWord_25 (by decide) ?_
      exact r_z cx hr hlocks rfl hw (sm_eq h) rfl dX5_isWord_26
    · replace h := ite_t c2 h
      refine lv_iconst (v := 1) hx hb dX5_isWord_21 (by decide) ?_
      refine lv_goto (tgt := 26) hx hb dX5_isWord_22 (by decide) ?_
      exact r_z cx hr hlocks rfl hw (sm_eq h) rfl dX5_isWord_26
set_option maxHeartbeats 4000000 in
set_option maxRecDepth 100000 in
theorem c_X5_fails (l : Launch) (g : gE) (q : Nat → Nat) (N : Nat)  (d : MD) (r : Int32) (d' : MD) (h : f_X5_fails N  d = some (r, d')) : MO l yX5_fails (Cond.code yX5_fails cX5_fails 1 (some .boolean) :: TB) rm_X5_fails [.ref (q 0)] g ((MC g q d)) ((MC g q d')) (some (.int r)) 0 0 := by
  refine MO.of (cc := cX5_fails) (maxL := 1) (ret := (some .boolean)) (by decide) ?_
  intro p e s m below meth c cx hw hr hlocks _
  have hx := cx.1.1
  have hb := cx.1.2.1
  refine en_go (lv := [(0, .ref (q 0))]) (Nat.le_of_ble_eq_true rfl) rfl (fun ls hl => ?_)
  unfold f_X5_fails at h
  refine lv_aload_n hx hb dX5_fails_0 rfl (lv_at hl 0 rfl) ?_
  refine lv_aload_n hx hb dX5_fails_1 rfl (lv_at hl 0 rfl) ?_
  refine gf_X5_204 cx hw 0 rfl rfl dX5_fails_2 ?_
  refine pf_X5_224 cx hw 0 rfl rfl rfl (Nat.le_of_ble_eq_true rfl) dX5_fails_5 (fun H locs hw => ?_)
  obtain ⟨d1, ed1, h⟩ := lt_ex h
  have hw : Wd g (va_A ((MC g q d)) s.heap.size) ((MC g q d1)) s H locs := by rw [ed1]; exact hw
  refine lv_iconst (v := 0) hx hb dX5_fails_8 (by decide) ?_
  exact r_z cx hr hlocks rfl hw (pr1 h) (congrArg (fun z0 => (MC g q z0)) (pr2 h)) dX5_fails_9
set_option maxHeartbeats 4000000 in
set_option maxRecDepth 100000 in
theorem c_X5_kindHere (l : Launch) (g : gE) (q : Nat → Nat) (N : Nat)  (d : MD) (r : Int32) (h : f_X5_kindHere N  d = some r) : MO l yX5_kindHere (Cond.code yX5_kindHere cX5_kindHere 1 (some .int) :: TB) rm_X5_kindHere [.ref (q 0)] g ((MC g q d)) ((MC g q d)) (some (.int r)) 0 0 := by
  refine MO.of (cc := cX5_kindHere) (maxL := 1) (ret := (some .int)) (by decide) ?_
  intro p e s m below meth c cx hw hr hlocks _
  have hx := cx.1.1
  have hb := cx.1.2.1
  refine en_go (lv := [(0, .ref (q 0))]) (Nat.le_of_ble_eq_true rfl) rfl (fun ls hl => ?_)
  have J193 : ∀  (H : Heap) (locs : List Loc) (ls : Array Slot), Wd g (va_A ((MC g q d)) s.heap.size) ((MC g q d)) s H locs → lv_has ls 1 [(0, .ref (q 0))] → f_X5_kindHere_J193 N d   = some r → W p l e rm_X5_kindHere s m ([.ref (q 0)] : List Value).toArray below meth c H locs 0 0 (MQ below (QO (some (.int r)) g ((MC g q d)) (va_A ((MC g q d)) s.heap.size)) ([.ref (q 0)] : List Value).toArray s 0 0 (va_A ((MC g q d)) s.heap.size)) (F0 m 193 ls []) := by
    intro  H locs ls hw hl h
    unfold f_X5_kindHere_J193 at h
    refine lv_aload_n hx hb dX5_kindHere_193 rfl (lv_at hl 0 rfl) ?_
    refine lv_iconst (v := 4) hx hb dX5_kindHere_194 (by decide) ?_
    obtain ⟨x55, g56, h⟩ := bd_ex h
    refine c_V (As := [.int (4 : Int32)]) (rest := []) (w' := (MC g q d)) cx hw (c_X5_isWord l g q N (4 : Int32) d x55 g56) (cl_X5_227 cx.1.2.2.2.2 ⟨Nat.le_of_ble_eq_true rfl, Nat.le_of_ble_eq_true rfl⟩) (x_recv cx hw (ci := 5) rfl 0 rfl) (Ct.all (MC_ll ..)) hl.1 rfl rfl (Nat.le_of_ble_eq_true rfl) dX5_kindHere_195 ⟨Nat.le_of_ble_eq_true rfl, Nat.le_of_ble_eq_true rfl⟩ (st1 := [.int x55]) rfl (fun H locs hw => ?_)
    refine lv_if_eq (tgt := 233) hx hb dX5_kindHere_198 (by decide) (fun c57 => ?_) (fun c57 => ?_)
    · replace h := ite_t c57 h
      refine lv_iconst (v := -1) hx hb dX5_kindHere_233 (by decide) ?_
      exact r_i cx hr hlocks hw (sm_eq h) rfl dX5_kindHere_234
    · replace h := ite_f c57 h
      refine lv_aload_n hx hb dX5_kindHere_201 rfl (lv_at hl 0 rfl) ?_
      refine lv_iconst (v := 0) hx hb dX5_kindHere_202 (by decide) ?_
      refine lv_bipush (v := 116) hx hb dX5_kindHere_203 (by decide) ?_
      refine lv_bipush (v := 119) hx hb dX5_kindHere_205 (by decide) ?_
      refine lv_bipush (v := 105) hx hb dX5_kindHere_207 (by decide) ?_
      obtain ⟨x58, g59, h⟩ := bd_ex h
      refine c_V (As := [.int (0 : Int32), .int (116 : Int32), .int (119 : Int32), .int (105 : Int32)]) (rest := []) (w' := (MC g q d)) cx hw (c_X5_has3 l g q N (0 : Int32) (116 : Int32) (119 : Int32) (105 : Int32) d x58 g59) (cl_X5_230 cx.1.2.2.2.2 ⟨Nat.le_of_ble_eq_true rfl, Nat.le_of_ble_eq_true rfl⟩) (x_recv cx hw (ci := 5) rfl 0 rfl) (Ct.all (MC_ll ..)) hl.1 rfl rfl (Nat.le_of_ble_eq_true rfl) dX5_kindHere_209 ⟨Nat.le_of_ble_eq_true rfl, Nat.le_of_ble_eq_true rfl⟩ (st1 := [.int x58]) rfl (fun H locs hw => ?_)
      refine lv_if_eq (tgt := 233) hx hb dX5_kindHere_212 (by decide) (fun c60 => ?_) (fun c60 => ?_)
      · replace h := ite_t c60 h
        refine lv_iconst (v := -1) hx hb dX5_kindHere_233 (by decide) ?_
        exact r_i cx hr hlocks hw (sm_eq h) rfl dX5_kindHere_234
      · replace h := ite_f c60 h
        refine lv_aload_n hx hb dX5_kindHere_215 rfl (lv_at hl 0 rfl) ?_
        refine lv_iconst (v := 1) hx hb dX5_kindHere_216 (by decide) ?_
        refine lv_bipush (v := 119) hx hb dX5_kindHere_217 (by decide) ?_
        refine lv_bipush (v := 105) hx hb dX5_kindHere_219 (by decide) ?_
        refine lv_bipush (v := 110) hx hb dX5_kindHere_221 (by decide) ?_
        obtain ⟨x61, g62, h⟩ := bd_ex h
        refine c_V (As := [.int (1 : Int32), .int (119 : Int32), .int (105 : Int32), .int (110 : Int32)]) (rest := []) (w' := (MC g q d)) cx hw (c_X5_has3 l g q N (1 : Int32) (119 : Int32) (105 : Int32) (110 : Int32) d x61 g62) (cl_X5_230 cx.1.2.2.2.2 ⟨Nat.le_of_ble_eq_true rfl, Nat.le_of_ble_eq_true rfl⟩) (x_recv cx hw (ci := 5) rfl 0 rfl) (Ct.all (MC_ll ..)) hl.1 rfl rfl (Nat.le_of_ble_eq_true rfl) dX5_kindHere_223 ⟨Nat.le_of_ble_eq_true rfl, Nat.le_of_ble_eq_true rfl⟩ (st1 := [.int x61]) rfl (fun H locs hw => ?_)
        refine lv_if_eq (tgt := 233) hx hb dX5_kindHere_226 (by decide) (fun c63 => ?_) (fun c63 => ?_)
        · replace h := ite_t c63 h
          refine lv_iconst (v := -1) hx hb dX5_kindHere_233 (by decide) ?_
          exact r_i cx hr hlocks hw (sm_eq h) rfl dX5_kindHere_234
        · replace h := ite_f c63 h
          refine lv_iconst (v := 5) hx hb dX5_kindHere_229 (by decide) ?_
          refine lv_goto (tgt := 234) hx hb dX5_kindHere_230 (by decide) ?_
          exact r_i cx hr hlocks hw (sm_eq h) rfl dX5_kindHere_234
  have J155 : ∀  (H : Heap) (locs : List Loc) (ls : Array Slot), Wd g (va_A ((MC g q d)) s.heap.size) ((MC g q d)) s H locs → lv_has ls 1 [(0, .ref (q 0))] → f_X5_kindHere_J155 N d   = some r → W p l e rm_X5_kindHere s m ([.ref (q 0)] : List Value).toArray below meth c H locs 0 0 (MQ below (QO (some (.int r)) g ((MC g q d)) (va_A ((MC g q d)) s.heap.size)) ([.ref (q 0)] : List Value).toArray s 0 0 (va_A ((MC g q d)) s.heap.size)) (F0 m 155 ls []) := by
    intro  H locs ls hw hl h
    unfold f_X5_kindHere_J155 at h
    refine lv_aload_n hx hb dX5_kindHere_155 rfl (lv_at hl 0 rfl) ?_
    refine lv_iconst (v := 5) hx hb dX5_kindHere_156 (by decide) ?_
    obtain ⟨x64, g65, h⟩ := bd_ex h
    refine c_V (As := [.int (5 : Int32)]) (rest := []) (w' := (MC g q d)) cx hw (c_X5_isWord l g q N (5 : Int32) d x64 g65) (cl_X5_227 cx.1.2.2.2.2 ⟨Nat.le_of_ble_eq_true rfl, Nat.le_of_ble_eq_true rfl⟩) (x_recv cx hw (ci := 5) rfl 0 rfl) (Ct.all (MC_ll ..)) hl.1 rfl rfl (Nat.le_of_ble_eq_true rfl) dX5_kindHere_157 ⟨Nat.le_of_ble_eq_true rfl, Nat.le_of_ble_eq_true rfl⟩ (st1 := [.int x64]) rfl (fun H locs hw => ?_)
    refine lv_if_eq (tgt := 193) hx hb dX5_kindHere_160 (by decide) (fun c66 => ?_) (fun c66 => ?_)
    · replace h := ite_t c66 h
      exact J193  _ _ _ hw (lv_sub hl [0] rfl) h
    · replace h := ite_f c66 h
      refine lv_aload_n hx hb dX5_kindHere_163 rfl (lv_at hl 0 rfl) ?_
      refine lv_iconst (v := 0) hx hb dX5_kindHere_164 (by decide) ?_
      refine lv_bipush (v := 115) hx hb dX5_kindHere_165 (by decide) ?_
      refine lv_bipush (v := 119) hx hb dX5_kindHere_167 (by decide) ?_
      refine lv_bipush (v := 111) hx hb dX5_kindHere_169 (by decide) ?_
      obtain ⟨x67, g68, h⟩ := bd_ex h
      refine c_V (As := [.int (0 : Int32), .int (115 : Int32), .int (119 : Int32), .int (111 : Int32)]) (rest := []) (w' := (MC g q d)) cx hw (c_X5_has3 l g q N (0 : Int32) (115 : Int32) (119 : Int32) (111 : Int32) d x67 g68) (cl_X5_230 cx.1.2.2.2.2 ⟨Nat.le_of_ble_eq_true rfl, Nat.le_of_ble_eq_true rfl⟩) (x_recv cx hw (ci := 5) rfl 0 rfl) (Ct.all (MC_ll ..)) hl.1 rfl rfl (Nat.le_of_ble_eq_true rfl) dX5_kindHere_171 ⟨Nat.le_of_ble_eq_true rfl, Nat.le_of_ble_eq_true rfl⟩ (st1 := [.int x67]) rfl (fun H locs hw => ?_)
      refine lv_if_eq (tgt := 193) hx hb dX5_kindHere_174 (by decide) (fun c69 => ?_) (fun c69 => ?_)
      · replace h := ite_t c69 h
        exact J193  _ _ _ hw (lv_sub hl [0] rfl) h
      · replace h := ite_f c69 h
        refine lv_aload_n hx hb dX5_kindHere_177 rfl (lv_at hl 0 rfl) ?_
        refine lv_iconst (v := 2) hx hb dX5_kindHere_178 (by decide) ?_
        refine lv_bipush (v := 111) hx hb dX5_kindHere_179 (by decide) ?_
        refine lv_bipush (v := 114) hx hb dX5_kindHere_181 (by decide) ?_
        refine lv_bipush (v := 110) hx hb dX5_kindHere_183 (by decide) ?_
        obtain ⟨x70, g71, h⟩ := bd_ex h
        refine c_V (As := [.int (2 : Int32), .int (111 : Int32), .int (114 : Int32), .int (110 : Int32)]) (rest := []) (w' := (MC g q d)) cx hw (c_X5_has3 l g q N (2 : Int32) (111 : Int32) (114 : Int32) (110 : Int32) d x70 g71) (cl_X5_230 cx.1.2.2.2.2 ⟨Nat.le_of_ble_eq_true rfl, Nat.le_of_ble_eq_true rfl⟩) (x_recv cx hw (ci := 5) rfl 0 rfl) (Ct.all (MC_ll ..)) hl.1 rfl rfl (Nat.le_of_ble_eq_true rfl) dX5_kindHere_185 ⟨Nat.le_of_ble_eq_true rfl, Nat.le_of_ble_eq_true rfl⟩ (st1 := [.int x70]) rfl (fun H locs hw => ?_)
        refine lv_if_eq (tgt := 193) hx hb dX5_kindHere_188 (by decide) (fun c72 => ?_) (fun c72 => ?_)
        · replace h := ite_t c72 h
          exact J193  _ _ _ hw (lv_sub hl [0] rfl) h
        · replace h := ite_f c72 h
          refine lv_iconst (v := 4) hx hb dX5_kindHere_191 (by decide) ?_
          exact r_i cx hr hlocks hw (sm_eq h) rfl dX5_kindHere_192
  have J131 : ∀  (H : Heap) (locs : List Loc) (ls : Array Slot), Wd g (va_A ((MC g q d)) s.heap.size) ((MC g q d)) s H locs → lv_has ls 1 [(0, .ref (q 0))] → f_X5_kindHere_J131 N d   = some r → W p l e rm_X5_kindHere s m ([.ref (q 0)] : List Value).toArray below meth c H locs 0 0 (MQ below (QO (some (.int r)) g ((MC g q d)) (va_A ((MC g q d)) s.heap.size)) ([.ref (q 0)] : List Value).toArray s 0 0 (va_A ((MC g q d)) s.heap.size)) (F0 m 131 ls []) := by
    intro  H locs ls hw hl h
    unfold f_X5_kindHere_J131 at h
    refine lv_aload_n hx hb dX5_kindHere_131 rfl (lv_at hl 0 rfl) ?_
    refine lv_iconst (v := 3) hx hb dX5_kindHere_132 (by decide) ?_
    obtain ⟨x73, g74, h⟩ := bd_ex h
    refine c_V (As := [.int (3 : Int32)]) (rest := []) (w' := (MC g q d)) cx hw (c_X5_isWord l g q N (3 : Int32) d x73 g74) (cl_X5_227 cx.1.2.2.2.2 ⟨Nat.le_of_ble_eq_true rfl, Nat.le_of_ble_eq_true rfl⟩) (x_recv cx hw (ci := 5) rfl 0 rfl) (Ct.all (MC_ll ..)) hl.1 rfl rfl (Nat.le_of_ble_eq_true rfl) dX5_kindHere_133 ⟨Nat.le_of_ble_eq_true rfl, Nat.le_of_ble_eq_true rfl⟩ (st1 := [.int x73]) rfl (fun H locs hw => ?_)
    refine lv_if_eq (tgt := 155) hx hb dX5_kindHere_136 (by decide) (fun c75 => ?_) (fun c75 => ?_)
    · replace h := ite_t c75 h
      exact J155  _ _ _ hw (lv_sub hl [0] rfl) h
    · replace h := ite_f c75 h
      refine lv_aload_n hx hb dX5_kindHere_139 rfl (lv_at hl 0 rfl) ?_
      refine lv_iconst (v := 0) hx hb dX5_kindHere_140 (by decide) ?_
      refine lv_bipush (v := 107) hx hb dX5_kindHere_141 (by decide) ?_
      refine lv_bipush (v := 105) hx hb dX5_kindHere_143 (by decide) ?_
      refine lv_bipush (v := 110) hx hb dX5_kindHere_145 (by decide) ?_
      obtain ⟨x76, g77, h⟩ := bd_ex h
      refine c_V (As := [.int (0 : Int32), .int (107 : Int32), .int (105 : Int32), .int (110 : Int32)]) (rest := []) (w' := (MC g q d)) cx hw (c_X5_has3 l g q N (0 : Int32) (107 : Int32) (105 : Int32) (110 : Int32) d x76 g77) (cl_X5_230 cx.1.2.2.2.2 ⟨Nat.le_of_ble_eq_true rfl, Nat.le_of_ble_eq_true rfl⟩) (x_recv cx hw (ci := 5) rfl 0 rfl) (Ct.all (MC_ll ..)) hl.1 rfl rfl (Nat.le_of_ble_eq_true rfl) dX5_kindHere_147 ⟨Nat.le_of_ble_eq_true rfl, Nat.le_of_ble_eq_true rfl⟩ (st1 := [.int x76]) rfl (fun H locs hw => ?_)
      refine lv_if_eq (tgt := 155) hx hb dX5_kindHere_150 (by decide) (fun c78 => ?_) (fun c78 => ?_)
      · replace h := ite_t c78 h
        exact J155  _ _ _ hw (lv_sub hl [0] rfl) h
      · replace h := ite_f c78 h
        refine lv_iconst (v := 3) hx hb dX5_kindHere_153 (by decide) ?_
        exact r_i cx hr hlocks hw (sm_eq h) rfl dX5_kindHere_154
  have J78 : ∀  (H : Heap) (locs : List Loc) (ls : Array Slot), Wd g (va_A ((MC g q d)) s.heap.size) ((MC g q d)) s H locs → lv_has ls 1 [(0, .ref (q 0))] → f_X5_kindHere_J78 N d   = some r → W p l e rm_X5_kindHere s m ([.ref (q 0)] : List Value).toArray below meth c H locs 0 0 (MQ below (QO (some (.int r)) g ((MC g q d)) (va_A ((MC g q d)) s.heap.size)) ([.ref (q 0)] : List Value).toArray s 0 0 (va_A ((MC g q d)) s.heap.size)) (F0 m 78 ls []) := by
    intro  H locs ls hw hl h
    unfold f_X5_kindHere_J78 at h
    refine lv_aload_n hx hb dX5_kindHere_78 rfl (lv_at hl 0 rfl) ?_
    refine lv_bipush (v := 7) hx hb dX5_kindHere_79 (by decide) ?_
    obtain ⟨x79, g80, h⟩ := bd_ex h
    refine c_V (As := [.int (7 : Int32)]) (rest := []) (w' := (MC g q d)) cx hw (c_X5_isWord l g q N (7 : Int32) d x79 g80) (cl_X5_227 cx.1.2.2.2.2 ⟨Nat.le_of_ble_eq_true rfl, Nat.le_of_ble_eq_true rfl⟩) (x_recv cx hw (ci := 5) rfl 0 rfl) (Ct.all (MC_ll ..)) hl.1 rfl rfl (Nat.le_of_ble_eq_true rfl) dX5_kindHere_81 ⟨Nat.le_of_ble_eq_true rfl, Nat.le_of_ble_eq_true rfl⟩ (st1 := [.int x79]) rfl (fun H locs hw => ?_)
    refine lv_if_eq (tgt := 131) hx hb dX5_kindHere_84 (by decide) (fun c81 => ?_) (fun c81 => ?_)
    · replace h := ite_t c81 h
      exact J131  _ _ _ hw (lv_sub hl [0] rfl) h
    · replace h := ite_f c81 h
      refine lv_aload_n hx hb dX5_kindHere_87 rfl (lv_at hl 0 rfl) ?_
      refine lv_iconst (v := 0) hx hb dX5_kindHere_88 (by decide) ?_
      refine lv_bipush (v := 115) hx hb dX5_kindHere_89 (by decide) ?_
      refine lv_bipush (v := 104) hx hb dX5_kindHere_91 (by decide) ?_
      refine lv_bipush (v := 117) hx hb dX5_kindHere_93 (by decide) ?_
      obtain ⟨x82, g83, h⟩ := bd_ex h
      refine c_V (As := [.int (0 : Int32), .int (115 : Int32), .int (104 : Int32), .int (117 : Int32)]) (rest := []) (w' := (MC g q d)) cx hw (c_X5_has3 l g q N (0 : Int32) (115 : Int32) (104 : Int32) (117 : Int32) d x82 g83) (cl_X5_230 cx.1.2.2.2.2 ⟨Nat.le_of_ble_eq_true rfl, Nat.le_of_ble_eq_true rfl⟩) (x_recv cx hw (ci := 5) rfl 0 rfl) (Ct.all (MC_ll ..)) hl.1 rfl rfl (Nat.le_of_ble_eq_true rfl) dX5_kindHere_95 ⟨Nat.le_of_ble_eq_true rfl, Nat.le_of_ble_eq_true rfl⟩ (st1 := [.int x82]) rfl (fun H locs hw => ?_)
      refine lv_if_eq (tgt := 131) hx hb dX5_kindHere_98 (by decide) (fun c84 => ?_) (fun c84 => ?_)
      · replace h := ite_t c84 h
        exact J131  _ _ _ hw (lv_sub hl [0] rfl) h
      · replace h := ite_f c84 h
        refine lv_aload_n hx hb dX5_kindHere_101 rfl (lv_at hl 0 rfl) ?_
        refine lv_iconst (v := 3) hx hb dX5_kindHere_102 (by decide) ?_
        refine lv_bipush (v := 110) hx hb dX5_kindHere_103 (by decide) ?_
        refine lv_bipush (v := 110) hx hb dX5_kindHere_105 (by decide) ?_
        refine lv_bipush (v := 101) hx hb dX5_kindHere_107 (by decide) ?_
        obtain ⟨x85, g86, h⟩ := bd_ex h
        refine c_V (As := [.int (3 : Int32), .int (110 : Int32), .int (110 : Int32), .int (101 : Int32)]) (rest := []) (w' := (MC g q d)) cx hw (c_X5_has3 l g q N (3 : Int32) (110 : Int32) (110 : Int32) (101 : Int32) d x85 g86) (cl_X5_230 cx.1.2.2.2.2 ⟨Nat.le_of_ble_eq_true rfl, Nat.le_of_ble_eq_true rfl⟩) (x_recv cx hw (ci := 5) rfl 0 rfl) (Ct.all (MC_ll ..)) hl.1 rfl rfl (Nat.le_of_ble_eq_true rfl) dX5_kindHere_109 ⟨Nat.le_of_ble_eq_true rfl, Nat.le_of_ble_eq_true rfl⟩ (st1 := [.int x85]) rfl (fun H locs hw => ?_)
        refine lv_if_eq (tgt := 131) hx hb dX5_kindHere_112 (by decide) (fun c87 => ?_) (fun c87 => ?_)
        · replace h := ite_t c87 h
          exact J131  _ _ _ hw (lv_sub hl [0] rfl) h
        · replace h := ite_f c87 h
          refine lv_aload_n hx hb dX5_kindHere_115 rfl (lv_at hl 0 rfl) ?_
          refine lv_iconst (v := 4) hx hb dX5_kindHere_116 (by decide) ?_
          refine lv_bipush (v := 110) hx hb dX5_kindHere_117 (by decide) ?_
          refine lv_bipush (v := 101) hx hb dX5_kindHere_119 (by decide) ?_
          refine lv_bipush (v := 114) hx hb dX5_kindHere_121 (by decide) ?_
          obtain ⟨x88, g89, h⟩ := bd_ex h
          refine c_V (As := [.int (4 : Int32), .int (110 : Int32), .int (101 : Int32), .int (114 : Int32)]) (rest := []) (w' := (MC g q d)) cx hw (c_X5_has3 l g q N (4 : Int32) (110 : Int32) (101 : Int32) (114 : Int32) d x88 g89) (cl_X5_230 cx.1.2.2.2.2 ⟨Nat.le_of_ble_eq_true rfl, Nat.le_of_ble_eq_true rfl⟩) (x_recv cx hw (ci := 5) rfl 0 rfl) (Ct.all (MC_ll ..)) hl.1 rfl rfl (Nat.le_of_ble_eq_true rfl) dX5_kindHere_123 ⟨Nat.le_of_ble_eq_true rfl, Nat.le_of_ble_eq_true rfl⟩ (st1 := [.int x88]) rfl (fun H locs hw => ?_)
          refine lv_if_eq (tgt := 131) hx hb dX5_kindHere_126 (by decide) (fun c90 => ?_) (fun c90 => ?_)
          · replace h := ite_t c90 h
            exact J131  _ _ _ hw (lv_sub hl [0] rfl) h
          · replace h := ite_f c90 h
            refine lv_iconst (v := 2) hx hb dX5_kindHere_129 (by decide) ?_
            exact r_i cx hr hlocks hw (sm_eq h) rfl dX5_kindHere_130
  have J39 : ∀  (H : Heap) (locs : List Loc) (ls : Array Slot), Wd g (va_A ((MC g q d)) s.heap.size) ((MC g q d)) s H locs → lv_has ls 1 [(0, .ref (q 0))] → f_X5_kindHere_J39 N d   = some r → W p l e rm_X5_kindHere s m ([.ref (q 0)] : List Value).toArray below meth c H locs 0 0 (MQ below (QO (some (.int r)) g ((MC g q d)) (va_A ((MC g q d)) s.heap.size)) ([.ref (q 0)] : List Value).toArray s 0 0 (va_A ((MC g q d)) s.heap.size)) (F0 m 39 ls []) := by
    intro  H locs ls hw hl h
    unfold f_X5_kindHere_J39 at h
    refine lv_aload_n hx hb dX5_kindHere_39 rfl (lv_at hl 0 rfl) ?_
    refine lv_bipush (v := 6) hx hb dX5_kindHere_40 (by decide) ?_
    obtain ⟨x91, g92, h⟩ := bd_ex h
    refine c_V (As := [.int (6 : Int32)]) (rest := []) (w' := (MC g q d)) cx hw (c_X5_isWord l g q N (6 : Int32) d x91 g92) (cl_X5_227 cx.1.2.2.2.2 ⟨Nat.le_of_ble_eq_true rfl, Nat.le_of_ble_eq_true rfl⟩) (x_recv cx hw (ci := 5) rfl 0 rfl) (Ct.all (MC_ll ..)) hl.1 rfl rfl (Nat.le_of_ble_eq_true rfl) dX5_kindHere_42 ⟨Nat.le_of_ble_eq_true rfl, Nat.le_of_ble_eq_true rfl⟩ (st1 := [.int x91]) rfl (fun H locs hw => ?_)
    refine lv_if_eq (tgt := 78) hx hb dX5_kindHere_45 (by decide) (fun c93 => ?_) (fun c93 => ?_)
    · replace h := ite_t c93 h
      exact J78  _ _ _ hw (lv_sub hl [0] rfl) h
    · replace h := ite_f c93 h
      refine lv_aload_n hx hb dX5_kindHere_48 rfl (lv_at hl 0 rfl) ?_
      refine lv_iconst (v := 0) hx hb dX5_kindHere_49 (by decide) ?_
      refine lv_bipush (v := 99) hx hb dX5_kindHere_50 (by decide) ?_
      refine lv_bipush (v := 111) hx hb dX5_kindHere_52 (by decide) ?_
      refine lv_bipush (v := 112) hx hb dX5_kindHere_54 (by decide) ?_
      obtain ⟨x94, g95, h⟩ := bd_ex h
      refine c_V (As := [.int (0 : Int32), .int (99 : Int32), .int (111 : Int32), .int (112 : Int32)]) (rest := []) (w' := (MC g q d)) cx hw (c_X5_has3 l g q N (0 : Int32) (99 : Int32) (111 : Int32) (112 : Int32) d x94 g95) (cl_X5_230 cx.1.2.2.2.2 ⟨Nat.le_of_ble_eq_true rfl, Nat.le_of_ble_eq_true rfl⟩) (x_recv cx hw (ci := 5) rfl 0 rfl) (Ct.all (MC_ll ..)) hl.1 rfl rfl (Nat.le_of_ble_eq_true rfl) dX5_kindHere_56 ⟨Nat.le_of_ble_eq_true rfl, Nat.le_of_ble_eq_true rfl⟩ (st1 := [.int x94]) rfl (fun H locs hw => ?_)
      refine lv_if_eq (tgt := 78) hx hb dX5_kindHere_59 (by decide) (fun c96 => ?_) (fun c96 => ?_)
      · replace h := ite_t c96 h
        exact J78  _ _ _ hw (lv_sub hl [0] rfl) h
      · replace h := ite_f c96 h
        refine lv_aload_n hx hb dX5_kindHere_62 rfl (lv_at hl 0 rfl) ?_
        refine lv_iconst (v := 3) hx hb dX5_kindHere_63 (by decide) ?_
        refine lv_bipush (v := 105) hx hb dX5_kindHere_64 (by decide) ?_
        refine lv_bipush (v := 101) hx hb dX5_kindHere_66 (by decide) ?_
        refine lv_bipush (v := 114) hx hb dX5_kindHere_68 (by decide) ?_
        obtain ⟨x97, g98, h⟩ := bd_ex h
        refine c_V (As := [.int (3 : Int32), .int (105 : Int32), .int (101 : Int32), .int (114 : Int32)]) (rest := []) (w' := (MC g q d)) cx hw (c_X5_has3 l g q N (3 : Int32) (105 : Int32) (101 : Int32) (114 : Int32) d x97 g98) (cl_X5_230 cx.1.2.2.2.2 ⟨Nat.le_of_ble_eq_true rfl, Nat.le_of_ble_eq_true rfl⟩) (x_recv cx hw (ci := 5) rfl 0 rfl) (Ct.all (MC_ll ..)) hl.1 rfl rfl (Nat.le_of_ble_eq_true rfl) dX5_kindHere_70 ⟨Nat.le_of_ble_eq_true rfl, Nat.le_of_ble_eq_true rfl⟩ (st1 := [.int x97]) rfl (fun H locs hw => ?_)
        refine lv_if_eq (tgt := 78) hx hb dX5_kindHere_73 (by decide) (fun c99 => ?_) (fun c99 => ?_)
        · replace h := ite_t c99 h
          exact J78  _ _ _ hw (lv_sub hl [0] rfl) h
        · replace h := ite_f c99 h
          refine lv_iconst (v := 1) hx hb dX5_kindHere_76 (by decide) ?_
          exact r_i cx hr hlocks hw (sm_eq h) rfl dX5_kindHere_77
  unfold f_X5_kindHere at h
  refine lv_aload_n hx hb dX5_kindHere_0 rfl (lv_at hl 0 rfl) ?_
  refine lv_bipush (v := 6) hx hb dX5_kindHere_1 (by decide) ?_
  obtain ⟨x1, g2, h⟩ := bd_ex h
  refine c_V (As := [.int (6 : Int32)]) (rest := []) (w' := (MC g q d)) cx hw (c_X5_isWord l g q N (6 : Int32) d x1 g2) (cl_X5_227 cx.1.2.2.2.2 ⟨Nat.le_of_ble_eq_true rfl, Nat.le_of_ble_eq_true rfl⟩) (x_recv cx hw (ci := 5) rfl 0 rfl) (Ct.all (MC_ll ..)) hl.1 rfl rfl (Nat.le_of_ble_eq_true rfl) dX5_kindHere_3 ⟨Nat.le_of_ble_eq_true rfl, Nat.le_of_ble_eq_true rfl⟩ (st1 := [.int x1]) rfl (fun H locs hw => ?_)
  refine lv_if_eq (tgt := 39) hx hb dX5_kindHere_6 (by decide) (fun c3 => ?_) (fun c3 => ?_)
  · replace h := ite_t c3 h
    exact J39  _ _ _ hw (lv_sub hl [0] rfl) h
  · replace h := ite_f c3 h
    refine lv_aload_n hx hb dX5_kindHere_9 rfl (lv_at hl 0 rfl) ?_
    refine lv_iconst (v := 0) hx hb dX5_kindHere_10 (by decide) ?_
    refine lv_bipush (v := 112) hx hb dX5_kindHere_11 (by decide) ?_
    refine lv_bipush (v := 101) hx hb dX5_kindHere_13 (by decide) ?_
    refine lv_bipush (v := 114) hx hb dX5_kindHere_15 (by decide) ?_
    obtain ⟨x4, g5, h⟩ := bd_ex h
    refine c_V (As := [.int (0 : Int32), .int (112 : Int32), .int (101 : Int32), .int (114 : Int32)]) (rest := []) (w' := (MC g q d)) cx hw (c_X5_has3 l g q N (0 : Int32) (112 : Int32) (101 : Int32) (114 : Int32) d x4 g5) (cl_X5_230 cx.1.2.2.2.2 ⟨Nat.le_of_ble_eq_true rfl, Nat.le_of_ble_eq_true rfl⟩) (x_recv cx hw (ci := 5) rfl 0 rfl) (Ct.all (MC_ll ..)) hl.1 rfl rfl (Nat.le_of_ble_eq_true rfl) dX5_kindHere_17 ⟨Nat.le_of_ble_eq_true rfl, Nat.le_of_ble_eq_true rfl⟩ (st1 := [.int x4]) rfl (fun H locs hw => ?_)
    refine lv_if_eq (tgt := 39) hx hb dX5_kindHere_20 (by decide) (fun c6 => ?_) (fun c6 => ?_)
    · replace h := ite_t c6 h
      exact J39  _ _ _ hw (lv_sub hl [0] rfl) h
    · replace h := ite_f c6 h
      refine lv_aload_n hx hb dX5_kindHere_23 rfl (lv_at hl 0 rfl) ?_
      refine lv_iconst (v := 3) hx hb dX5_kindHere_24 (by decide) ?_
      refine lv_bipush (v := 115) hx hb dX5_kindHere_25 (by decide) ?_
      refine lv_bipush (v := 111) hx hb dX5_kindHere_27 (by decide) ?_
      refine lv_bipush (v := 110) hx hb dX5_kindHere_29 (by decide) ?_
      obtain ⟨x7, g8, h⟩ := bd_ex h
      refine c_V (As := [.int (3 : Int32), .int (115 : Int32), .int (111 : Int32), .int (110 : Int32)]) (rest := []) (w' := (MC g q d)) cx hw (c_X5_has3 l g q N (3 : Int32) (115 : Int32) (111 : Int32) (110 : Int32) d x7 g8) (cl_X5_230 cx.1.2.2.2.2 ⟨Nat.le_of_ble_eq_true rfl, Nat.le_of_ble_eq_true rfl⟩) (x_recv cx hw (ci := 5) rfl 0 rfl) (Ct.all (MC_ll ..)) hl.1 rfl rfl (Nat.le_of_ble_eq_true rfl) dX5_kindHere_31 ⟨Nat.le_of_ble_eq_true rfl, Nat.le_of_ble_eq_true rfl⟩ (st1 := [.int x7]) rfl (fun H locs hw => ?_)
      refine lv_if_eq (tgt := 39) hx hb dX5_kindHere_34 (by decide) (fun c9 => ?_) (fun c9 => ?_)
      · replace h := ite_t c9 h
        exact J39  _ _ _ hw (lv_sub hl [0] rfl) h
      · replace h := ite_f c9 h
        refine lv_iconst (v := 0) hx hb dX5_kindHere_37 (by decide) ?_
        exact r_i cx hr hlocks hw (sm_eq h) rfl dX5_kindHere_38
