def f_X5_isIn (N : Nat)  (p0 : Int64) (p2 : Int64) (p4 : Int64)  : Option (Int32) :=
  if (lg_cmp p0 p2) < 0 then
    some (0 : Int32)
  else
    if 0 < (lg_cmp p0 p4) then
      some (0 : Int32)
    else
      some (1 : Int32)
def f_X5_finds (N : Nat)  (p1 : Int32) (d : MD) : Option (Int32 × MD) :=
  (rd (m_findings d) 8 (0 : Int32)).bind fun x1 =>
  (ck (0 : Int32) 8).bind fun _ =>
  lt (m_set_findings d (upd (m_findings d) ((0 : Int32)).toNatClampNeg (x1 + (1 : Int32)))) fun d3 =>
  (rd (m_findings d3) 8 (((-1000000001 : Int32) - p1) + (1 : Int32))).bind fun x4 =>
  (ck (((-1000000001 : Int32) - p1) + (1 : Int32)) 8).bind fun _ =>
  lt (m_set_findings d3 (upd (m_findings d3) ((((-1000000001 : Int32) - p1) + (1 : Int32))).toNatClampNeg (x4 + (1 : Int32)))) fun d6 =>
  some (p1, d6)
def f_X5_becomes (N : Nat)  (p1 : Int32) (p2 : Int32) (d : MD) : Option (Int32 × MD) :=
  (rd (m_s d) 201 p1).bind fun x1 =>
  (ck p1 201).bind fun _ =>
  lt (m_set_s d (upd (m_s d) (p1).toNatClampNeg p2)) fun d3 =>
  some (x1, d3)
def f_X5_is (N : Nat)  (p1 : Int32) (p2 : Int32) (d : MD) : Option (Int32) :=
  (rd (m_s d) 201 (((21 : Int32) + ((15 : Int32) * p1)) + p2)).bind fun x1 =>
  some x1
def f_X5_puts (N : Nat)  (p1 : Int32) (p2 : Int32) (p3 : Int32) (d : MD) : Option (MD) :=
  (ck (((21 : Int32) + ((15 : Int32) * p1)) + p2) 201).bind fun _ =>
  lt (m_set_s d (upd (m_s d) ((((21 : Int32) + ((15 : Int32) * p1)) + p2)).toNatClampNeg p3)) fun d2 =>
  some d2
def f_X5_isOne (N : Nat)  (p1 : Int32) (d : MD) : Option (Int32) :=
  if p1 < 0 then
    some (0 : Int32)
  else
    (rd (m_s d) 201 (0 : Int32)).bind fun x2 =>
    if x2 ≤ p1 then
      some (0 : Int32)
    else
      some (1 : Int32)
def f_X5_areTwo (N : Nat)  (p1 : Int32) (p2 : Int32) (d : MD) : Option (Int32) :=
  (f_X5_isOne N p1 d).bind fun x1 =>
  if x1 = 0 then
    some (0 : Int32)
  else
    (f_X5_isOne N p2 d).bind fun x4 =>
    if x4 = 0 then
      some (0 : Int32)
    else
      if p1 = p2 then
        some (0 : Int32)
      else
        some (1 : Int32)
def f_X5_lives (N : Nat)  (p1 : Int32) (d : MD) : Option (Int32) :=
  (f_X5_is N p1 (5 : Int32) d).bind fun x1 =>
  if x1 = (1 : Int32) then
    some (1 : Int32)
  else
    some (0 : Int32)
def f_X5_isMark (N : Nat)  (p0 : Int32)  : Option (Int32) :=
  if p0 < 0 then
    some (0 : Int32)
  else
    if (9 : Int32) ≤ p0 then
      some (0 : Int32)
    else
      some (1 : Int32)
def f_X5_isFar (N : Nat)  (p1 : Int32) (d : MD) : Option (Int32) :=
  (rd (m_s d) 201 (1 : Int32)).bind fun x1 =>
  if (x1 + p1) ≤ (9999 : Int32) then
    some (0 : Int32)
  else
    some (1 : Int32)
def f_X5_copyRow_L2 (N : Nat) (f : (Nat → Int32))  : Nat → Int32 → (Nat → Int32) → Option ((Nat → Int32))
  | 0, _, _ => none
  | n2 + 1, a2, f2_ =>
  if (201 : Int32) ≤ a2 then
    some f2_
  else
    (rd f 201 a2).bind fun x2 =>
    (ck a2 201).bind fun _ =>
    lt (upd f2_ (a2).toNatClampNeg x2) fun f24 =>
    lt (a2 + 1) fun x5 =>
    f_X5_copyRow_L2 N f  n2 x5 f24
def f_X5_copyRow (N : Nat)   (f : (Nat → Int32)) (f2 : (Nat → Int32)) : Option ((Nat → Int32)) :=
  f_X5_copyRow_L2 N f  N (0 : Int32) f2
def f_X5_mark_J33 (N : Nat)   (a1 : Int32) (a2 : Int32) (a3 : Int32) (t0 : Int64) (t1 : Int64) (t2 : Int64) (d_ : MD) : Option (Int32 × MD) :=
  (f_X5_isIn N t0 t1 t2).bind fun x14 =>
  if x14 = 0 then
    bd2 (f_X5_finds N (-1000000001 : Int32) d_) fun x24 d25 =>
    some (x24, d25)
  else
    if a2 = 0 then
      bd2 (f_X5_becomes N ((3 : Int32) + a1) a3 d_) fun x21 d22 =>
      some (x21, d22)
    else
      bd2 (f_X5_becomes N ((12 : Int32) + a1) a3 d_) fun x18 d19 =>
      some (x18, d19)
def f_X5_mark (N : Nat)  (p1 : Int32) (p2 : Int32) (p3 : Int32) (d : MD) : Option (Int32 × MD) :=
  (f_X5_isMark N p1).bind fun x1 =>
  if x1 = 0 then
    bd2 (f_X5_finds N (-1000000001 : Int32) d) fun x4 d5 =>
    some (x4, d5)
  else
    (f_X5_isIn N ((p2).toInt64) (0 : Int64) (1 : Int64)).bind fun x7 =>
    if x7 = 0 then
      bd2 (f_X5_finds N (-1000000001 : Int32) d) fun x10 d11 =>
      some (x10, d11)
    else
      if p2 = 0 then
        f_X5_mark_J33 N   p1 p2 p3 ((p3).toInt64) (0 : Int64) (9 : Int64) d
      else
        f_X5_mark_J33 N   p1 p2 p3 ((p3).toInt64) (0 : Int64) (99 : Int64) d
def f_X5_let (N : Nat)  (p1 : Int32) (d : MD) : Option (Int32 × MD) :=
  (f_X5_isIn N ((p1).toInt64) (0 : Int64) (2 : Int64)).bind fun x1 =>
  if x1 = 0 then
    bd2 (f_X5_finds N (-1000000001 : Int32) d) fun x4 d5 =>
    some (x4, d5)
  else
    bd2 (f_X5_becomes N (2 : Int32) p1 d) fun x7 d8 =>
    some (x7, d8)
def f_X5_comes_L20 (N : Nat)   : Nat → Int32 → Int32 → Int32 → Int32 → MD → Option (Int32 × MD)
  | 0, _, _, _, _, _ => none
  | n20 + 1, a1, a2, a3, a4, d_ =>
  if (9 : Int32) ≤ a4 then
    (f_X5_puts N a3 (0 : Int32) a1 d_).bind fun d6 =>
    (f_X5_puts N a3 (1 : Int32) a2 d6).bind fun d8 =>
    (f_X5_puts N a3 (2 : Int32) (10 : Int32) d8).bind fun d10 =>
    (f_X5_puts N a3 (3 : Int32) (70 : Int32) d10).bind fun d12 =>
    (f_X5_puts N a3 (4 : Int32) (-1 : Int32) d12).bind fun d14 =>
    (f_X5_puts N a3 (5 : Int32) (1 : Int32) d14).bind fun d16 =>
    some (a3, d16)
  else
    (f_X5_puts N a3 ((6 : Int32) + a4) (0 : Int32) d_).bind fun d18 =>
    lt (a4 + 1) fun x20 =>
    f_X5_comes_L20 N   n20 a1 a2 a3 x20 d18
def f_X5_comes (N : Nat)  (p1 : Int32) (p2 : Int32) (d : MD) : Option (Int32 × MD) :=
  (rd (m_s d) 201 (0 : Int32)).bind fun x1 =>
  (rd (m_s d) 201 (0 : Int32)).bind fun x2 =>
  (ck (0 : Int32) 201).bind fun _ =>
  lt (m_set_s d (upd (m_s d) ((0 : Int32)).toNatClampNeg (x2 + (1 : Int32)))) fun d4 =>
  f_X5_comes_L20 N   N p1 p2 x1 (0 : Int32) d4
def f_X5_person (N : Nat)  (p1 : Int32) (p2 : Int32) (d : MD) : Option (Int32 × MD) :=
  (f_X5_isIn N ((p1).toInt64) (0 : Int64) (5 : Int64)).bind fun x1 =>
  if x1 = 0 then
    bd2 (f_X5_finds N (-1000000001 : Int32) d) fun x4 d5 =>
    some (x4, d5)
  else
    (f_X5_isIn N ((p2).toInt64) (0 : Int64) (120 : Int64)).bind fun x7 =>
    if x7 = 0 then
      bd2 (f_X5_finds N (-1000000001 : Int32) d) fun x18 d19 =>
      some (x18, d19)
    else
      (rd (m_s d) 201 (0 : Int32)).bind fun x10 =>
      if x10 = (12 : Int32) then
        bd2 (f_X5_finds N (-1000000002 : Int32) d) fun x15 d16 =>
        some (x15, d16)
      else
        bd2 (f_X5_comes N p1 p2 d) fun x12 d13 =>
        some (x12, d13)
def f_X5_richestBut_J51 (N : Nat) (d : MD) (K4 : Int32 → Int32 → Int32 → Option (Int32)) (a1 : Int32) (a2 : Int32) (a3 : Int32) (t0 : Int32) : Option (Int32) :=
  if t0 = 0 then
    lt (a3 + 1) fun x14 =>
    K4 a1 a2 x14
  else
    lt (a3 + 1) fun x15 =>
    K4 a1 a3 x15
def f_X5_richestBut_J50 (N : Nat) (d : MD) (K4 : Int32 → Int32 → Int32 → Option (Int32)) (a1 : Int32) (a2 : Int32) (a3 : Int32) : Option (Int32) :=
  f_X5_richestBut_J51 N d K4 a1 a2 a3 (0 : Int32)
def f_X5_richestBut_J46 (N : Nat) (d : MD) (K4 : Int32 → Int32 → Int32 → Option (Int32)) (a1 : Int32) (a2 : Int32) (a3 : Int32) : Option (Int32) :=
  f_X5_richestBut_J51 N d K4 a1 a2 a3 (1 : Int32)
def f_X5_richestBut_L4 (N : Nat) (d : MD)  : Nat → Int32 → Int32 → Int32 → Option (Int32)
  | 0, _, _, _ => none
  | n4 + 1, a1, a2, a3 =>
  (rd (m_s d) 201 (0 : Int32)).bind fun x1 =>
  if x1 ≤ a3 then
    some a2
  else
    if a3 = a1 then
      f_X5_richestBut_J50 N d (f_X5_richestBut_L4 N d  n4) a1 a2 a3
    else
      (f_X5_lives N a3 d).bind fun x4 =>
      if x4 = 0 then
        f_X5_richestBut_J50 N d (f_X5_richestBut_L4 N d  n4) a1 a2 a3
      else
        if a2 < 0 then
          f_X5_richestBut_J46 N d (f_X5_richestBut_L4 N d  n4) a1 a2 a3
        else
          (f_X5_is N a3 (2 : Int32) d).bind fun x8 =>
          (f_X5_is N a2 (2 : Int32) d).bind fun x10 =>
          if x8 ≤ x10 then
            f_X5_richestBut_J50 N d (f_X5_richestBut_L4 N d  n4) a1 a2 a3
          else
            f_X5_richestBut_J46 N d (f_X5_richestBut_L4 N d  n4) a1 a2 a3
def f_X5_richestBut (N : Nat)  (p1 : Int32) (d : MD) : Option (Int32) :=
  f_X5_richestBut_L4 N d  N p1 (-1 : Int32) (0 : Int32)
def f_X5_childOf (N : Nat)  (p1 : Int32) (d : MD) : Option (Int32) :=
  (f_X5_is N p1 (4 : Int32) d).bind fun x1 =>
  if x1 < 0 then
    some (-1 : Int32)
  else
    (f_X5_lives N x1 d).bind fun x4 =>
    if x4 = 0 then
      some (-1 : Int32)
    else
      some x1
def f_X5_likeOf_J81 (N : Nat) (d : MD) (K29 : Int32 → Int32 → Int32 → Int32 → Option (Int32)) (a1 : Int32) (a2 : Int32) (a3 : Int32) (a4 : Int32) (t0 : Int32) : Option (Int32) :=
  if t0 = 0 then
    lt (a3 + (0 : Int32)) fun x17 =>
    lt (a4 + 1) fun x18 =>
    K29 a1 a2 x17 x18
  else
    (rd (m_s d) 201 ((3 : Int32) + a4)).bind fun x19 =>
    lt (a3 + x19) fun x20 =>
    lt (a4 + 1) fun x21 =>
    K29 a1 a2 x20 x21
def f_X5_likeOf_J80 (N : Nat) (d : MD) (K29 : Int32 → Int32 → Int32 → Int32 → Option (Int32)) (a1 : Int32) (a2 : Int32) (a3 : Int32) (a4 : Int32) : Option (Int32) :=
  f_X5_likeOf_J81 N d K29 a1 a2 a3 a4 (0 : Int32)
def f_X5_likeOf_J76 (N : Nat) (d : MD) (K29 : Int32 → Int32 → Int32 → Int32 → Option (Int32)) (a1 : Int32) (a2 : Int32) (a3 : Int32) (a4 : Int32) : Option (Int32) :=
  f_X5_likeOf_J81 N d K29 a1 a2 a3 a4 (1 : Int32)
def f_X5_likeOf_L29 (N : Nat) (d : MD)  : Nat → Int32 → Int32 → Int32 → Int32 → Option (Int32)
  | 0, _, _, _, _ => none
  | n29 + 1, a1, a2, a3, a4 =>
  if (9 : Int32) ≤ a4 then
    some a3
  else
    (f_X5_is N a1 ((6 : Int32) + a4) d).bind fun x7 =>
    (f_X5_is N a2 ((6 : Int32) + a4) d).bind fun x9 =>
    if x7 = x9 then
      f_X5_likeOf_J76 N d (f_X5_likeOf_L29 N d  n29) a1 a2 a3 a4
    else
      if a4 = (8 : Int32) then
        (f_X5_is N a2 (0 : Int32) d).bind fun x13 =>
        if x13 = (4 : Int32) then
          f_X5_likeOf_J76 N d (f_X5_likeOf_L29 N d  n29) a1 a2 a3 a4
        else
          f_X5_likeOf_J80 N d (f_X5_likeOf_L29 N d  n29) a1 a2 a3 a4
      else
        f_X5_likeOf_J80 N d (f_X5_likeOf_L29 N d  n29) a1 a2 a3 a4
def f_X5_likeOf (N : Nat)  (p1 : Int32) (p2 : Int32) (d : MD) : Option (Int32) :=
  (rd (m_s d) 201 (2 : Int32)).bind fun x1 =>
  if x1 = (1 : Int32) then
    (f_X5_is N p1 (4 : Int32) d).bind fun x3 =>
    if x3 = p2 then
      f_X5_likeOf_L29 N d  N p1 p2 (5 : Int32) (0 : Int32)
    else
      f_X5_likeOf_L29 N d  N p1 p2 (0 : Int32) (0 : Int32)
  else
    f_X5_likeOf_L29 N d  N p1 p2 (0 : Int32) (0 : Int32)
def f_X5_heirBut_J62 (N : Nat) (d : MD) (K5 : Int32 → Int32 → Int32 → Int32 → Option (Int32)) (a1 : Int32) (a2 : Int32) (a3 : Int32) (a4 : Int32) (t0 : Int32) : Option (Int32) :=
  if 0 < t0 then
    lt (a4 + 1) fun x17 =>
    K5 a1 a2 a4 x17
  else
    if t0 = 0 then
      (f_X5_is N a4 (1 : Int32) d).bind fun x20 =>
      (f_X5_is N a3 (1 : Int32) d).bind fun x22 =>
      if x20 ≤ x22 then
        lt (a4 + 1) fun x25 =>
        K5 a1 a2 a3 x25
      else
        lt (a4 + 1) fun x26 =>
        K5 a1 a2 a4 x26
    else
      lt (a4 + 1) fun x19 =>
      K5 a1 a2 a3 x19
def f_X5_heirBut_L5 (N : Nat) (d : MD)  : Nat → Int32 → Int32 → Int32 → Int32 → Option (Int32)
  | 0, _, _, _, _ => none
  | n5 + 1, a1, a2, a3, a4 =>
  (rd (m_s d) 201 (0 : Int32)).bind fun x1 =>
  if x1 ≤ a4 then
    some a3
  else
    if a4 = a1 then
      lt (a4 + 1) fun x4 =>
      f_X5_heirBut_L5 N d  n5 a1 a2 a3 x4
    else
      if a4 = a2 then
        lt (a4 + 1) fun x6 =>
        f_X5_heirBut_L5 N d  n5 a1 a2 a3 x6
      else
        (f_X5_lives N a4 d).bind fun x7 =>
        if x7 = 0 then
          lt (a4 + 1) fun x15 =>
          f_X5_heirBut_L5 N d  n5 a1 a2 a3 x15
        else
          if 0 ≤ a3 then
            (f_X5_likeOf N a1 a4 d).bind fun x11 =>
            (f_X5_likeOf N a1 a3 d).bind fun x13 =>
            f_X5_heirBut_J62 N d (f_X5_heirBut_L5 N d  n5) a1 a2 a3 a4 (x11 - x13)
          else
            f_X5_heirBut_J62 N d (f_X5_heirBut_L5 N d  n5) a1 a2 a3 a4 (1 : Int32)
def f_X5_heirBut (N : Nat)  (p1 : Int32) (p2 : Int32) (d : MD) : Option (Int32) :=
  f_X5_heirBut_L5 N d  N p1 p2 (-1 : Int32) (0 : Int32)
def f_X5_heirFor (N : Nat)  (p1 : Int32) (d : MD) : Option (Int32) :=
  (f_X5_heirBut N p1 p1 d).bind fun x1 =>
  some x1
def f_X5_aimOf (N : Nat)  (p1 : Int32) (d : MD) : Option (Int32) :=
  (f_X5_is N p1 (0 : Int32) d).bind fun x1 =>
  if x1 = 1 then
    (f_X5_richestBut N p1 d).bind fun x4 =>
    some x4
  else
    if x1 = 2 then
      some (-1 : Int32)
    else
      if x1 = 3 then
        (f_X5_childOf N p1 d).bind fun x8 =>
        some x8
      else
        if x1 = 4 then
          (f_X5_richestBut N p1 d).bind fun x11 =>
          some x11
        else
          if x1 = 5 then
            (f_X5_childOf N p1 d).bind fun x14 =>
            if 0 ≤ x14 then
              (f_X5_childOf N p1 d).bind fun x17 =>
              some x17
            else
              (f_X5_heirFor N p1 d).bind fun x19 =>
              some x19
          else
            some (-1 : Int32)
def f_X5_of (N : Nat)  (p1 : Int32) (p2 : Int32) (d : MD) : Option (Int32 × MD) :=
  (f_X5_isOne N p1 d).bind fun x1 =>
  if x1 = 0 then
    bd2 (f_X5_finds N (-1000000001 : Int32) d) fun x4 d5 =>
    some (x4, d5)
  else
    (f_X5_isIn N ((p2).toInt64) (0 : Int64) (6 : Int64)).bind fun x7 =>
    if x7 = 0 then
      bd2 (f_X5_finds N (-1000000001 : Int32) d) fun x15 d16 =>
      some (x15, d16)
    else
      if p2 = (6 : Int32) then
        (f_X5_aimOf N p1 d).bind fun x13 =>
        some (x13, d)
      else
        (f_X5_is N p1 p2 d).bind fun x11 =>
        some (x11, d)
def f_X5_mayBe (N : Nat)  (p1 : Int32) (p2 : Int32) (p3 : Int32) (d : MD) : Option (Int32) :=
  if p2 = 1 then
    (f_X5_isIn N ((p3).toInt64) (0 : Int64) (120 : Int64)).bind fun x2 =>
    (ckz x2).bind fun _ =>
    some x2
  else
    if p2 = 2 then
      (f_X5_isIn N ((p3).toInt64) (0 : Int64) (999999 : Int64)).bind fun x6 =>
      (ckz x6).bind fun _ =>
      some x6
    else
      if p2 = 3 then
        (f_X5_isIn N ((p3).toInt64) (1 : Int64) (120 : Int64)).bind fun x10 =>
        (ckz x10).bind fun _ =>
        some x10
      else
        if p2 = 4 then
          if p3 = (-1 : Int32) then
            some (1 : Int32)
          else
            (f_X5_areTwo N p1 p3 d).bind fun x15 =>
            if x15 = 0 then
              some (0 : Int32)
            else
              some (1 : Int32)
        else
          if p2 = 5 then
            (f_X5_isIn N ((p3).toInt64) (0 : Int64) (1 : Int64)).bind fun x19 =>
            (ckz x19).bind fun _ =>
            some x19
          else
            some (0 : Int32)
def f_X5_set (N : Nat)  (p1 : Int32) (p2 : Int32) (p3 : Int32) (d : MD) : Option (Int32 × MD) :=
  (f_X5_isOne N p1 d).bind fun x1 =>
  if x1 = 0 then
    bd2 (f_X5_finds N (-1000000001 : Int32) d) fun x4 d5 =>
    some (x4, d5)
  else
    (f_X5_mayBe N p1 p2 p3 d).bind fun x7 =>
    if x7 = 0 then
      bd2 (f_X5_finds N (-1000000001 : Int32) d) fun x10 d11 =>
      some (x10, d11)
    else
      bd2 (f_X5_becomes N (((21 : Int32) + ((15 : Int32) * p1)) + p2) p3 d) fun x13 d14 =>
      some (x13, d14)
def f_X5_way (N : Nat)  (p1 : Int32) (p2 : Int32) (d : MD) : Option (Int32 × MD) :=
  (f_X5_isOne N p1 d).bind fun x1 =>
  if x1 = 0 then
    bd2 (f_X5_finds N (-1000000001 : Int32) d) fun x4 d5 =>
    some (x4, d5)
  else
    (f_X5_isMark N p2).bind fun x7 =>
    if x7 = 0 then
      bd2 (f_X5_finds N (-1000000001 : Int32) d) fun x10 d11 =>
      some (x10, d11)
    else
      (f_X5_is N p1 ((6 : Int32) + p2) d).bind fun x13 =>
      some (x13, d)
def f_X5_be (N : Nat)  (p1 : Int32) (p2 : Int32) (p3 : Int32) (d : MD) : Option (Int32 × MD) :=
  (f_X5_isOne N p1 d).bind fun x1 =>
  if x1 = 0 then
    bd2 (f_X5_finds N (-1000000001 : Int32) d) fun x4 d5 =>
    some (x4, d5)
  else
    (f_X5_isMark N p2).bind fun x7 =>
    if x7 = 0 then
      bd2 (f_X5_finds N (-1000000001 : Int32) d) fun x10 d11 =>
      some (x10, d11)
    else
      (f_X5_isIn N ((p3).toInt64) (0 : Int64) (3 : Int64)).bind fun x13 =>
      if x13 = 0 then
        bd2 (f_X5_finds N (-1000000001 : Int32) d) fun x16 d17 =>
        some (x16, d17)
      else
        bd2 (f_X5_becomes N ((((21 : Int32) + ((15 : Int32) * p1)) + (6 : Int32)) + p2) p3 d) fun x19 d20 =>
        some (x19, d20)
set_option maxHeartbeats 4000000 in
set_option maxRecDepth 100000 in
theorem c_X5_isIn (l : Launch) (g : gE)  (N : Nat) (p0 : Int64) (p2 : Int64) (p4 : Int64)  (r : Int32) (h : f_X5_isIn N  p0 p2 p4 = some r) : MO l yX5_isIn (Cond.code yX5_isIn cX5_isIn 6 (some .boolean) :: TB) rm_X5_isIn [.long p0, .long p2, .long p4] g (([] : va_W)) (([] : va_W)) (some (.int r)) 0 0 := by
  refine MO.of (cc := cX5_isIn) (maxL := 6) (ret := (some .boolean)) (by decide) ?_
  intro p e s m below meth c cx hw hr hlocks _
  have hx := cx.1.1
  have hb := cx.1.2.1
  refine en_go (lv := [(0, .long p0), (2, .long p2), (4, .long p4)]) (Nat.le_of_ble_eq_true rfl) rfl (fun ls hl => ?_)
  unfold f_X5_isIn at h
  refine lv_lload_n hx hb dX5_isIn_0 rfl (lv_at hl 0 rfl) ?_
  refine lv_lload_n hx hb dX5_isIn_1 rfl (lv_at hl 1 rfl) ?_
  refine W.lcmp hx hb dX5_isIn_2 ?_
  refine lv_if_lt (tgt := 17) hx hb dX5_isIn_3 (by decide) (fun c1 => ?_) (fun c1 => ?_)
  · replace h := ite_t c1 h
    refine lv_iconst (v := 0) hx hb dX5_isIn_17 (by decide) ?_
    exact r_z cx hr hlocks rfl hw (sm_eq h) rfl dX5_isIn_18
  · replace h := ite_f c1 h
    refine lv_lload_n hx hb dX5_isIn_6 rfl (lv_at hl 0 rfl) ?_
    refine lv_lload hx hb dX5_isIn_7 (lv_at hl 2 rfl) ?_
    refine W.lcmp hx hb dX5_isIn_9 ?_
    refine lv_if_gt (tgt := 17) hx hb dX5_isIn_10 (by decide) (fun c2 => ?_) (fun c2 => ?_)
    · replace h := ite_t c2 h
      refine lv_iconst (v := 0) hx hb dX5_isIn_17 (by decide) ?_
      exact r_z cx hr hlocks rfl hw (sm_eq h) rfl dX5_isIn_18
    · replace h := ite_f c2 h
      refine lv_iconst (v := 1) hx hb dX5_isIn_13 (by decide) ?_
      refine lv_goto (tgt := 18) hx hb dX5_isIn_14 (by decide) ?_
      exact r_z cx hr hlocks rfl hw (sm_eq h) rfl dX5_isIn_18
set_option maxHeartbeats 4000000 in
set_option maxRecDepth 100000 in
theorem c_X5_finds (l : Launch) (g : gE) (q : Nat → Nat) (N : Nat) (p1 : Int32) (d : MD) (r : Int32) (d' : MD) (h : f_X5_finds N  p1 d = some (r, d')) : MO l yX5_finds (Cond.code yX5_finds cX5_finds 2 (some .int) :: TB) rm_X5_finds [.ref (q 0), .int p1] g ((MC g q d)) ((MC g q d')) (some (.int r)) 0 0 := by
  refine MO.of (cc := cX5_finds) (maxL := 2) (ret := (some .int)) (by decide) ?_
  intro p e s m below meth c cx hw hr hlocks _
  have hx := cx.1.1
  have hb := cx.1.2.1
  refine en_go (lv := [(0, .ref (q 0)), (1, .int p1)]) (Nat.le_of_ble_eq_true rfl) rfl (fun ls hl => ?_)
  unfold f_X5_finds at h
  refine lv_aload_n hx hb dX5_finds_0 rfl (lv_at hl 0 rfl) ?_
  refine gf_X5_22 cx hw 0 rfl rfl dX5_finds_1 ?_
  refine lv_iconst (v := 0) hx hb dX5_finds_4 (by decide) ?_
  refine lv_dup2_11 hx hb dX5_finds_5 rfl rfl ?_
  have ix1 := rd_in h
  refine x_iald cx hw 5 rfl ix1 dX5_finds_6 ?_
  refine lv_topi (fun x1 ex1 => ?_)
  replace h := rd_nx ex1 h
  refine lv_iconst (v := 1) hx hb dX5_finds_7 (by decide) ?_
  refine lv_iadd hx hb dX5_finds_8 ?_
  have i2 := ck_in h
  replace h := ck_nx h
  refine x_iast cx hw 5 rfl i2 dX5_finds_9 (fun H locs hw => ?_)
  obtain ⟨d3, ed3, h⟩ := lt_ex h
  have hw : Wd g (va_A ((MC g q d)) s.heap.size) ((MC g q d3)) s H locs := by rw [ed3]; exact hw
  refine lv_aload_n hx hb dX5_finds_10 rfl (lv_at hl 0 rfl) ?_
  refine gf_X5_22 cx hw 0 rfl rfl dX5_finds_11 ?_
  refine lv_ldc hx hb cx.1.2.2.2.1 (cx.1.2.2.2.2 _ tw_4_79) dX5_finds_14 ?_
  refine lv_iload_n hx hb dX5_finds_16 rfl (lv_at hl 1 rfl) ?_
  refine lv_isub hx hb dX5_finds_17 ?_
  refine lv_iconst (v := 1) hx hb dX5_finds_18 (by decide) ?_
  refine lv_iadd hx hb dX5_finds_19 ?_
  refine lv_dup2_11 hx hb dX5_finds_20 rfl rfl ?_
  have ix4 := rd_in h
  refine x_iald cx hw 5 rfl ix4 dX5_finds_21 ?_
  refine lv_topi (fun x4 ex4 => ?_)
  replace h := rd_nx ex4 h
  refine lv_iconst (v := 1) hx hb dX5_finds_22 (by decide) ?_
  refine lv_iadd hx hb dX5_finds_23 ?_
  have i5 := ck_in h
  replace h := ck_nx h
  refine x_iast cx hw 5 rfl i5 dX5_finds_24 (fun H locs hw => ?_)
  obtain ⟨d6, ed6, h⟩ := lt_ex h
  have hw : Wd g (va_A ((MC g q d)) s.heap.size) ((MC g q d6)) s H locs := by rw [ed6]; exact hw
  refine lv_iload_n hx hb dX5_finds_25 rfl (lv_at hl 1 rfl) ?_
  exact r_i cx hr hlocks hw (pr1 h) (congrArg (fun z0 => (MC g q z0)) (pr2 h)) dX5_finds_26
set_option maxHeartbeats 4000000 in
set_option maxRecDepth 100000 in
theorem c_X5_becomes (l : Launch) (g : gE) (q : Nat → Nat) (N : Nat) (p1 : Int32) (p2 : Int32) (d : MD) (r : Int32) (d' : MD) (h : f_X5_becomes N  p1 p2 d = some (r, d')) : MO l yX5_becomes (Cond.code yX5_becomes cX5_becomes 4 (some .int) :: TB) rm_X5_becomes [.ref (q 0), .int p1, .int p2] g ((MC g q d)) ((MC g q d')) (some (.int r)) 0 0 := by
  refine MO.of (cc := cX5_becomes) (maxL := 4) (ret := (some .int)) (by decide) ?_
  intro p e s m below meth c cx hw hr hlocks _
  have hx := cx.1.1
  have hb := cx.1.2.1
  refine en_go (lv := [(0, .ref (q 0)), (1, .int p1), (2, .int p2)]) (Nat.le_of_ble_eq_true rfl) rfl (fun ls hl => ?_)
  unfold f_X5_becomes at h
  refine lv_aload_n hx hb dX5_becomes_0 rfl (lv_at hl 0 rfl) ?_
  refine gf_X5_7 cx hw 0 rfl rfl dX5_becomes_1 ?_
  refine lv_iload_n hx hb dX5_becomes_4 rfl (lv_at hl 1 rfl) ?_
  have ix1 := rd_in h
  refine x_iald cx hw 1 rfl ix1 dX5_becomes_5 ?_
  refine lv_topi (fun x1 ex1 => ?_)
  replace h := rd_nx ex1 h
  refine lv_istore_n (lv' := [(3, .int x1), (0, .ref (q 0)), (1, .int p1), (2, .int p2)]) hx hb dX5_becomes_6 rfl hl (by decide) rfl (fun ls hl => ?_)
  refine lv_aload_n hx hb dX5_becomes_7 rfl (lv_at hl 1 rfl) ?_
  refine gf_X5_7 cx hw 0 rfl rfl dX5_becomes_8 ?_
  refine lv_iload_n hx hb dX5_becomes_11 rfl (lv_at hl 2 rfl) ?_
  refine lv_iload_n hx hb dX5_becomes_12 rfl (lv_at hl 3 rfl) ?_
  have i2 := ck_in h
  replace h := ck_nx h
  refine x_iast cx hw 1 rfl i2 dX5_becomes_13 (fun H locs hw => ?_)
  obtain ⟨d3, ed3, h⟩ := lt_ex h
  have hw : Wd g (va_A ((MC g q d)) s.heap.size) ((MC g q d3)) s H locs := by rw [ed3]; exact hw
  refine lv_iload_n hx hb dX5_becomes_14 rfl (lv_at hl 0 rfl) ?_
  exact r_i cx hr hlocks hw (pr1 h) (congrArg (fun z0 => (MC g q z0)) (pr2 h)) dX5_becomes_15
set_option maxHeartbeats 4000000 in
set_option maxRecDepth 100000 in
theorem c_X5_is (l : Launch) (g : gE) (q : Nat → Nat) (N : Nat) (p1 : Int32) (p2 : Int32) (d : MD) (r : Int32) (h : f_X5_is N  p1 p2 d = some r) : MO l yX5_is (Cond.code yX5_is cX5_is 3 (some .int) :: TB) rm_X5_is [.ref (q 0), .int p1, .int p2] g ((MC g q d)) ((MC g q d)) (some (.int r)) 0 0 := by
  refine MO.of (cc := cX5_is) (maxL := 3) (ret := (some .int)) (by decide) ?_
  intro p e s m below meth c cx hw hr hlocks _
  have hx := cx.1.1
  have hb := cx.1.2.1
  refine en_go (lv := [(0, .ref (q 0)), (1, .int p1), (2, .int p2)]) (Nat.le_of_ble_eq_true rfl) rfl (fun ls hl => ?_)
  unfold f_X5_is at h
  refine lv_aload_n hx hb dX5_is_0 rfl (lv_at hl 0 rfl) ?_
  refine gf_X5_7 cx hw 0 rfl rfl dX5_is_1 ?_
  refine lv_bipush (v := 21) hx hb dX5_is_4 (by decide) ?_
  refine lv_bipush (v := 15) hx hb dX5_is_6 (by decide) ?_
  refine lv_iload_n hx hb dX5_is_8 rfl (lv_at hl 1 rfl) ?_
  refine lv_imul hx hb dX5_is_9 ?_
  refine lv_iadd hx hb dX5_is_10 ?_
  refine lv_iload_n hx hb dX5_is_11 rfl (lv_at hl 2 rfl) ?_
  refine lv_iadd hx hb dX5_is_12 ?_
  have ix1 := rd_in h
  refine x_iald cx hw 1 rfl ix1 dX5_is_13 ?_
  refine lv_topi (fun x1 ex1 => ?_)
  replace h := rd_nx ex1 h
  exact r_i cx hr hlocks hw (sm_eq h) rfl dX5_is_14
set_option maxHeartbeats 4000000 in
set_option maxRecDepth 100000 in
theorem c_X5_puts (l : Launch) (g : gE) (q : Nat → Nat) (N : Nat) (p1 : Int32) (p2 : Int32) (p3 : Int32) (d : MD) (d' : MD) (h : f_X5_puts N  p1 p2 p3 d = some d') : MO l yX5_puts (Cond.code yX5_puts cX5_puts 4 none :: TB) rm_X5_puts [.ref (q 0), .int p1, .int p2, .int p3] g ((MC g q d)) ((MC g q d')) none 0 0 := by
  refine MO.of (cc := cX5_puts) (maxL := 4) (ret := none) (by decide) ?_
  intro p e s m below meth c cx hw hr hlocks _
  have hx := cx.1.1
  have hb := cx.1.2.1
  refine en_go (lv := [(0, .ref (q 0)), (1, .int p1), (2, .int p2), (3, .int p3)]) (Nat.le_of_ble_eq_true rfl) rfl (fun ls hl => ?_)
  unfold f_X5_puts at h
  refine lv_aload_n hx hb dX5_puts_0 rfl (lv_at hl 0 rfl) ?_
  refine gf_X5_7 cx hw 0 rfl rfl dX5_puts_1 ?_
  refine lv_bipush (v := 21) hx hb dX5_puts_4 (by decide) ?_
  refine lv_bipush (v := 15) hx hb dX5_puts_6 (by decide) ?_
  refine lv_iload_n hx hb dX5_puts_8 rfl (lv_at hl 1 rfl) ?_
  refine lv_imul hx hb dX5_puts_9 ?_
  refine lv_iadd hx hb dX5_puts_10 ?_
  refine lv_iload_n hx hb dX5_puts_11 rfl (lv_at hl 2 rfl) ?_
  refine lv_iadd hx hb dX5_puts_12 ?_
  refine lv_iload_n hx hb dX5_puts_13 rfl (lv_at hl 3 rfl) ?_
  have i1 := ck_in h
  replace h := ck_nx h
  refine x_iast cx hw 1 rfl i1 dX5_puts_14 (fun H locs hw => ?_)
  obtain ⟨d2, ed2, h⟩ := lt_ex h
  have hw : Wd g (va_A ((MC g q d)) s.heap.size) ((MC g q d2)) s H locs := by rw [ed2]; exact hw
  exact r_v cx hr hlocks hw (congrArg (fun z0 => (MC g q z0)) (sm_eq h)) dX5_puts_15
set_option maxHeartbeats 4000000 in
set_option maxRecDepth 100000 in
theorem c_X5_isOne (l : Launch) (g : gE) (q : Nat → Nat) (N : Nat) (p1 : Int32) (d : MD) (r : Int32) (h : f_X5_isOne N  p1 d = some r) : MO l yX5_isOne (Cond.code yX5_isOne cX5_isOne 2 (some .boolean) :: TB) rm_X5_isOne [.ref (q 0), .int p1] g ((MC g q d)) ((MC g q d)) (some (.int r)) 0 0 := by
  refine MO.of (cc := cX5_isOne) (maxL := 2) (ret := (some .boolean)) (by decide) ?_
  intro p e s m below meth c cx hw hr hlocks _
  have hx := cx.1.1
  have hb := cx.1.2.1
  refine en_go (lv := [(0, .ref (q 0)), (1, .int p1)]) (Nat.le_of_ble_eq_true rfl) rfl (fun ls hl => ?_)
  unfold f_X5_isOne at h
  refine lv_iload_n hx hb dX5_isOne_0 rfl (lv_at hl 1 rfl) ?_
  refine lv_if_lt (tgt := 18) hx hb dX5_isOne_1 (by decide) (fun c1 => ?_) (fun c1 => ?_)
  · replace h := ite_t c1 h
    refine lv_iconst (v := 0) hx hb dX5_isOne_18 (by decide) ?_
    exact r_z cx hr hlocks rfl hw (sm_eq h) rfl dX5_isOne_19
  · replace h := ite_f c1 h
    refine lv_iload_n hx hb dX5_isOne_4 rfl (lv_at hl 1 rfl) ?_
    refine lv_aload_n hx hb dX5_isOne_5 rfl (lv_at hl 0 rfl) ?_
    refine gf_X5_7 cx hw 0 rfl rfl dX5_isOne_6 ?_
    refine lv_iconst (v := 0) hx hb dX5_isOne_9 (by decide) ?_
    have ix2 := rd_in h
    refine x_iald cx hw 1 rfl ix2 dX5_isOne_10 ?_
    refine lv_topi (fun x2 ex2 => ?_)
    replace h := rd_nx ex2 h
    refine lv_icmp_ge (tgt := 18) hx hb dX5_isOne_11 (by decide) (fun c3 => ?_) (fun c3 => ?_)
    · replace h := ite_t c3 h
      refine lv_iconst (v := 0) hx hb dX5_isOne_18 (by decide) ?_
      exact r_z cx hr hlocks rfl hw (sm_eq h) rfl dX5_isOne_19
    · replace h := ite_f c3 h
      refine lv_iconst (v := 1) hx hb dX5_isOne_14 (by decide) ?_
      refine lv_goto (tgt := 19) hx hb dX5_isOne_15 (by decide) ?_
      exact r_z cx hr hlocks rfl hw (sm_eq h) rfl dX5_isOne_19
set_option maxHeartbeats 4000000 in
set_option maxRecDepth 100000 in
theorem c_X5_areTwo (l : Launch) (g : gE) (q : Nat → Nat) (N : Nat) (p1 : Int32) (p2 : Int32) (d : MD) (r : Int32) (h : f_X5_areTwo N  p1 p2 d = some r) : MO l yX5_areTwo (Cond.code yX5_areTwo cX5_areTwo 3 (some .boolean) :: TB) rm_X5_areTwo [.ref (q 0), .int p1, .int p2] g ((MC g q d)) ((MC g q d)) (some (.int r)) 0 0 := by
  refine MO.of (cc := cX5_areTwo) (maxL := 3) (ret := (some .boolean)) (by decide) ?_
  intro p e s m below meth c cx hw hr hlocks _
  have hx := cx.1.1
  have hb := cx.1.2.1
  refine en_go (lv := [(0, .ref (q 0)), (1, .int p1), (2, .int p2)]) (Nat.le_of_ble_eq_true rfl) rfl (fun ls hl => ?_)
  unfold f_X5_areTwo at h
  refine lv_aload_n hx hb dX5_areTwo_0 rfl (lv_at hl 0 rfl) ?_
  refine lv_iload_n hx hb dX5_areTwo_1 rfl (lv_at hl 1 rfl) ?_
  obtain ⟨x1, g2, h⟩ := bd_ex h
  refine c_V (As := [.int p1]) (rest := []) (w' := (MC g q d)) cx hw (c_X5_isOne l g q N p1 d x1 g2) (cl_X5_43 cx.1.2.2.2.2 ⟨Nat.le_of_ble_eq_true rfl, Nat.le_of_ble_eq_true rfl⟩) (x_recv cx hw (ci := 5) rfl 0 rfl) (Ct.all (MC_ll ..)) hl.1 rfl rfl (Nat.le_of_ble_eq_true rfl) dX5_areTwo_2 ⟨Nat.le_of_ble_eq_true rfl, Nat.le_of_ble_eq_true rfl⟩ (st1 := [.int x1]) rfl (fun H locs hw => ?_)
  refine lv_if_eq (tgt := 25) hx hb dX5_areTwo_5 (by decide) (fun c3 => ?_) (fun c3 => ?_)
  · replace h := ite_t c3 h
    refine lv_iconst (v := 0) hx hb dX5_areTwo_25 (by decide) ?_
    exact r_z cx hr hlocks rfl hw (sm_eq h) rfl dX5_areTwo_26
  · replace h := ite_f c3 h
    refine lv_aload_n hx hb dX5_areTwo_8 rfl (lv_at hl 0 rfl) ?_
    refine lv_iload_n hx hb dX5_areTwo_9 rfl (lv_at hl 2 rfl) ?_
    obtain ⟨x4, g5, h⟩ := bd_ex h
    refine c_V (As := [.int p2]) (rest := []) (w' := (MC g q d)) cx hw (c_X5_isOne l g q N p2 d x4 g5) (cl_X5_43 cx.1.2.2.2.2 ⟨Nat.le_of_ble_eq_true rfl, Nat.le_of_ble_eq_true rfl⟩) (x_recv cx hw (ci := 5) rfl 0 rfl) (Ct.all (MC_ll ..)) hl.1 rfl rfl (Nat.le_of_ble_eq_true rfl) dX5_areTwo_10 ⟨Nat.le_of_ble_eq_true rfl, Nat.le_of_ble_eq_true rfl⟩ (st1 := [.int x4]) rfl (fun H locs hw => ?_)
    refine lv_if_eq (tgt := 25) hx hb dX5_areTwo_13 (by decide) (fun c6 => ?_) (fun c6 => ?_)
    · replace h := ite_t c6 h
      refine lv_iconst (v := 0) hx hb dX5_areTwo_25 (by decide) ?_
      exact r_z cx hr hlocks rfl hw (sm_eq h) rfl dX5_areTwo_26
    · replace h := ite_f c6 h
      refine lv_iload_n hx hb dX5_areTwo_16 rfl (lv_at hl 1 rfl) ?_
      refine lv_iload_n hx hb dX5_areTwo_17 rfl (lv_at hl 2 rfl) ?_
      refine lv_icmp_eq (tgt := 25) hx hb dX5_areTwo_18 (by decide) (fun c7 => ?_) (fun c7 => ?_)
      · replace h := ite_t c7 h
        refine lv_iconst (v := 0) hx hb dX5_areTwo_25 (by decide) ?_
        exact r_z cx hr hlocks rfl hw (sm_eq h) rfl dX5_areTwo_26
      · replace h := ite_f c7 h
        refine lv_iconst (v := 1) hx hb dX5_areTwo_21 (by decide) ?_
        refine lv_goto (tgt := 26) hx hb dX5_areTwo_22 (by decide) ?_
        exact r_z cx hr hlocks rfl hw (sm_eq h) rfl dX5_areTwo_26
set_option maxHeartbeats 4000000 in
set_option maxRecDepth 100000 in
theorem c_X5_lives (l : Launch) (g : gE) (q : Nat → Nat) (N : Nat) (p1 : Int32) (d : MD) (r : Int32) (h : f_X5_lives N  p1 d = some r) : MO l yX5_lives (Cond.code yX5_lives cX5_lives 2 (some .boolean) :: TB) rm_X5_lives [.ref (q 0), .int p1] g ((MC g q d)) ((MC g q d)) (some (.int r)) 0 0 := by
  refine MO.of (cc := cX5_lives) (maxL := 2) (ret := (some .boolean)) (by decide) ?_
  intro p e s m below meth c cx hw hr hlocks _
  have hx := cx.1.1
  have hb := cx.1.2.1
  refine en_go (lv := [(0, .ref (q 0)), (1, .int p1)]) (Nat.le_of_ble_eq_true rfl) rfl (fun ls hl => ?_)
  unfold f_X5_lives at h
  refine lv_aload_n hx hb dX5_lives_0 rfl (lv_at hl 0 rfl) ?_
  refine lv_iload_n hx hb dX5_lives_1 rfl (lv_at hl 1 rfl) ?_
  refine lv_iconst (v := 5) hx hb dX5_lives_2 (by decide) ?_
  obtain ⟨x1, g2, h⟩ := bd_ex h
  refine c_V (As := [.int p1, .int (5 : Int32)]) (rest := []) (w' := (MC g q d)) cx hw (c_X5_is l g q N p1 (5 : Int32) d x1 g2) (cl_X5_47 cx.1.2.2.2.2 ⟨Nat.le_of_ble_eq_true rfl, Nat.le_of_ble_eq_true rfl⟩) (x_recv cx hw (ci := 5) rfl 0 rfl) (Ct.all (MC_ll ..)) hl.1 rfl rfl (Nat.le_of_ble_eq_true rfl) dX5_lives_3 ⟨Nat.le_of_ble_eq_true rfl, Nat.le_of_ble_eq_true rfl⟩ (st1 := [.int x1]) rfl (fun H locs hw => ?_)
  refine lv_iconst (v := 1) hx hb dX5_lives_6 (by decide) ?_
  refine lv_icmp_ne (tgt := 14) hx hb dX5_lives_7 (by decide) (fun c3 => ?_) (fun c3 => ?_)
  · replace h := ite_f c3 h
    refine lv_iconst (v := 0) hx hb dX5_lives_14 (by decide) ?_
    exact r_z cx hr hlocks rfl hw (sm_eq h) rfl dX5_lives_15
  · replace h := ite_t c3 h
    refine lv_iconst (v := 1) hx hb dX5_lives_10 (by decide) ?_
    refine lv_goto (tgt := 15) hx hb dX5_lives_11 (by decide) ?_
    exact r_z cx hr hlocks rfl hw (sm_eq h) rfl dX5_lives_15
set_option maxHeartbeats 4000000 in
set_option maxRecDepth 100000 in
theorem c_X5_isMark (l : Launch) (g : gE)  (N : Nat) (p0 : Int32)  (r : Int32) (h : f_X5_isMark N  p0 = some r) : MO l yX5_isMark (Cond.code yX5_isMark cX5_isMark 1 (some .boolean) :: TB) rm_X5_isMark [.int p0] g (([] : va_W)) (([] : va_W)) (some (.int r)) 0 0 := by
  refine MO.of (cc := cX5_isMark) (maxL := 1) (ret := (some .boolean)) (by decide) ?_
  intro p e s m below meth c cx hw hr hlocks _
  have hx := cx.1.1
  have hb := cx.1.2.1
  refine en_go (lv := [(0, .int p0)]) (Nat.le_of_ble_eq_true rfl) rfl (fun ls hl => ?_)
  unfold f_X5_isMark at h
  refine lv_iload_n hx hb dX5_isMark_0 rfl (lv_at hl 0 rfl) ?_
  refine lv_if_lt (tgt := 14) hx hb dX5_isMark_1 (by decide) (fun c1 => ?_) (fun c1 => ?_)
  · replace h := ite_t c1 h
    refine lv_iconst (v := 0) hx hb dX5_isMark_14 (by decide) ?_
    exact r_z cx hr hlocks rfl hw (sm_eq h) rfl dX5_isMark_15
  · replace h := ite_f c1 h
    refine lv_iload_n hx hb dX5_isMark_4 rfl (lv_at hl 0 rfl) ?_
    refine lv_bipush (v := 9) hx hb dX5_isMark_5 (by decide) ?_
    refine lv_icmp_ge (tgt := 14) hx hb dX5_isMark_7 (by decide) (fun c2 => ?_) (fun c2 => ?_)
    · replace h := ite_t c2 h
      refine lv_iconst (v := 0) hx hb dX5_isMark_14 (by decide) ?_
      exact r_z cx hr hlocks rfl hw (sm_eq h) rfl dX5_isMark_15
    · replace h := ite_f c2 h
      refine lv_iconst (v := 1) hx hb dX5_isMark_10 (by decide) ?_
      refine lv_goto (tgt := 15) hx hb dX5_isMark_11 (by decide) ?_
      exact r_z cx hr hlocks rfl hw (sm_eq h) rfl dX5_isMark_15
set_option maxHeartbeats 4000000 in
set_option maxRecDepth 100000 in
theorem c_X5_isFar (l : Launch) (g : gE) (q : Nat → Nat) (N : Nat) (p1 : Int32) (d : MD) (r : Int32) (h : f_X5_isFar N  p1 d = some r) : MO l yX5_isFar (Cond.code yX5_isFar cX5_isFar 2 (some .boolean) :: TB) rm_X5_isFar [.ref (q 0), .int p1] g ((MC g q d)) ((MC g q d)) (some (.int r)) 0 0 := by
  refine MO.of (cc := cX5_isFar) (maxL := 2) (ret := (some .boolean)) (by decide) ?_
  intro p e s m below meth c cx hw hr hlocks _
  have hx := cx.1.1
  have hb := cx.1.2.1
  refine en_go (lv := [(0, .ref (q 0)), (1, .int p1)]) (Nat.le_of_ble_eq_true rfl) rfl (fun ls hl => ?_)
  unfold f_X5_isFar at h
  refine lv_aload_n hx hb dX5_isFar_0 rfl (lv_at hl 0 rfl) ?_
  refine gf_X5_7 cx hw 0 rfl rfl dX5_isFar_1 ?_
  refine lv_iconst (v := 1) hx hb dX5_isFar_4 (by decide) ?_
  have ix1 := rd_in h
  refine x_iald cx hw 1 rfl ix1 dX5_isFar_5 ?_
  refine lv_topi (fun x1 ex1 => ?_)
  replace h := rd_nx ex1 h
  refine lv_iload_n hx hb dX5_isFar_6 rfl (lv_at hl 1 rfl) ?_
  refine lv_iadd hx hb dX5_isFar_7 ?_
  refine lv_sipush (v := 9999) hx hb dX5_isFar_8 (by decide) ?_
  refine lv_icmp_le (tgt := 18) hx hb dX5_isFar_11 (by decide) (fun c2 => ?_) (fun c2 => ?_)
  · replace h := ite_t c2 h
    refine lv_iconst (v := 0) hx hb dX5_isFar_18 (by decide) ?_
    exact r_z cx hr hlocks rfl hw (sm_eq h) rfl dX5_isFar_19
  · replace h := ite_f c2 h
    refine lv_iconst (v := 1) hx hb dX5_isFar_14 (by decide) ?_
    refine lv_goto (tgt := 19) hx hb dX5_isFar_15 (by decide) ?_
    exact r_z cx hr hlocks rfl hw (sm_eq h) rfl dX5_isFar_19
set_option maxHeartbeats 4000000 in
set_option maxRecDepth 100000 in
theorem c_X5_copyRow (l : Launch) (g : gE) (a : Nat) (b : Nat) (N : Nat)  (f : (Nat → Int32)) (f2 : (Nat → Int32)) (f2' : (Nat → Int32)) (h : f_X5_copyRow N  f f2 = some f2') : MO l yX5_copyRow (Cond.code yX5_copyRow cX5_copyRow 3 none :: TB) rm_X5_copyRow [.ref a, .ref b] g ((ACI g a 201 f) ++ (ACI g b 201 f2)) ((ACI g a 201 f) ++ (ACI g b 201 f2')) none 0 0 := by
  refine MO.of (cc := cX5_copyRow) (maxL := 3) (ret := none) (by decide) ?_
  intro p e s m below meth c cx hw hr hlocks _
  have hx := cx.1.1
  have hb := cx.1.2.1
  refine en_go (lv := [(0, .ref a), (1, .ref b)]) (Nat.le_of_ble_eq_true rfl) rfl (fun ls hl => ?_)
  have L2 : ∀ (n2 : Nat) (a2 : Int32) (f2_ : (Nat → Int32)) (H : Heap) (locs : List Loc) (ls : Array Slot), Wd g (va_A ((ACI g a 201 f) ++ (ACI g b 201 f2)) s.heap.size) ((ACI g a 201 f) ++ (ACI g b 201 f2_)) s H locs → lv_has ls 3 [(0, .ref a), (1, .ref b), (2, .int a2)] → f_X5_copyRow_L2 N f  n2 a2 f2_ = some f2' → W p l e rm_X5_copyRow s m ([.ref a, .ref b] : List Value).toArray below meth c H locs 0 0 (MQ below (QO none g ((ACI g a 201 f) ++ (ACI g b 201 f2')) (va_A ((ACI g a 201 f) ++ (ACI g b 201 f2)) s.heap.size)) ([.ref a, .ref b] : List Value).toArray s 0 0 (va_A ((ACI g a 201 f) ++ (ACI g b 201 f2)) s.heap.size)) (F0 m 2 ls []) := by
    intro n2
    induction n2 with
    | zero => intro a2 f2_ H locs ls hw hl h; exact (Option.some_ne_none _ h.symm).elim
    | succ n2 ih2 =>
      intro a2 f2_ H locs ls hw hl h
      rw [f_X5_copyRow_L2] at h
      refine lv_iload_n hx hb dX5_copyRow_2 rfl (lv_at hl 2 rfl) ?_
      refine lv_sipush (v := 201) hx hb dX5_copyRow_3 (by decide) ?_
      refine lv_icmp_ge (tgt := 21) hx hb dX5_copyRow_6 (by decide) (fun c6 => ?_) (fun c6 => ?_)
      · replace h := ite_t c6 h
        exact r_v cx hr hlocks hw (congrArg (fun z1 => (ACI g a 201 f) ++ (ACI g b 201 z1)) (sm_eq h)) dX5_copyRow_21
      · replace h := ite_f c6 h
        refine lv_aload_n hx hb dX5_copyRow_9 rfl (lv_at hl 1 rfl) ?_
        refine lv_iload_n hx hb dX5_copyRow_10 rfl (lv_at hl 2 rfl) ?_
        refine lv_aload_n hx hb dX5_copyRow_11 rfl (lv_at hl 0 rfl) ?_
        refine lv_iload_n hx hb dX5_copyRow_12 rfl (lv_at hl 2 rfl) ?_
        have ix7 := rd_in h
        refine x_iald cx hw 0 rfl ix7 dX5_copyRow_13 ?_
        refine lv_topi (fun x7 ex7 => ?_)
        replace h := rd_nx ex7 h
        have i8 := ck_in h
        replace h := ck_nx h
        refine x_iast cx hw 1 rfl i8 dX5_copyRow_14 (fun H locs hw => ?_)
        obtain ⟨f29, ef29, h⟩ := lt_ex h
        have hw : Wd g (va_A ((ACI g a 201 f) ++ (ACI g b 201 f2)) s.heap.size) ((ACI g a 201 f) ++ (ACI g b 201 f29)) s H locs := by rw [ef29]; exact hw
        obtain ⟨x10, ex10⟩ : ∃ y : Int32, y = (a2 + 1) := ⟨_, rfl⟩
        replace h := lt_nx ex10 h
        refine lv_iinc (v := x10) (lv' := [(2, .int x10), (0, .ref a), (1, .ref b)]) hx hb dX5_copyRow_15 hl (k := 2) rfl (by rw [ex10]; rfl) (by decide) rfl (fun ls hl => ?_)
        refine lv_goto (tgt := 2) hx hb dX5_copyRow_18 (by decide) ?_
        exact ih2 x10 f29 _ _ _ hw (lv_sub hl [1, 2, 0] rfl) h
  unfold f_X5_copyRow at h
  refine lv_iconst (v := 0) hx hb dX5_copyRow_0 (by decide) ?_
  refine lv_istore_n (lv' := [(2, .int (0 : Int32)), (0, .ref a), (1, .ref b)]) hx hb dX5_copyRow_1 rfl hl (by decide) rfl (fun ls hl => ?_)
  exact L2 N (0 : Int32) f2 _ _ _ hw (lv_sub hl [1, 2, 0] rfl) h
set_option maxHeartbeats 4000000 in
set_option maxRecDepth 100000 in
theorem c_X5_mark (l : Launch) (g : gE) (q : Nat → Nat) (N : Nat) (p1 : Int32) (p2 : Int32) (p3 : Int32) (d : MD) (r : Int32) (d' : MD) (h : f_X5_mark N  p1 p2 p3 d = some (r, d')) : MO l yX5_mark (Cond.code yX5_mark cX5_mark 4 (some .int) :: TB) rm_X5_mark [.ref (q 0), .int p1, .int p2, .int p3] g ((MC g q d)) ((MC g q d')) (some (.int r)) 0 0 := by
  refine MO.of (cc := cX5_mark) (maxL := 4) (ret := (some .int)) (by decide) ?_
  intro p e s m below meth c cx hw hr hlocks _
  have hx := cx.1.1
  have hb := cx.1.2.1
  refine en_go (lv := [(0, .ref (q 0)), (1, .int p1), (2, .int p2), (3, .int p3)]) (Nat.le_of_ble_eq_true rfl) rfl (fun ls hl => ?_)
  have J33 : ∀ (a1 : Int32) (a2 : Int32) (a3 : Int32) (t0 : Int64) (t1 : Int64) (t2 : Int64) (d_ : MD) (H : Heap) (locs : List Loc) (ls : Array Slot), Wd g (va_A ((MC g q d)) s.heap.size) ((MC g q d_)) s H locs → lv_has ls 4 [(0, .ref (q 0)), (1, .int a1), (2, .int a2), (3, .int a3)] → f_X5_mark_J33 N   a1 a2 a3 t0 t1 t2 d_ = some (r, d') → W p l e rm_X5_mark s m ([.ref (q 0), .int p1, .int p2, .int p3] : List Value).toArray below meth c H locs 0 0 (MQ below (QO (some (.int r)) g ((MC g q d')) (va_A ((MC g q d)) s.heap.size)) ([.ref (q 0), .int p1, .int p2, .int p3] : List Value).toArray s 0 0 (va_A ((MC g q d)) s.heap.size)) (F0 m 33 ls [.long t2, .long t1, .long t0]) := by
    intro a1 a2 a3 t0 t1 t2 d_ H locs ls hw hl h
    unfold f_X5_mark_J33 at h
    obtain ⟨x27, g28, h⟩ := bd_ex h
    refine c_S (As := [.long t0, .long t1, .long t2]) (rest := []) (w' := (MC g q d_)) cx hw (c_X5_isIn l g  N t0 t1 t2  x27 g28) (cl_X5_54 cx.1.2.2.2.2 ⟨Nat.le_of_ble_eq_true rfl, Nat.le_of_ble_eq_true rfl⟩) Ct.nil hl.1 rfl rfl (Nat.le_of_ble_eq_true rfl) dX5_mark_33 ⟨Nat.le_of_ble_eq_true rfl, Nat.le_of_ble_eq_true rfl⟩ (st1 := [.int x27]) rfl (fun H locs hw => ?_)
    refine lv_if_ne (tgt := 46) hx hb dX5_mark_36 (by decide) (fun c29 => ?_) (fun c29 => ?_)
    · replace h := ite_f c29 h
      refine lv_aload_n hx hb dX5_mark_46 rfl (lv_at hl 0 rfl) ?_
      refine lv_iload_n hx hb dX5_mark_47 rfl (lv_at hl 2 rfl) ?_
      refine lv_if_ne (tgt := 55) hx hb dX5_mark_48 (by decide) (fun c30 => ?_) (fun c30 => ?_)
      · replace h := ite_f c30 h
        refine lv_bipush (v := 12) hx hb dX5_mark_55 (by decide) ?_
        refine lv_iload_n hx hb dX5_mark_57 rfl (lv_at hl 1 rfl) ?_
        refine lv_iadd hx hb dX5_mark_58 ?_
        refine lv_iload_n hx hb dX5_mark_59 rfl (lv_at hl 3 rfl) ?_
        obtain ⟨x31, d32, g33, h⟩ := bd2_ex h
        refine c_V (As := [.int ((12 : Int32) + a1), .int a3]) (rest := []) (w' := (MC g q d32)) cx hw (c_X5_becomes l g q N ((12 : Int32) + a1) a3 d_ x31 d32 g33) (cl_X5_66 cx.1.2.2.2.2 ⟨Nat.le_of_ble_eq_true rfl, Nat.le_of_ble_eq_true rfl⟩) (x_recv cx hw (ci := 5) rfl 0 rfl) (Ct.all (MC_ll ..)) hl.1 rfl rfl (Nat.le_of_ble_eq_true rfl) dX5_mark_60 ⟨Nat.le_of_ble_eq_true rfl, Nat.le_of_ble_eq_true rfl⟩ (st1 := [.int x31]) rfl (fun H locs hw => ?_)
        exact r_i cx hr hlocks hw (pr1 h) (congrArg (fun z0 => (MC g q z0)) (pr2 h)) dX5_mark_63
      · replace h := ite_t c30 h
        refine lv_iconst (v := 3) hx hb dX5_mark_51 (by decide) ?_
        refine lv_goto (tgt := 57) hx hb dX5_mark_52 (by decide) ?_
        refine lv_iload_n hx hb dX5_mark_57 rfl (lv_at hl 1 rfl) ?_
        refine lv_iadd hx hb dX5_mark_58 ?_
        refine lv_iload_n hx hb dX5_mark_59 rfl (lv_at hl 3 rfl) ?_
        obtain ⟨x34, d35, g36, h⟩ := bd2_ex h
        refine c_V (As := [.int ((3 : Int32) + a1), .int a3]) (rest := []) (w' := (MC g q d35)) cx hw (c_X5_becomes l g q N ((3 : Int32) + a1) a3 d_ x34 d35 g36) (cl_X5_66 cx.1.2.2.2.2 ⟨Nat.le_of_ble_eq_true rfl, Nat.le_of_ble_eq_true rfl⟩) (x_recv cx hw (ci := 5) rfl 0 rfl) (Ct.all (MC_ll ..)) hl.1 rfl rfl (Nat.le_of_ble_eq_true rfl) dX5_mark_60 ⟨Nat.le_of_ble_eq_true rfl, Nat.le_of_ble_eq_true rfl⟩ (st1 := [.int x34]) rfl (fun H locs hw => ?_)
        exact r_i cx hr hlocks hw (pr1 h) (congrArg (fun z0 => (MC g q z0)) (pr2 h)) dX5_mark_63
    · replace h := ite_t c29 h
      refine lv_aload_n hx hb dX5_mark_39 rfl (lv_at hl 0 rfl) ?_
      refine lv_ldc hx hb cx.1.2.2.2.1 (cx.1.2.2.2.2 _ tw_4_79) dX5_mark_40 ?_
      obtain ⟨x37, d38, g39, h⟩ := bd2_ex h
      refine c_V (As := [.int (-1000000001 : Int32)]) (rest := []) (w' := (MC g q d38)) cx hw (c_X5_finds l g q N (-1000000001 : Int32) d_ x37 d38 g39) (cl_X5_62 cx.1.2.2.2.2 ⟨Nat.le_of_ble_eq_true rfl, Nat.le_of_ble_eq_true rfl⟩) (x_recv cx hw (ci := 5) rfl 0 rfl) (Ct.all (MC_ll ..)) hl.1 rfl rfl (Nat.le_of_ble_eq_true rfl) dX5_mark_42 ⟨Nat.le_of_ble_eq_true rfl, Nat.le_of_ble_eq_true rfl⟩ (st1 := [.int x37]) rfl (fun H locs hw => ?_)
      exact r_i cx hr hlocks hw (pr1 h) (congrArg (fun z0 => (MC g q z0)) (pr2 h)) dX5_mark_45
  unfold f_X5_mark at h
  refine lv_iload_n hx hb dX5_mark_0 rfl (lv_at hl 1 rfl) ?_
  obtain ⟨x1, g2, h⟩ := bd_ex h
  refine c_S (As := [.int p1]) (rest := []) (w' := (MC g q d)) cx hw (c_X5_isMark l g  N p1  x1 g2) (cl_X5_51 cx.1.2.2.2.2 ⟨Nat.le_of_ble_eq_true rfl, Nat.le_of_ble_eq_true rfl⟩) Ct.nil hl.1 rfl rfl (Nat.le_of_ble_eq_true rfl) dX5_mark_1 ⟨Nat.le_of_ble_eq_true rfl, Nat.le_of_ble_eq_true rfl⟩ (st1 := [.int x1]) rfl (fun H locs hw => ?_)
  refine lv_if_eq (tgt := 39) hx hb dX5_mark_4 (by decide) (fun c3 => ?_) (fun c3 => ?_)
  · replace h := ite_t c3 h
    refine lv_aload_n hx hb dX5_mark_39 rfl (lv_at hl 0 rfl) ?_
    refine lv_ldc hx hb cx.1.2.2.2.1 (cx.1.2.2.2.2 _ tw_4_79) dX5_mark_40 ?_
    obtain ⟨x4, d5, g6, h⟩ := bd2_ex h
    refine c_V (As := [.int (-1000000001 : Int32)]) (rest := []) (w' := (MC g q d5)) cx hw (c_X5_finds l g q N (-1000000001 : Int32) d x4 d5 g6) (cl_X5_62 cx.1.2.2.2.2 ⟨Nat.le_of_ble_eq_true rfl, Nat.le_of_ble_eq_true rfl⟩) (x_recv cx hw (ci := 5) rfl 0 rfl) (Ct.all (MC_ll ..)) hl.1 rfl rfl (Nat.le_of_ble_eq_true rfl) dX5_mark_42 ⟨Nat.le_of_ble_eq_true rfl, Nat.le_of_ble_eq_true rfl⟩ (st1 := [.int x4]) rfl (fun H locs hw => ?_)
    exact r_i cx hr hlocks hw (pr1 h) (congrArg (fun z0 => (MC g q z0)) (pr2 h)) dX5_mark_45
  · replace h := ite_f c3 h
    refine lv_iload_n hx hb dX5_mark_7 rfl (lv_at hl 2 rfl) ?_
    refine lv_i2l hx hb dX5_mark_8 rfl ?_
    refine lv_lconst (v := 0) hx hb dX5_mark_9 (by decide) ?_
    refine lv_lconst (v := 1) hx hb dX5_mark_10 (by decide) ?_
    obtain ⟨x7, g8, h⟩ := bd_ex h
    refine c_S (As := [.long ((p2).toInt64), .long (0 : Int64), .long (1 : Int64)]) (rest := []) (w' := (MC g q d)) cx hw (c_X5_isIn l g  N ((p2).toInt64) (0 : Int64) (1 : Int64)  x7 g8) (cl_X5_54 cx.1.2.2.2.2 ⟨Nat.le_of_ble_eq_true rfl, Nat.le_of_ble_eq_true rfl⟩) Ct.nil hl.1 rfl rfl (Nat.le_of_ble_eq_true rfl) dX5_mark_11 ⟨Nat.le_of_ble_eq_true rfl, Nat.le_of_ble_eq_true rfl⟩ (st1 := [.int x7]) rfl (fun H locs hw => ?_)
    refine lv_if_eq (tgt := 39) hx hb dX5_mark_14 (by decide) (fun c9 => ?_) (fun c9 => ?_)
    · replace h := ite_t c9 h
      refine lv_aload_n hx hb dX5_mark_39 rfl (lv_at hl 0 rfl) ?_
      refine lv_ldc hx hb cx.1.2.2.2.1 (cx.1.2.2.2.2 _ tw_4_79) dX5_mark_40 ?_
      obtain ⟨x10, d11, g12, h⟩ := bd2_ex h
      refine c_V (As := [.int (-1000000001 : Int32)]) (rest := []) (w' := (MC g q d11)) cx hw (c_X5_finds l g q N (-1000000001 : Int32) d x10 d11 g12) (cl_X5_62 cx.1.2.2.2.2 ⟨Nat.le_of_ble_eq_true rfl, Nat.le_of_ble_eq_true rfl⟩) (x_recv cx hw (ci := 5) rfl 0 rfl) (Ct.all (MC_ll ..)) hl.1 rfl rfl (Nat.le_of_ble_eq_true rfl) dX5_mark_42 ⟨Nat.le_of_ble_eq_true rfl, Nat.le_of_ble_eq_true rfl⟩ (st1 := [.int x10]) rfl (fun H locs hw => ?_)
      exact r_i cx hr hlocks hw (pr1 h) (congrArg (fun z0 => (MC g q z0)) (pr2 h)) dX5_mark_45
    · replace h := ite_f c9 h
      refine lv_iload_n hx hb dX5_mark_17 rfl (lv_at hl 3 rfl) ?_
      refine lv_i2l hx hb dX5_mark_18 rfl ?_
      refine lv_lconst (v := 0) hx hb dX5_mark_19 (by decide) ?_
      refine lv_iload_n hx hb dX5_mark_20 rfl (lv_at hl 2 rfl) ?_
      refine lv_if_ne (tgt := 30) hx hb dX5_mark_21 (by decide) (fun c13 => ?_) (fun c13 => ?_)
      · replace h := ite_f c13 h
        refine lv_ldc2 hx hb cx.1.2.2.2.1 (cx.1.2.2.2.2 _ tw_4_78) dX5_mark_30 ?_
        exact J33 p1 p2 p3 ((p3).toInt64) (0 : Int64) (99 : Int64) d _ _ _ hw (lv_sub hl [0, 1, 2, 3] rfl) h
      · replace h := ite_t c13 h
        refine lv_ldc2 hx hb cx.1.2.2.2.1 (cx.1.2.2.2.2 _ tw_4_77) dX5_mark_24 ?_
        refine lv_goto (tgt := 33) hx hb dX5_mark_27 (by decide) ?_
        exact J33 p1 p2 p3 ((p3).toInt64) (0 : Int64) (9 : Int64) d _ _ _ hw (lv_sub hl [0, 1, 2, 3] rfl) h
set_option maxHeartbeats 4000000 in
set_option maxRecDepth 100000 in
theorem c_X5_let (l : Launch) (g : gE) (q : Nat → Nat) (N : Nat) (p1 : Int32) (d : MD) (r : Int32) (d' : MD) (h : f_X5_let N  p1 d = some (r, d')) : MO l yX5_let (Cond.code yX5_let cX5_let 2 (some .int) :: TB) rm_X5_let [.ref (q 0), .int p1] g ((MC g q d)) ((MC g q d')) (some (.int r)) 0 0 := by
  refine MO.of (cc := cX5_let) (maxL := 2) (ret := (some .int)) (by decide) ?_
  intro p e s m below meth c cx hw hr hlocks _
  have hx := cx.1.1
  have hb := cx.1.2.1
  refine en_go (lv := [(0, .ref (q 0)), (1, .int p1)]) (Nat.le_of_ble_eq_true rfl) rfl (fun ls hl => ?_)
  unfold f_X5_let at h
  refine lv_iload_n hx hb dX5_let_0 rfl (lv_at hl 1 rfl) ?_
  refine lv_i2l hx hb dX5_let_1 rfl ?_
  refine lv_lconst (v := 0) hx hb dX5_let_2 (by decide) ?_
  refine lv_ldc2 hx hb cx.1.2.2.2.1 (cx.1.2.2.2.2 _ tw_4_92) dX5_let_3 ?_
  obtain ⟨x1, g2, h⟩ := bd_ex h
  refine c_S (As := [.long ((p1).toInt64), .long (0 : Int64), .long (2 : Int64)]) (rest := []) (w' := (MC g q d)) cx hw (c_X5_isIn l g  N ((p1).toInt64) (0 : Int64) (2 : Int64)  x1 g2) (cl_X5_54 cx.1.2.2.2.2 ⟨Nat.le_of_ble_eq_true rfl, Nat.le_of_ble_eq_true rfl⟩) Ct.nil hl.1 rfl rfl (Nat.le_of_ble_eq_true rfl) dX5_let_6 ⟨Nat.le_of_ble_eq_true rfl, Nat.le_of_ble_eq_true rfl⟩ (st1 := [.int x1]) rfl (fun H locs hw => ?_)
  refine lv_if_eq (tgt := 21) hx hb dX5_let_9 (by decide) (fun c3 => ?_) (fun c3 => ?_)
  · replace h := ite_t c3 h
    refine lv_aload_n hx hb dX5_let_21 rfl (lv_at hl 0 rfl) ?_
    refine lv_ldc hx hb cx.1.2.2.2.1 (cx.1.2.2.2.2 _ tw_4_79) dX5_let_22 ?_
    obtain ⟨x4, d5, g6, h⟩ := bd2_ex h
    refine c_V (As := [.int (-1000000001 : Int32)]) (rest := []) (w' := (MC g q d5)) cx hw (c_X5_finds l g q N (-1000000001 : Int32) d x4 d5 g6) (cl_X5_62 cx.1.2.2.2.2 ⟨Nat.le_of_ble_eq_true rfl, Nat.le_of_ble_eq_true rfl⟩) (x_recv cx hw (ci := 5) rfl 0 rfl) (Ct.all (MC_ll ..)) hl.1 rfl rfl (Nat.le_of_ble_eq_true rfl) dX5_let_24 ⟨Nat.le_of_ble_eq_true rfl, Nat.le_of_ble_eq_true rfl⟩ (st1 := [.int x4]) rfl (fun H locs hw => ?_)
    exact r_i cx hr hlocks hw (pr1 h) (congrArg (fun z0 => (MC g q z0)) (pr2 h)) dX5_let_27
  · replace h := ite_f c3 h
    refine lv_aload_n hx hb dX5_let_12 rfl (lv_at hl 0 rfl) ?_
    refine lv_iconst (v := 2) hx hb dX5_let_13 (by decide) ?_
    refine lv_iload_n hx hb dX5_let_14 rfl (lv_at hl 1 rfl) ?_
    obtain ⟨x7, d8, g9, h⟩ := bd2_ex h
    refine c_V (As := [.int (2 : Int32), .int p1]) (rest := []) (w' := (MC g q d8)) cx hw (c_X5_becomes l g q N (2 : Int32) p1 d x7 d8 g9) (cl_X5_66 cx.1.2.2.2.2 ⟨Nat.le_of_ble_eq_true rfl, Nat.le_of_ble_eq_true rfl⟩) (x_recv cx hw (ci := 5) rfl 0 rfl) (Ct.all (MC_ll ..)) hl.1 rfl rfl (Nat.le_of_ble_eq_true rfl) dX5_let_15 ⟨Nat.le_of_ble_eq_true rfl, Nat.le_of_ble_eq_true rfl⟩ (st1 := [.int x7]) rfl (fun H locs hw => ?_)
    refine lv_goto (tgt := 27) hx hb dX5_let_18 (by decide) ?_
    exact r_i cx hr hlocks hw (pr1 h) (congrArg (fun z0 => (MC g q z0)) (pr2 h)) dX5_let_27
set_option maxHeartbeats 4000000 in
set_option maxRecDepth 100000 in
theorem c_X5_comes (l : Launch) (g : gE) (q : Nat → Nat) (N : Nat) (p1 : Int32) (p2 : Int32) (d : MD) (r : Int32) (d' : MD) (h : f_X5_comes N  p1 p2 d = some (r, d')) : MO l yX5_comes (Cond.code yX5_comes cX5_comes 5 (some .int) :: TB) rm_X5_comes [.ref (q 0), .int p1, .int p2] g ((MC g q d)) ((MC g q d')) (some (.int r)) 0 0 := by
  refine MO.of (cc := cX5_comes) (maxL := 5) (ret := (some .int)) (by decide) ?_
  intro p e s m below meth c cx hw hr hlocks _
  have hx := cx.1.1
  have hb := cx.1.2.1
  refine en_go (lv := [(0, .ref (q 0)), (1, .int p1), (2, .int p2)]) (Nat.le_of_ble_eq_true rfl) rfl (fun ls hl => ?_)
  have L20 : ∀ (n20 : Nat) (a1 : Int32) (a2 : Int32) (a3 : Int32) (a4 : Int32) (d_ : MD) (H : Heap) (locs : List Loc) (ls : Array Slot), Wd g (va_A ((MC g q d)) s.heap.size) ((MC g q d_)) s H locs → lv_has ls 5 [(0, .ref (q 0)), (1, .int a1), (2, .int a2), (3, .int a3), (4, .int a4)] → f_X5_comes_L20 N   n20 a1 a2 a3 a4 d_ = some (r, d') → W p l e rm_X5_comes s m ([.ref (q 0), .int p1, .int p2] : List Value).toArray below meth c H locs 0 0 (MQ below (QO (some (.int r)) g ((MC g q d')) (va_A ((MC g q d)) s.heap.size)) ([.ref (q 0), .int p1, .int p2] : List Value).toArray s 0 0 (va_A ((MC g q d)) s.heap.size)) (F0 m 20 ls []) := by
    intro n20
    induction n20 with
    | zero => intro a1 a2 a3 a4 d_ H locs ls hw hl h; exact (Option.some_ne_none _ h.symm).elim
    | succ n20 ih20 =>
      intro a1 a2 a3 a4 d_ H locs ls hw hl h
      rw [f_X5_comes_L20] at h
      refine lv_iload hx hb dX5_comes_20 (lv_at hl 4 rfl) ?_
      refine lv_bipush (v := 9) hx hb dX5_comes_22 (by decide) ?_
      refine lv_icmp_ge (tgt := 44) hx hb dX5_comes_24 (by decide) (fun c21 => ?_) (fun c21 => ?_)
      · replace h := ite_t c21 h
        refine lv_aload_n hx hb dX5_comes_44 rfl (lv_at hl 0 rfl) ?_
        refine lv_iload_n hx hb dX5_comes_45 rfl (lv_at hl 3 rfl) ?_
        refine lv_iconst (v := 0) hx hb dX5_comes_46 (by decide) ?_
        refine lv_iload_n hx hb dX5_comes_47 rfl (lv_at hl 1 rfl) ?_
        obtain ⟨d22, g23, h⟩ := bd_ex h
        refine c_V (As := [.int a3, .int (0 : Int32), .int a1]) (rest := []) (w' := (MC g q d22)) cx hw (c_X5_puts l g q N a3 (0 : Int32) a1 d_ d22 g23) (cl_X5_71 cx.1.2.2.2.2 ⟨Nat.le_of_ble_eq_true rfl, Nat.le_of_ble_eq_true rfl⟩) (x_recv cx hw (ci := 5) rfl 0 rfl) (Ct.all (MC_ll ..)) hl.1 rfl rfl (Nat.le_of_ble_eq_true rfl) dX5_comes_48 ⟨Nat.le_of_ble_eq_true rfl, Nat.le_of_ble_eq_true rfl⟩ (st1 := []) rfl (fun H locs hw => ?_)
        refine lv_aload_n hx hb dX5_comes_51 rfl (lv_at hl 0 rfl) ?_
        refine lv_iload_n hx hb dX5_comes_52 rfl (lv_at hl 3 rfl) ?_
        refine lv_iconst (v := 1) hx hb dX5_comes_53 (by decide) ?_
        refine lv_iload_n hx hb dX5_comes_54 rfl (lv_at hl 2 rfl) ?_
        obtain ⟨d24, g25, h⟩ := bd_ex h
        refine c_V (As := [.int a3, .int (1 : Int32), .int a2]) (rest := []) (w' := (MC g q d24)) cx hw (c_X5_puts l g q N a3 (1 : Int32) a2 d22 d24 g25) (cl_X5_71 cx.1.2.2.2.2 ⟨Nat.le_of_ble_eq_true rfl, Nat.le_of_ble_eq_true rfl⟩) (x_recv cx hw (ci := 5) rfl 0 rfl) (Ct.all (MC_ll ..)) hl.1 rfl rfl (Nat.le_of_ble_eq_true rfl) dX5_comes_55 ⟨Nat.le_of_ble_eq_true rfl, Nat.le_of_ble_eq_true rfl⟩ (st1 := []) rfl (fun H locs hw => ?_)
        refine lv_aload_n hx hb dX5_comes_58 rfl (lv_at hl 0 rfl) ?_
        refine lv_iload_n hx hb dX5_comes_59 rfl (lv_at hl 3 rfl) ?_
        refine lv_iconst (v := 2) hx hb dX5_comes_60 (by decide) ?_
        refine lv_bipush (v := 10) hx hb dX5_comes_61 (by decide) ?_
        obtain ⟨d26, g27, h⟩ := bd_ex h
        refine c_V (As := [.int a3, .int (2 : Int32), .int (10 : Int32)]) (rest := []) (w' := (MC g q d26)) cx hw (c_X5_puts l g q N a3 (2 : Int32) (10 : Int32) d24 d26 g27) (cl_X5_71 cx.1.2.2.2.2 ⟨Nat.le_of_ble_eq_true rfl, Nat.le_of_ble_eq_true rfl⟩) (x_recv cx hw (ci := 5) rfl 0 rfl) (Ct.all (MC_ll ..)) hl.1 rfl rfl (Nat.le_of_ble_eq_true rfl) dX5_comes_63 ⟨Nat.le_of_ble_eq_true rfl, Nat.le_of_ble_eq_true rfl⟩ (st1 := []) rfl (fun H locs hw => ?_)
        refine lv_aload_n hx hb dX5_comes_66 rfl (lv_at hl 0 rfl) ?_
        refine lv_iload_n hx hb dX5_comes_67 rfl (lv_at hl 3 rfl) ?_
        refine lv_iconst (v := 3) hx hb dX5_comes_68 (by decide) ?_
        refine lv_bipush (v := 70) hx hb dX5_comes_69 (by decide) ?_
        obtain ⟨d28, g29, h⟩ := bd_ex h
        refine c_V (As := [.int a3, .int (3 : Int32), .int (70 : Int32)]) (rest := []) (w' := (MC g q d28)) cx hw (c_X5_puts l g q N a3 (3 : Int32) (70 : Int32) d26 d28 g29) (cl_X5_71 cx.1.2.2.2.2 ⟨Nat.le_of_ble_eq_true rfl, Nat.le_of_ble_eq_true rfl⟩) (x_recv cx hw (ci := 5) rfl 0 rfl) (Ct.all (MC_ll ..)) hl.1 rfl rfl (Nat.le_of_ble_eq_true rfl) dX5_comes_71 ⟨Nat.le_of_ble_eq_true rfl, Nat.le_of_ble_eq_true rfl⟩ (st1 := []) rfl (fun H locs hw => ?_)
        refine lv_aload_n hx hb dX5_comes_74 rfl (lv_at hl 0 rfl) ?_
        refine lv_iload_n hx hb dX5_comes_75 rfl (lv_at hl 3 rfl) ?_
        refine lv_iconst (v := 4) hx hb dX5_comes_76 (by decide) ?_
        refine lv_iconst (v := -1) hx hb dX5_comes_77 (by decide) ?_
        obtain ⟨d30, g31, h⟩ := bd_ex h
        refine c_V (As := [.int a3, .int (4 : Int32), .int (-1 : Int32)]) (rest := []) (w' := (MC g q d30)) cx hw (c_X5_puts l g q N a3 (4 : Int32) (-1 : Int32) d28 d30 g31) (cl_X5_71 cx.1.2.2.2.2 ⟨Nat.le_of_ble_eq_true rfl, Nat.le_of_ble_eq_true rfl⟩) (x_recv cx hw (ci := 5) rfl 0 rfl) (Ct.all (MC_ll ..)) hl.1 rfl rfl (Nat.le_of_ble_eq_true rfl) dX5_comes_78 ⟨Nat.le_of_ble_eq_true rfl, Nat.le_of_ble_eq_true rfl⟩ (st1 := []) rfl (fun H locs hw => ?_)
        refine lv_aload_n hx hb dX5_comes_81 rfl (lv_at hl 0 rfl) ?_
        refine lv_iload_n hx hb dX5_comes_82 rfl (lv_at hl 3 rfl) ?_
        refine lv_iconst (v := 5) hx hb dX5_comes_83 (by decide) ?_
        refine lv_iconst (v := 1) hx hb dX5_comes_84 (by decide) ?_
        obtain ⟨d32, g33, h⟩ := bd_ex h
        refine c_V (As := [.int a3, .int (5 : Int32), .int (1 : Int32)]) (rest := []) (w' := (MC g q d32)) cx hw (c_X5_puts l g q N a3 (5 : Int32) (1 : Int32) d30 d32 g33) (cl_X5_71 cx.1.2.2.2.2 ⟨Nat.le_of_ble_eq_true rfl, Nat.le_of_ble_eq_true rfl⟩) (x_recv cx hw (ci := 5) rfl 0 rfl) (Ct.all (MC_ll ..)) hl.1 rfl rfl (Nat.le_of_ble_eq_true rfl) dX5_comes_85 ⟨Nat.le_of_ble_eq_true rfl, Nat.le_of_ble_eq_true rfl⟩ (st1 := []) rfl (fun H locs hw => ?_)
        refine lv_iload_n hx hb dX5_comes_88 rfl (lv_at hl 3 rfl) ?_
        exact r_i cx hr hlocks hw (pr1 h) (congrArg (fun z0 => (MC g q z0)) (pr2 h)) dX5_comes_89
      · replace h := ite_f c21 h
        refine lv_aload_n hx hb dX5_comes_27 rfl (lv_at hl 0 rfl) ?_
        refine lv_iload_n hx hb dX5_comes_28 rfl (lv_at hl 3 rfl) ?_
        refine lv_bipush (v := 6) hx hb dX5_comes_29 (by decide) ?_
        refine lv_iload hx hb dX5_comes_31 (lv_at hl 4 rfl) ?_
        refine lv_iadd hx hb dX5_comes_33 ?_
        refine lv_iconst (v := 0) hx hb dX5_comes_34 (by decide) ?_
        obtain ⟨d34, g35, h⟩ := bd_ex h
        refine c_V (As := [.int a3, .int ((6 : Int32) + a4), .int (0 : Int32)]) (rest := []) (w' := (MC g q d34)) cx hw (c_X5_puts l g q N a3 ((6 : Int32) + a4) (0 : Int32) d_ d34 g35) (cl_X5_71 cx.1.2.2.2.2 ⟨Nat.le_of_ble_eq_true rfl, Nat.le_of_ble_eq_true rfl⟩) (x_recv cx hw (ci := 5) rfl 0 rfl) (Ct.all (MC_ll ..)) hl.1 rfl rfl (Nat.le_of_ble_eq_true rfl) dX5_comes_35 ⟨Nat.le_of_ble_eq_true rfl, Nat.le_of_ble_eq_true rfl⟩ (st1 := []) rfl (fun H locs hw => ?_)
        obtain ⟨x36, ex36⟩ : ∃ y : Int32, y = (a4 + 1) := ⟨_, rfl⟩
        replace h := lt_nx ex36 h
        refine lv_iinc (v := x36) (lv' := [(4, .int x36), (0, .ref (q 0)), (1, .int a1), (2, .int a2), (3, .int a3)]) hx hb dX5_comes_38 hl (k := 4) rfl (by rw [ex36]; rfl) (by decide) rfl (fun ls hl => ?_)
        refine lv_goto (tgt := 20) hx hb dX5_comes_41 (by decide) ?_
        exact ih20 a1 a2 a3 x36 d34 _ _ _ hw (lv_sub hl [1, 2, 3, 4, 0] rfl) h
  unfold f_X5_comes at h
  refine lv_aload_n hx hb dX5_comes_0 rfl (lv_at hl 0 rfl) ?_
  refine gf_X5_7 cx hw 0 rfl rfl dX5_comes_1 ?_
  refine lv_iconst (v := 0) hx hb dX5_comes_4 (by decide) ?_
  have ix1 := rd_in h
  refine x_iald cx hw 1 rfl ix1 dX5_comes_5 ?_
  refine lv_topi (fun x1 ex1 => ?_)
  replace h := rd_nx ex1 h
  refine lv_istore_n (lv' := [(3, .int x1), (0, .ref (q 0)), (1, .int p1), (2, .int p2)]) hx hb dX5_comes_6 rfl hl (by decide) rfl (fun ls hl => ?_)
  refine lv_aload_n hx hb dX5_comes_7 rfl (lv_at hl 1 rfl) ?_
  refine gf_X5_7 cx hw 0 rfl rfl dX5_comes_8 ?_
  refine lv_iconst (v := 0) hx hb dX5_comes_11 (by decide) ?_
  refine lv_dup2_11 hx hb dX5_comes_12 rfl rfl ?_
  have ix2 := rd_in h
  refine x_iald cx hw 1 rfl ix2 dX5_comes_13 ?_
  refine lv_topi (fun x2 ex2 => ?_)
  replace h := rd_nx ex2 h
  refine lv_iconst (v := 1) hx hb dX5_comes_14 (by decide) ?_
  refine lv_iadd hx hb dX5_comes_15 ?_
  have i3 := ck_in h
  replace h := ck_nx h
  refine x_iast cx hw 1 rfl i3 dX5_comes_16 (fun H locs hw => ?_)
  obtain ⟨d4, ed4, h⟩ := lt_ex h
  have hw : Wd g (va_A ((MC g q d)) s.heap.size) ((MC g q d4)) s H locs := by rw [ed4]; exact hw
  refine lv_iconst (v := 0) hx hb dX5_comes_17 (by decide) ?_
  refine lv_istore (lv' := [(4, .int (0 : Int32)), (3, .int x1), (0, .ref (q 0)), (1, .int p1), (2, .int p2)]) hx hb dX5_comes_18 hl (by decide) rfl (fun ls hl => ?_)
  exact L20 N p1 p2 x1 (0 : Int32) d4 _ _ _ hw (lv_sub hl [2, 3, 4, 1, 0] rfl) h
set_option maxHeartbeats 4000000 in
set_option maxRecDepth 100000 in
theorem c_X5_person (l : Launch) (g : gE) (q : Nat → Nat) (N : Nat) (p1 : Int32) (p2 : Int32) (d : MD) (r : Int32) (d' : MD) (h : f_X5_person N  p1 p2 d = some (r, d')) : MO l yX5_person (Cond.code yX5_person cX5_person 3 (some .int) :: TB) rm_X5_person [.ref (q 0), .int p1, .int p2] g ((MC g q d)) ((MC g q d')) (some (.int r)) 0 0 := by
  refine MO.of (cc := cX5_person) (maxL := 3) (ret := (some .int)) (by decide) ?_
  intro p e s m below meth c cx hw hr hlocks _
  have hx := cx.1.1
  have hb := cx.1.2.1
  refine en_go (lv := [(0, .ref (q 0)), (1, .int p1), (2, .int p2)]) (Nat.le_of_ble_eq_true rfl) rfl (fun ls hl => ?_)
  unfold f_X5_person at h
  refine lv_iload_n hx hb dX5_person_0 rfl (lv_at hl 1 rfl) ?_
  refine lv_i2l hx hb dX5_person_1 rfl ?_
  refine lv_lconst (v := 0) hx hb dX5_person_2 (by decide) ?_
  refine lv_ldc2 hx hb cx.1.2.2.2.1 (cx.1.2.2.2.2 _ tw_4_97) dX5_person_3 ?_
  obtain ⟨x1, g2, h⟩ := bd_ex h
  refine c_S (As := [.long ((p1).toInt64), .long (0 : Int64), .long (5 : Int64)]) (rest := []) (w' := (MC g q d)) cx hw (c_X5_isIn l g  N ((p1).toInt64) (0 : Int64) (5 : Int64)  x1 g2) (cl_X5_54 cx.1.2.2.2.2 ⟨Nat.le_of_ble_eq_true rfl, Nat.le_of_ble_eq_true rfl⟩) Ct.nil hl.1 rfl rfl (Nat.le_of_ble_eq_true rfl) dX5_person_6 ⟨Nat.le_of_ble_eq_true rfl, Nat.le_of_ble_eq_true rfl⟩ (st1 := [.int x1]) rfl (fun H locs hw => ?_)
  refine lv_if_eq (tgt := 24) hx hb dX5_person_9 (by decide) (fun c3 => ?_) (fun c3 => ?_)
  · replace h := ite_t c3 h
    refine lv_aload_n hx hb dX5_person_24 rfl (lv_at hl 0 rfl) ?_
    refine lv_ldc hx hb cx.1.2.2.2.1 (cx.1.2.2.2.2 _ tw_4_79) dX5_person_25 ?_
    obtain ⟨x4, d5, g6, h⟩ := bd2_ex h
    refine c_V (As := [.int (-1000000001 : Int32)]) (rest := []) (w' := (MC g q d5)) cx hw (c_X5_finds l g q N (-1000000001 : Int32) d x4 d5 g6) (cl_X5_62 cx.1.2.2.2.2 ⟨Nat.le_of_ble_eq_true rfl, Nat.le_of_ble_eq_true rfl⟩) (x_recv cx hw (ci := 5) rfl 0 rfl) (Ct.all (MC_ll ..)) hl.1 rfl rfl (Nat.le_of_ble_eq_true rfl) dX5_person_27 ⟨Nat.le_of_ble_eq_true rfl, Nat.le_of_ble_eq_true rfl⟩ (st1 := [.int x4]) rfl (fun H locs hw => ?_)
    exact r_i cx hr hlocks hw (pr1 h) (congrArg (fun z0 => (MC g q z0)) (pr2 h)) dX5_person_30
  · replace h := ite_f c3 h
    refine lv_iload_n hx hb dX5_person_12 rfl (lv_at hl 2 rfl) ?_
    refine lv_i2l hx hb dX5_person_13 rfl ?_
    refine lv_lconst (v := 0) hx hb dX5_person_14 (by decide) ?_
    refine lv_ldc2 hx hb cx.1.2.2.2.1 (cx.1.2.2.2.2 _ tw_4_98) dX5_person_15 ?_
    obtain ⟨x7, g8, h⟩ := bd_ex h
    refine c_S (As := [.long ((p2).toInt64), .long (0 : Int64), .long (120 : Int64)]) (rest := []) (w' := (MC g q d)) cx hw (c_X5_isIn l g  N ((p2).toInt64) (0 : Int64) (120 : Int64)  x7 g8) (cl_X5_54 cx.1.2.2.2.2 ⟨Nat.le_of_ble_eq_true rfl, Nat.le_of_ble_eq_true rfl⟩) Ct.nil hl.1 rfl rfl (Nat.le_of_ble_eq_true rfl) dX5_person_18 ⟨Nat.le_of_ble_eq_true rfl, Nat.le_of_ble_eq_true rfl⟩ (st1 := [.int x7]) rfl (fun H locs hw => ?_)
    refine lv_if_ne (tgt := 31) hx hb dX5_person_21 (by decide) (fun c9 => ?_) (fun c9 => ?_)
    · replace h := ite_f c9 h
      refine lv_aload_n hx hb dX5_person_31 rfl (lv_at hl 0 rfl) ?_
      refine gf_X5_7 cx hw 0 rfl rfl dX5_person_32 ?_
      refine lv_iconst (v := 0) hx hb dX5_person_35 (by decide) ?_
      have ix10 := rd_in h
      refine x_iald cx hw 1 rfl ix10 dX5_person_36 ?_
      refine lv_topi (fun x10 ex10 => ?_)
      replace h := rd_nx ex10 h
      refine lv_bipush (v := 12) hx hb dX5_person_37 (by decide) ?_
      refine lv_icmp_ne (tgt := 51) hx hb dX5_person_39 (by decide) (fun c11 => ?_) (fun c11 => ?_)
      · replace h := ite_f c11 h
        refine lv_aload_n hx hb dX5_person_51 rfl (lv_at hl 0 rfl) ?_
        refine lv_iload_n hx hb dX5_person_52 rfl (lv_at hl 1 rfl) ?_
        refine lv_iload_n hx hb dX5_person_53 rfl (lv_at hl 2 rfl) ?_
        obtain ⟨x12, d13, g14, h⟩ := bd2_ex h
        refine c_V (As := [.int p1, .int p2]) (rest := []) (w' := (MC g q d13)) cx hw (c_X5_comes l g q N p1 p2 d x12 d13 g14) (cl_X5_80 cx.1.2.2.2.2 ⟨Nat.le_of_ble_eq_true rfl, Nat.le_of_ble_eq_true rfl⟩) (x_recv cx hw (ci := 5) rfl 0 rfl) (Ct.all (MC_ll ..)) hl.1 rfl rfl (Nat.le_of_ble_eq_true rfl) dX5_person_54 ⟨Nat.le_of_ble_eq_true rfl, Nat.le_of_ble_eq_true rfl⟩ (st1 := [.int x12]) rfl (fun H locs hw => ?_)
        exact r_i cx hr hlocks hw (pr1 h) (congrArg (fun z0 => (MC g q z0)) (pr2 h)) dX5_person_57
      · replace h := ite_t c11 h
        refine lv_aload_n hx hb dX5_person_42 rfl (lv_at hl 0 rfl) ?_
        refine lv_ldc hx hb cx.1.2.2.2.1 (cx.1.2.2.2.2 _ tw_4_99) dX5_person_43 ?_
        obtain ⟨x15, d16, g17, h⟩ := bd2_ex h
        refine c_V (As := [.int (-1000000002 : Int32)]) (rest := []) (w' := (MC g q d16)) cx hw (c_X5_finds l g q N (-1000000002 : Int32) d x15 d16 g17) (cl_X5_62 cx.1.2.2.2.2 ⟨Nat.le_of_ble_eq_true rfl, Nat.le_of_ble_eq_true rfl⟩) (x_recv cx hw (ci := 5) rfl 0 rfl) (Ct.all (MC_ll ..)) hl.1 rfl rfl (Nat.le_of_ble_eq_true rfl) dX5_person_45 ⟨Nat.le_of_ble_eq_true rfl, Nat.le_of_ble_eq_true rfl⟩ (st1 := [.int x15]) rfl (fun H locs hw => ?_)
        refine lv_goto (tgt := 57) hx hb dX5_person_48 (by decide) ?_
        exact r_i cx hr hlocks hw (pr1 h) (congrArg (fun z0 => (MC g q z0)) (pr2 h)) dX5_person_57
    · replace h := ite_t c9 h
      refine lv_aload_n hx hb dX5_person_24 rfl (lv_at hl 0 rfl) ?_
      refine lv_ldc hx hb cx.1.2.2.2.1 (cx.1.2.2.2.2 _ tw_4_79) dX5_person_25 ?_
      obtain ⟨x18, d19, g20, h⟩ := bd2_ex h
      refine c_V (As := [.int (-1000000001 : Int32)]) (rest := []) (w' := (MC g q d19)) cx hw (c_X5_finds l g q N (-1000000001 : Int32) d x18 d19 g20) (cl_X5_62 cx.1.2.2.2.2 ⟨Nat.le_of_ble_eq_true rfl, Nat.le_of_ble_eq_true rfl⟩) (x_recv cx hw (ci := 5) rfl 0 rfl) (Ct.all (MC_ll ..)) hl.1 rfl rfl (Nat.le_of_ble_eq_true rfl) dX5_person_27 ⟨Nat.le_of_ble_eq_true rfl, Nat.le_of_ble_eq_true rfl⟩ (st1 := [.int x18]) rfl (fun H locs hw => ?_)
      exact r_i cx hr hlocks hw (pr1 h) (congrArg (fun z0 => (MC g q z0)) (pr2 h)) dX5_person_30
set_option maxHeartbeats 4000000 in
set_option maxRecDepth 100000 in
theorem c_X5_richestBut (l : Launch) (g : gE) (q : Nat → Nat) (N : Nat) (p1 : Int32) (d : MD) (r : Int32) (h : f_X5_richestBut N  p1 d = some r) : MO l yX5_richestBut (Cond.code yX5_richestBut cX5_richestBut 5 (some .int) :: TB) rm_X5_richestBut [.ref (q 0), .int p1] g ((MC g q d)) ((MC g q d)) (some (.int r)) 0 0 := by
  refine MO.of (cc := cX5_richestBut) (maxL := 5) (ret := (some .int)) (by decide) ?_
  intro p e s m below meth c cx hw hr hlocks _
  have hx := cx.1.1
  have hb := cx.1.2.1
  refine en_go (lv := [(0, .ref (q 0)), (1, .int p1)]) (Nat.le_of_ble_eq_true rfl) rfl (fun ls hl => ?_)
  have L4 : ∀ (n4 : Nat) (a1 : Int32) (a2 : Int32) (a3 : Int32) (H : Heap) (locs : List Loc) (ls : Array Slot), Wd g (va_A ((MC g q d)) s.heap.size) ((MC g q d)) s H locs → lv_has ls 5 [(0, .ref (q 0)), (1, .int a1), (2, .int a2), (3, .int a3)] → f_X5_richestBut_L4 N d  n4 a1 a2 a3 = some r → W p l e rm_X5_richestBut s m ([.ref (q 0), .int p1] : List Value).toArray below meth c H locs 0 0 (MQ below (QO (some (.int r)) g ((MC g q d)) (va_A ((MC g q d)) s.heap.size)) ([.ref (q 0), .int p1] : List Value).toArray s 0 0 (va_A ((MC g q d)) s.heap.size)) (F0 m 4 ls []) := by
    intro n4
    induction n4 with
    | zero => intro a1 a2 a3 H locs ls hw hl h; exact (Option.some_ne_none _ h.symm).elim
    | succ n4 ih4 =>
      have J51 : ∀ (a1 : Int32) (a2 : Int32) (a3 : Int32) (t0 : Int32) (H : Heap) (locs : List Loc) (ls : Array Slot), Wd g (va_A ((MC g q d)) s.heap.size) ((MC g q d)) s H locs → lv_has ls 5 [(0, .ref (q 0)), (1, .int a1), (2, .int a2), (3, .int a3)] → f_X5_richestBut_J51 N d (f_X5_richestBut_L4 N d  n4) a1 a2 a3 t0 = some r → W p l e rm_X5_richestBut s m ([.ref (q 0), .int p1] : List Value).toArray below meth c H locs 0 0 (MQ below (QO (some (.int r)) g ((MC g q d)) (va_A ((MC g q d)) s.heap.size)) ([.ref (q 0), .int p1] : List Value).toArray s 0 0 (va_A ((MC g q d)) s.heap.size)) (F0 m 51 ls [.int t0]) := by
        intro a1 a2 a3 t0 H locs ls hw hl h
        unfold f_X5_richestBut_J51 at h
        refine lv_istore (lv' := [(4, .int t0), (0, .ref (q 0)), (1, .int a1), (2, .int a2), (3, .int a3)]) hx hb dX5_richestBut_51 hl (by decide) rfl (fun ls hl => ?_)
        refine lv_iload hx hb dX5_richestBut_53 (lv_at hl 0 rfl) ?_
        refine lv_if_eq (tgt := 62) hx hb dX5_richestBut_55 (by decide) (fun c16 => ?_) (fun c16 => ?_)
        · replace h := ite_t c16 h
          refine lv_iload_n hx hb dX5_richestBut_62 rfl (lv_at hl 3 rfl) ?_
          refine lv_istore_n (lv' := [(2, .int a2), (4, .int t0), (0, .ref (q 0)), (1, .int a1), (3, .int a3)]) hx hb dX5_richestBut_63 rfl hl (by decide) rfl (fun ls hl => ?_)
          obtain ⟨x17, ex17⟩ : ∃ y : Int32, y = (a3 + 1) := ⟨_, rfl⟩
          replace h := lt_nx ex17 h
          refine lv_iinc (v := x17) (lv' := [(3, .int x17), (2, .int a2), (4, .int t0), (0, .ref (q 0)), (1, .int a1)]) hx hb dX5_richestBut_64 hl (k := 4) rfl (by rw [ex17]; rfl) (by decide) rfl (fun ls hl => ?_)
          refine lv_goto (tgt := 4) hx hb dX5_richestBut_67 (by decide) ?_
          exact ih4 a1 a2 x17 _ _ _ hw (lv_sub hl [3, 4, 1, 0] rfl) h
        · replace h := ite_f c16 h
          refine lv_iload_n hx hb dX5_richestBut_58 rfl (lv_at hl 4 rfl) ?_
          refine lv_goto (tgt := 63) hx hb dX5_richestBut_59 (by decide) ?_
          refine lv_istore_n (lv' := [(2, .int a3), (4, .int t0), (0, .ref (q 0)), (1, .int a1), (3, .int a3)]) hx hb dX5_richestBut_63 rfl hl (by decide) rfl (fun ls hl => ?_)
          obtain ⟨x18, ex18⟩ : ∃ y : Int32, y = (a3 + 1) := ⟨_, rfl⟩
          replace h := lt_nx ex18 h
          refine lv_iinc (v := x18) (lv' := [(3, .int x18), (2, .int a3), (4, .int t0), (0, .ref (q 0)), (1, .int a1)]) hx hb dX5_richestBut_64 hl (k := 4) rfl (by rw [ex18]; rfl) (by decide) rfl (fun ls hl => ?_)
          refine lv_goto (tgt := 4) hx hb dX5_richestBut_67 (by decide) ?_
          exact ih4 a1 a3 x18 _ _ _ hw (lv_sub hl [3, 4, 1, 0] rfl) h
      have J50 : ∀ (a1 : Int32) (a2 : Int32) (a3 : Int32) (H : Heap) (locs : List Loc) (ls : Array Slot), Wd g (va_A ((MC g q d)) s.heap.size) ((MC g q d)) s H locs → lv_has ls 5 [(0, .ref (q 0)), (1, .int a1), (2, .int a2), (3, .int a3)] → f_X5_richestBut_J50 N d (f_X5_richestBut_L4 N d  n4) a1 a2 a3 = some r → W p l e rm_X5_richestBut s m ([.ref (q 0), .int p1] : List Value).toArray below meth c H locs 0 0 (MQ below (QO (some (.int r)) g ((MC g q d)) (va_A ((MC g q d)) s.heap.size)) ([.ref (q 0), .int p1] : List Value).toArray s 0 0 (va_A ((MC g q d)) s.heap.size)) (F0 m 50 ls []) := by
        intro a1 a2 a3 H locs ls hw hl h
        unfold f_X5_richestBut_J50 at h
        refine lv_iconst (v := 0) hx hb dX5_richestBut_50 (by decide) ?_
        exact J51 a1 a2 a3 (0 : Int32) _ _ _ hw (lv_sub hl [0, 1, 2, 3] rfl) h
      have J46 : ∀ (a1 : Int32) (a2 : Int32) (a3 : Int32) (H : Heap) (locs : List Loc) (ls : Array Slot), Wd g (va_A ((MC g q d)) s.heap.size) ((MC g q d)) s H locs → lv_has ls 5 [(0, .ref (q 0)), (1, .int a1), (2, .int a2), (3, .int a3)] → f_X5_richestBut_J46 N d (f_X5_richestBut_L4 N d  n4) a1 a2 a3 = some r → W p l e rm_X5_richestBut s m ([.ref (q 0), .int p1] : List Value).toArray below meth c H locs 0 0 (MQ below (QO (some (.int r)) g ((MC g q d)) (va_A ((MC g q d)) s.heap.size)) ([.ref (q 0), .int p1] : List Value).toArray s 0 0 (va_A ((MC g q d)) s.heap.size)) (F0 m 46 ls []) := by
        intro a1 a2 a3 H locs ls hw hl h
        unfold f_X5_richestBut_J46 at h
        refine lv_iconst (v := 1) hx hb dX5_richestBut_46 (by decide) ?_
        refine lv_goto (tgt := 51) hx hb dX5_richestBut_47 (by decide) ?_
        exact J51 a1 a2 a3 (1 : Int32) _ _ _ hw (lv_sub hl [0, 1, 2, 3] rfl) h
      intro a1 a2 a3 H locs ls hw hl h
      rw [f_X5_richestBut_L4] at h
      refine lv_iload_n hx hb dX5_richestBut_4 rfl (lv_at hl 3 rfl) ?_
      refine lv_aload_n hx hb dX5_richestBut_5 rfl (lv_at hl 0 rfl) ?_
      refine gf_X5_7 cx hw 0 rfl rfl dX5_richestBut_6 ?_
      refine lv_iconst (v := 0) hx hb dX5_richestBut_9 (by decide) ?_
      have ix19 := rd_in h
      refine x_iald cx hw 1 rfl ix19 dX5_richestBut_10 ?_
      refine lv_topi (fun x19 ex19 => ?_)
      replace h := rd_nx ex19 h
      refine lv_icmp_ge (tgt := 70) hx hb dX5_richestBut_11 (by decide) (fun c20 => ?_) (fun c20 => ?_)
      · replace h := ite_t c20 h
        refine lv_iload_n hx hb dX5_richestBut_70 rfl (lv_at hl 2 rfl) ?_
        exact r_i cx hr hlocks hw (sm_eq h) rfl dX5_richestBut_71
      · replace h := ite_f c20 h
        refine lv_iload_n hx hb dX5_richestBut_14 rfl (lv_at hl 3 rfl) ?_
        refine lv_iload_n hx hb dX5_richestBut_15 rfl (lv_at hl 1 rfl) ?_
        refine lv_icmp_eq (tgt := 50) hx hb dX5_richestBut_16 (by decide) (fun c21 => ?_) (fun c21 => ?_)
        · replace h := ite_t c21 h
          exact J50 a1 a2 a3 _ _ _ hw (lv_sub hl [0, 1, 2, 3] rfl) h
        · replace h := ite_f c21 h
          refine lv_aload_n hx hb dX5_richestBut_19 rfl (lv_at hl 0 rfl) ?_
          refine lv_iload_n hx hb dX5_richestBut_20 rfl (lv_at hl 3 rfl) ?_
          obtain ⟨x22, g23, h⟩ := bd_ex h
          refine c_V (As := [.int a3]) (rest := []) (w' := (MC g q d)) cx hw (c_X5_lives l g q N a3 d x22 g23) (cl_X5_107 cx.1.2.2.2.2 ⟨Nat.le_of_ble_eq_true rfl, Nat.le_of_ble_eq_true rfl⟩) (x_recv cx hw (ci := 5) rfl 0 rfl) (Ct.all (MC_ll ..)) hl.1 rfl rfl (Nat.le_of_ble_eq_true rfl) dX5_richestBut_21 ⟨Nat.le_of_ble_eq_true rfl, Nat.le_of_ble_eq_true rfl⟩ (st1 := [.int x22]) rfl (fun H locs hw => ?_)
          refine lv_if_eq (tgt := 50) hx hb dX5_richestBut_24 (by decide) (fun c24 => ?_) (fun c24 => ?_)
          · replace h := ite_t c24 h
            exact J50 a1 a2 a3 _ _ _ hw (lv_sub hl [0, 1, 2, 3] rfl) h
          · replace h := ite_f c24 h
            refine lv_iload_n hx hb dX5_richestBut_27 rfl (lv_at hl 2 rfl) ?_
            refine lv_if_lt (tgt := 46) hx hb dX5_richestBut_28 (by decide) (fun c25 => ?_) (fun c25 => ?_)
            · replace h := ite_t c25 h
              exact J46 a1 a2 a3 _ _ _ hw (lv_sub hl [0, 1, 2, 3] rfl) h
            · replace h := ite_f c25 h
              refine lv_aload_n hx hb dX5_richestBut_31 rfl (lv_at hl 0 rfl) ?_
              refine lv_iload_n hx hb dX5_richestBut_32 rfl (lv_at hl 3 rfl) ?_
              refine lv_iconst (v := 2) hx hb dX5_richestBut_33 (by decide) ?_
              obtain ⟨x26, g27, h⟩ := bd_ex h
              refine c_V (As := [.int a3, .int (2 : Int32)]) (rest := []) (w' := (MC g q d)) cx hw (c_X5_is l g q N a3 (2 : Int32) d x26 g27) (cl_X5_47 cx.1.2.2.2.2 ⟨Nat.le_of_ble_eq_true rfl, Nat.le_of_ble_eq_true rfl⟩) (x_recv cx hw (ci := 5) rfl 0 rfl) (Ct.all (MC_ll ..)) hl.1 rfl rfl (Nat.le_of_ble_eq_true rfl) dX5_richestBut_34 ⟨Nat.le_of_ble_eq_true rfl, Nat.le_of_ble_eq_true rfl⟩ (st1 := [.int x26]) rfl (fun H locs hw => ?_)
              refine lv_aload_n hx hb dX5_richestBut_37 rfl (lv_at hl 0 rfl) ?_
              refine lv_iload_n hx hb dX5_richestBut_38 rfl (lv_at hl 2 rfl) ?_
              refine lv_iconst (v := 2) hx hb dX5_richestBut_39 (by decide) ?_
              obtain ⟨x28, g29, h⟩ := bd_ex h
              refine c_V (As := [.int a2, .int (2 : Int32)]) (rest := [.int x26]) (w' := (MC g q d)) cx hw (c_X5_is l g q N a2 (2 : Int32) d x28 g29) (cl_X5_47 cx.1.2.2.2.2 ⟨Nat.le_of_ble_eq_true rfl, Nat.le_of_ble_eq_true rfl⟩) (x_recv cx hw (ci := 5) rfl 0 rfl) (Ct.all (MC_ll ..)) hl.1 rfl rfl (Nat.le_of_ble_eq_true rfl) dX5_richestBut_40 ⟨Nat.le_of_ble_eq_true rfl, Nat.le_of_ble_eq_true rfl⟩ (st1 := [.int x28, .int x26]) rfl (fun H locs hw => ?_)
              refine lv_icmp_le (tgt := 50) hx hb dX5_richestBut_43 (by decide) (fun c30 => ?_) (fun c30 => ?_)
              · replace h := ite_t c30 h
                exact J50 a1 a2 a3 _ _ _ hw (lv_sub hl [0, 1, 2, 3] rfl) h
              · replace h := ite_f c30 h
                exact J46 a1 a2 a3 _ _ _ hw (lv_sub hl [0, 1, 2, 3] rfl) h
  unfold f_X5_richestBut at h
  refine lv_iconst (v := -1) hx hb dX5_richestBut_0 (by decide) ?_
  refine lv_istore_n (lv' := [(2, .int (-1 : Int32)), (0, .ref (q 0)), (1, .int p1)]) hx hb dX5_richestBut_1 rfl hl (by decide) rfl (fun ls hl => ?_)
  refine lv_iconst (v := 0) hx hb dX5_richestBut_2 (by decide) ?_
  refine lv_istore_n (lv' := [(3, .int (0 : Int32)), (2, .int (-1 : Int32)), (0, .ref (q 0)), (1, .int p1)]) hx hb dX5_richestBut_3 rfl hl (by decide) rfl (fun ls hl => ?_)
  exact L4 N p1 (-1 : Int32) (0 : Int32) _ _ _ hw (lv_sub hl [2, 3, 1, 0] rfl) h
set_option maxHeartbeats 4000000 in
set_option maxRecDepth 100000 in
theorem c_X5_childOf (l : Launch) (g : gE) (q : Nat → Nat) (N : Nat) (p1 : Int32) (d : MD) (r : Int32) (h : f_X5_childOf N  p1 d = some r) : MO l yX5_childOf (Cond.code yX5_childOf cX5_childOf 3 (some .int) :: TB) rm_X5_childOf [.ref (q 0), .int p1] g ((MC g q d)) ((MC g q d)) (some (.int r)) 0 0 := by
  refine MO.of (cc := cX5_childOf) (maxL := 3) (ret := (some .int)) (by decide) ?_
  intro p e s m below meth c cx hw hr hlocks _
  have hx := cx.1.1
  have hb := cx.1.2.1
  refine en_go (lv := [(0, .ref (q 0)), (1, .int p1)]) (Nat.le_of_ble_eq_true rfl) rfl (fun ls hl => ?_)
  unfold f_X5_childOf at h
  refine lv_aload_n hx hb dX5_childOf_0 rfl (lv_at hl 0 rfl) ?_
  refine lv_iload_n hx hb dX5_childOf_1 rfl (lv_at hl 1 rfl) ?_
  refine lv_iconst (v := 4) hx hb dX5_childOf_2 (by decide) ?_
  obtain ⟨x1, g2, h⟩ := bd_ex h
  refine c_V (As := [.int p1, .int (4 : Int32)]) (rest := []) (w' := (MC g q d)) cx hw (c_X5_is l g q N p1 (4 : Int32) d x1 g2) (cl_X5_47 cx.1.2.2.2.2 ⟨Nat.le_of_ble_eq_true rfl, Nat.le_of_ble_eq_true rfl⟩) (x_recv cx hw (ci := 5) rfl 0 rfl) (Ct.all (MC_ll ..)) hl.1 rfl rfl (Nat.le_of_ble_eq_true rfl) dX5_childOf_3 ⟨Nat.le_of_ble_eq_true rfl, Nat.le_of_ble_eq_true rfl⟩ (st1 := [.int x1]) rfl (fun H locs hw => ?_)
  refine lv_istore_n (lv' := [(2, .int x1), (0, .ref (q 0)), (1, .int p1)]) hx hb dX5_childOf_6 rfl hl (by decide) rfl (fun ls hl => ?_)
  refine lv_iload_n hx hb dX5_childOf_7 rfl (lv_at hl 0 rfl) ?_
  refine lv_if_lt (tgt := 23) hx hb dX5_childOf_8 (by decide) (fun c3 => ?_) (fun c3 => ?_)
  · replace h := ite_t c3 h
    refine lv_iconst (v := -1) hx hb dX5_childOf_23 (by decide) ?_
    exact r_i cx hr hlocks hw (sm_eq h) rfl dX5_childOf_24
  · replace h := ite_f c3 h
    refine lv_aload_n hx hb dX5_childOf_11 rfl (lv_at hl 1 rfl) ?_
    refine lv_iload_n hx hb dX5_childOf_12 rfl (lv_at hl 0 rfl) ?_
    obtain ⟨x4, g5, h⟩ := bd_ex h
    refine c_V (As := [.int x1]) (rest := []) (w' := (MC g q d)) cx hw (c_X5_lives l g q N x1 d x4 g5) (cl_X5_107 cx.1.2.2.2.2 ⟨Nat.le_of_ble_eq_true rfl, Nat.le_of_ble_eq_true rfl⟩) (x_recv cx hw (ci := 5) rfl 0 rfl) (Ct.all (MC_ll ..)) hl.1 rfl rfl (Nat.le_of_ble_eq_true rfl) dX5_childOf_13 ⟨Nat.le_of_ble_eq_true rfl, Nat.le_of_ble_eq_true rfl⟩ (st1 := [.int x4]) rfl (fun H locs hw => ?_)
    refine lv_if_eq (tgt := 23) hx hb dX5_childOf_16 (by decide) (fun c6 => ?_) (fun c6 => ?_)
    · replace h := ite_t c6 h
      refine lv_iconst (v := -1) hx hb dX5_childOf_23 (by decide) ?_
      exact r_i cx hr hlocks hw (sm_eq h) rfl dX5_childOf_24
    · replace h := ite_f c6 h
      refine lv_iload_n hx hb dX5_childOf_19 rfl (lv_at hl 0 rfl) ?_
      refine lv_goto (tgt := 24) hx hb dX5_childOf_20 (by decide) ?_
      exact r_i cx hr hlocks hw (sm_eq h) rfl dX5_childOf_24
set_option maxHeartbeats 4000000 in
set_option maxRecDepth 100000 in
theorem c_X5_likeOf (l : Launch) (g : gE) (q : Nat → Nat) (N : Nat) (p1 : Int32) (p2 : Int32) (d : MD) (r : Int32) (h : f_X5_likeOf N  p1 p2 d = some r) : MO l yX5_likeOf (Cond.code yX5_likeOf cX5_likeOf 6 (some .int) :: TB) rm_X5_likeOf [.ref (q 0), .int p1, .int p2] g ((MC g q d)) ((MC g q d)) (some (.int r)) 0 0 := by
  refine MO.of (cc := cX5_likeOf) (maxL := 6) (ret := (some .int)) (by decide) ?_
  intro p e s m below meth c cx hw hr hlocks _
  have hx := cx.1.1
  have hb := cx.1.2.1
  refine en_go (lv := [(0, .ref (q 0)), (1, .int p1), (2, .int p2)]) (Nat.le_of_ble_eq_true rfl) rfl (fun ls hl => ?_)
  have L29 : ∀ (n29 : Nat) (a1 : Int32) (a2 : Int32) (a3 : Int32) (a4 : Int32) (H : Heap) (locs : List Loc) (ls : Array Slot), Wd g (va_A ((MC g q d)) s.heap.size) ((MC g q d)) s H locs → lv_has ls 6 [(0, .ref (q 0)), (1, .int a1), (2, .int a2), (3, .int a3), (4, .int a4)] → f_X5_likeOf_L29 N d  n29 a1 a2 a3 a4 = some r → W p l e rm_X5_likeOf s m ([.ref (q 0), .int p1, .int p2] : List Value).toArray below meth c H locs 0 0 (MQ below (QO (some (.int r)) g ((MC g q d)) (va_A ((MC g q d)) s.heap.size)) ([.ref (q 0), .int p1, .int p2] : List Value).toArray s 0 0 (va_A ((MC g q d)) s.heap.size)) (F0 m 29 ls []) := by
    intro n29
    induction n29 with
    | zero => intro a1 a2 a3 a4 H locs ls hw hl h; exact (Option.some_ne_none _ h.symm).elim
    | succ n29 ih29 =>
      have J81 : ∀ (a1 : Int32) (a2 : Int32) (a3 : Int32) (a4 : Int32) (t0 : Int32) (H : Heap) (locs : List Loc) (ls : Array Slot), Wd g (va_A ((MC g q d)) s.heap.size) ((MC g q d)) s H locs → lv_has ls 6 [(0, .ref (q 0)), (1, .int a1), (2, .int a2), (3, .int a3), (4, .int a4)] → f_X5_likeOf_J81 N d (f_X5_likeOf_L29 N d  n29) a1 a2 a3 a4 t0 = some r → W p l e rm_X5_likeOf s m ([.ref (q 0), .int p1, .int p2] : List Value).toArray below meth c H locs 0 0 (MQ below (QO (some (.int r)) g ((MC g q d)) (va_A ((MC g q d)) s.heap.size)) ([.ref (q 0), .int p1, .int p2] : List Value).toArray s 0 0 (va_A ((MC g q d)) s.heap.size)) (F0 m 81 ls [.int t0]) := by
        intro a1 a2 a3 a4 t0 H locs ls hw hl h
        unfold f_X5_likeOf_J81 at h
        refine lv_istore (lv' := [(5, .int t0), (0, .ref (q 0)), (1, .int a1), (2, .int a2), (3, .int a3), (4, .int a4)]) hx hb dX5_likeOf_81 hl (by decide) rfl (fun ls hl => ?_)
        refine lv_iload_n hx hb dX5_likeOf_83 rfl (lv_at hl 4 rfl) ?_
        refine lv_iload hx hb dX5_likeOf_84 (lv_at hl 0 rfl) ?_
        refine lv_if_eq (tgt := 101) hx hb dX5_likeOf_86 (by decide) (fun c22 => ?_) (fun c22 => ?_)
        · replace h := ite_t c22 h
          refine lv_iconst (v := 0) hx hb dX5_likeOf_101 (by decide) ?_
          refine lv_iadd hx hb dX5_likeOf_102 ?_
          refine lv_topi (fun x23 ex23 => ?_)
          replace h := lt_nx ex23 h
          refine lv_istore_n (lv' := [(3, .int x23), (5, .int t0), (0, .ref (q 0)), (1, .int a1), (2, .int a2), (4, .int a4)]) hx hb dX5_likeOf_103 rfl hl (by decide) rfl (fun ls hl => ?_)
          obtain ⟨x24, ex24⟩ : ∃ y : Int32, y = (a4 + 1) := ⟨_, rfl⟩
          replace h := lt_nx ex24 h
          refine lv_iinc (v := x24) (lv' := [(4, .int x24), (3, .int x23), (5, .int t0), (0, .ref (q 0)), (1, .int a1), (2, .int a2)]) hx hb dX5_likeOf_104 hl (k := 5) rfl (by rw [ex24]; rfl) (by decide) rfl (fun ls hl => ?_)
          refine lv_goto (tgt := 29) hx hb dX5_likeOf_107 (by decide) ?_
          exact ih29 a1 a2 x23 x24 _ _ _ hw (lv_sub hl [3, 4, 5, 1, 0] rfl) h
        · replace h := ite_f c22 h
          refine lv_aload_n hx hb dX5_likeOf_89 rfl (lv_at hl 1 rfl) ?_
          refine gf_X5_7 cx hw 0 rfl rfl dX5_likeOf_90 ?_
          refine lv_iconst (v := 3) hx hb dX5_likeOf_93 (by decide) ?_
          refine lv_iload hx hb dX5_likeOf_94 (lv_at hl 5 rfl) ?_
          refine lv_iadd hx hb dX5_likeOf_96 ?_
          have ix25 := rd_in h
          refine x_iald cx hw 1 rfl ix25 dX5_likeOf_97 ?_
          refine lv_topi (fun x25 ex25 => ?_)
          replace h := rd_nx ex25 h
          refine lv_goto (tgt := 102) hx hb dX5_likeOf_98 (by decide) ?_
          refine lv_iadd hx hb dX5_likeOf_102 ?_
          refine lv_topi (fun x26 ex26 => ?_)
          replace h := lt_nx ex26 h
          refine lv_istore_n (lv' := [(3, .int x26), (5, .int t0), (0, .ref (q 0)), (1, .int a1), (2, .int a2), (4, .int a4)]) hx hb dX5_likeOf_103 rfl hl (by decide) rfl (fun ls hl => ?_)
          obtain ⟨x27, ex27⟩ : ∃ y : Int32, y = (a4 + 1) := ⟨_, rfl⟩
          replace h := lt_nx ex27 h
          refine lv_iinc (v := x27) (lv' := [(4, .int x27), (3, .int x26), (5, .int t0), (0, .ref (q 0)), (1, .int a1), (2, .int a2)]) hx hb dX5_likeOf_104 hl (k := 5) rfl (by rw [ex27]; rfl) (by decide) rfl (fun ls hl => ?_)
          refine lv_goto (tgt := 29) hx hb dX5_likeOf_107 (by decide) ?_
          exact ih29 a1 a2 x26 x27 _ _ _ hw (lv_sub hl [3, 4, 5, 1, 0] rfl) h
      have J80 : ∀ (a1 : Int32) (a2 : Int32) (a3 : Int32) (a4 : Int32) (H : Heap) (locs : List Loc) (ls : Array Slot), Wd g (va_A ((MC g q d)) s.heap.size) ((MC g q d)) s H locs → lv_has ls 6 [(0, .ref (q 0)), (1, .int a1), (2, .int a2), (3, .int a3), (4, .int a4)] → f_X5_likeOf_J80 N d (f_X5_likeOf_L29 N d  n29) a1 a2 a3 a4 = some r → W p l e rm_X5_likeOf s m ([.ref (q 0), .int p1, .int p2] : List Value).toArray below meth c H locs 0 0 (MQ below (QO (some (.int r)) g ((MC g q d)) (va_A ((MC g q d)) s.heap.size)) ([.ref (q 0), .int p1, .int p2] : List Value).toArray s 0 0 (va_A ((MC g q d)) s.heap.size)) (F0 m 80 ls []) := by
        intro a1 a2 a3 a4 H locs ls hw hl h
        unfold f_X5_likeOf_J80 at h
        refine lv_iconst (v := 0) hx hb dX5_likeOf_80 (by decide) ?_
        exact J81 a1 a2 a3 a4 (0 : Int32) _ _ _ hw (lv_sub hl [0, 1, 2, 3, 4] rfl) h
      have J76 : ∀ (a1 : Int32) (a2 : Int32) (a3 : Int32) (a4 : Int32) (H : Heap) (locs : List Loc) (ls : Array Slot), Wd g (va_A ((MC g q d)) s.heap.size) ((MC g q d)) s H locs → lv_has ls 6 [(0, .ref (q 0)), (1, .int a1), (2, .int a2), (3, .int a3), (4, .int a4)] → f_X5_likeOf_J76 N d (f_X5_likeOf_L29 N d  n29) a1 a2 a3 a4 = some r → W p l e rm_X5_likeOf s m ([.ref (q 0), .int p1, .int p2] : List Value).toArray below meth c H locs 0 0 (MQ below (QO (some (.int r)) g ((MC g q d)) (va_A ((MC g q d)) s.heap.size)) ([.ref (q 0), .int p1, .int p2] : List Value).toArray s 0 0 (va_A ((MC g q d)) s.heap.size)) (F0 m 76 ls []) := by
        intro a1 a2 a3 a4 H locs ls hw hl h
        unfold f_X5_likeOf_J76 at h
        refine lv_iconst (v := 1) hx hb dX5_likeOf_76 (by decide) ?_
        refine lv_goto (tgt := 81) hx hb dX5_likeOf_77 (by decide) ?_
        exact J81 a1 a2 a3 a4 (1 : Int32) _ _ _ hw (lv_sub hl [0, 1, 2, 3, 4] rfl) h
      intro a1 a2 a3 a4 H locs ls hw hl h
      rw [f_X5_likeOf_L29] at h
      refine lv_iload hx hb dX5_likeOf_29 (lv_at hl 4 rfl) ?_
      refine lv_bipush (v := 9) hx hb dX5_likeOf_31 (by decide) ?_
      refine lv_icmp_ge (tgt := 110) hx hb dX5_likeOf_33 (by decide) (fun c28 => ?_) (fun c28 => ?_)
      · replace h := ite_t c28 h
        refine lv_iload_n hx hb dX5_likeOf_110 rfl (lv_at hl 3 rfl) ?_
        exact r_i cx hr hlocks hw (sm_eq h) rfl dX5_likeOf_111
      · replace h := ite_f c28 h
        refine lv_aload_n hx hb dX5_likeOf_36 rfl (lv_at hl 0 rfl) ?_
        refine lv_iload_n hx hb dX5_likeOf_37 rfl (lv_at hl 1 rfl) ?_
        refine lv_bipush (v := 6) hx hb dX5_likeOf_38 (by decide) ?_
        refine lv_iload hx hb dX5_likeOf_40 (lv_at hl 4 rfl) ?_
        refine lv_iadd hx hb dX5_likeOf_42 ?_
        obtain ⟨x29, g30, h⟩ := bd_ex h
        refine c_V (As := [.int a1, .int ((6 : Int32) + a4)]) (rest := []) (w' := (MC g q d)) cx hw (c_X5_is l g q N a1 ((6 : Int32) + a4) d x29 g30) (cl_X5_47 cx.1.2.2.2.2 ⟨Nat.le_of_ble_eq_true rfl, Nat.le_of_ble_eq_true rfl⟩) (x_recv cx hw (ci := 5) rfl 0 rfl) (Ct.all (MC_ll ..)) hl.1 rfl rfl (Nat.le_of_ble_eq_true rfl) dX5_likeOf_43 ⟨Nat.le_of_ble_eq_true rfl, Nat.le_of_ble_eq_true rfl⟩ (st1 := [.int x29]) rfl (fun H locs hw => ?_)
        refine lv_aload_n hx hb dX5_likeOf_46 rfl (lv_at hl 0 rfl) ?_
        refine lv_iload_n hx hb dX5_likeOf_47 rfl (lv_at hl 2 rfl) ?_
        refine lv_bipush (v := 6) hx hb dX5_likeOf_48 (by decide) ?_
        refine lv_iload hx hb dX5_likeOf_50 (lv_at hl 4 rfl) ?_
        refine lv_iadd hx hb dX5_likeOf_52 ?_
        obtain ⟨x31, g32, h⟩ := bd_ex h
        refine c_V (As := [.int a2, .int ((6 : Int32) + a4)]) (rest := [.int x29]) (w' := (MC g q d)) cx hw (c_X5_is l g q N a2 ((6 : Int32) + a4) d x31 g32) (cl_X5_47 cx.1.2.2.2.2 ⟨Nat.le_of_ble_eq_true rfl, Nat.le_of_ble_eq_true rfl⟩) (x_recv cx hw (ci := 5) rfl 0 rfl) (Ct.all (MC_ll ..)) hl.1 rfl rfl (Nat.le_of_ble_eq_true rfl) dX5_likeOf_53 ⟨Nat.le_of_ble_eq_true rfl, Nat.le_of_ble_eq_true rfl⟩ (st1 := [.int x31, .int x29]) rfl (fun H locs hw => ?_)
        refine lv_icmp_eq (tgt := 76) hx hb dX5_likeOf_56 (by decide) (fun c33 => ?_) (fun c33 => ?_)
        · replace h := ite_t c33 h
          exact J76 a1 a2 a3 a4 _ _ _ hw (lv_sub hl [0, 1, 2, 3, 4] rfl) h
        · replace h := ite_f c33 h
          refine lv_iload hx hb dX5_likeOf_59 (lv_at hl 4 rfl) ?_
          refine lv_bipush (v := 8) hx hb dX5_likeOf_61 (by decide) ?_
          refine lv_icmp_ne (tgt := 80) hx hb dX5_likeOf_63 (by decide) (fun c34 => ?_) (fun c34 => ?_)
          · replace h := ite_f c34 h
            exact J80 a1 a2 a3 a4 _ _ _ hw (lv_sub hl [0, 1, 2, 3, 4] rfl) h
          · replace h := ite_t c34 h
            refine lv_aload_n hx hb dX5_likeOf_66 rfl (lv_at hl 0 rfl) ?_
            refine lv_iload_n hx hb dX5_likeOf_67 rfl (lv_at hl 2 rfl) ?_
            refine lv_iconst (v := 0) hx hb dX5_likeOf_68 (by decide) ?_
            obtain ⟨x35, g36, h⟩ := bd_ex h
            refine c_V (As := [.int a2, .int (0 : Int32)]) (rest := []) (w' := (MC g q d)) cx hw (c_X5_is l g q N a2 (0 : Int32) d x35 g36) (cl_X5_47 cx.1.2.2.2.2 ⟨Nat.le_of_ble_eq_true rfl, Nat.le_of_ble_eq_true rfl⟩) (x_recv cx hw (ci := 5) rfl 0 rfl) (Ct.all (MC_ll ..)) hl.1 rfl rfl (Nat.le_of_ble_eq_true rfl) dX5_likeOf_69 ⟨Nat.le_of_ble_eq_true rfl, Nat.le_of_ble_eq_true rfl⟩ (st1 := [.int x35]) rfl (fun H locs hw => ?_)
            refine lv_iconst (v := 4) hx hb dX5_likeOf_72 (by decide) ?_
            refine lv_icmp_ne (tgt := 80) hx hb dX5_likeOf_73 (by decide) (fun c37 => ?_) (fun c37 => ?_)
            · replace h := ite_f c37 h
              exact J80 a1 a2 a3 a4 _ _ _ hw (lv_sub hl [0, 1, 2, 3, 4] rfl) h
            · replace h := ite_t c37 h
              exact J76 a1 a2 a3 a4 _ _ _ hw (lv_sub hl [0, 1, 2, 3, 4] rfl) h
  unfold f_X5_likeOf at h
  refine lv_aload_n hx hb dX5_likeOf_0 rfl (lv_at hl 0 rfl) ?_
  refine gf_X5_7 cx hw 0 rfl rfl dX5_likeOf_1 ?_
  refine lv_iconst (v := 2) hx hb dX5_likeOf_4 (by decide) ?_
  have ix1 := rd_in h
  refine x_iald cx hw 1 rfl ix1 dX5_likeOf_5 ?_
  refine lv_topi (fun x1 ex1 => ?_)
  replace h := rd_nx ex1 h
  refine lv_iconst (v := 1) hx hb dX5_likeOf_6 (by decide) ?_
  refine lv_icmp_ne (tgt := 24) hx hb dX5_likeOf_7 (by decide) (fun c2 => ?_) (fun c2 => ?_)
  · replace h := ite_f c2 h
    refine lv_iconst (v := 0) hx hb dX5_likeOf_24 (by decide) ?_
    refine lv_istore_n (lv' := [(3, .int (0 : Int32)), (0, .ref (q 0)), (1, .int p1), (2, .int p2)]) hx hb dX5_likeOf_25 rfl hl (by decide) rfl (fun ls hl => ?_)
    refine lv_iconst (v := 0) hx hb dX5_likeOf_26 (by decide) ?_
    refine lv_istore (lv' := [(4, .int (0 : Int32)), (3, .int (0 : Int32)), (0, .ref (q 0)), (1, .int p1), (2, .int p2)]) hx hb dX5_likeOf_27 hl (by decide) rfl (fun ls hl => ?_)
    exact L29 N p1 p2 (0 : Int32) (0 : Int32) _ _ _ hw (lv_sub hl [2, 3, 4, 1, 0] rfl) h
  · replace h := ite_t c2 h
    refine lv_aload_n hx hb dX5_likeOf_10 rfl (lv_at hl 0 rfl) ?_
    refine lv_iload_n hx hb dX5_likeOf_11 rfl (lv_at hl 1 rfl) ?_
    refine lv_iconst (v := 4) hx hb dX5_likeOf_12 (by decide) ?_
    obtain ⟨x3, g4, h⟩ := bd_ex h
    refine c_V (As := [.int p1, .int (4 : Int32)]) (rest := []) (w' := (MC g q d)) cx hw (c_X5_is l g q N p1 (4 : Int32) d x3 g4) (cl_X5_47 cx.1.2.2.2.2 ⟨Nat.le_of_ble_eq_true rfl, Nat.le_of_ble_eq_true rfl⟩) (x_recv cx hw (ci := 5) rfl 0 rfl) (Ct.all (MC_ll ..)) hl.1 rfl rfl (Nat.le_of_ble_eq_true rfl) dX5_likeOf_13 ⟨Nat.le_of_ble_eq_true rfl, Nat.le_of_ble_eq_true rfl⟩ (st1 := [.int x3]) rfl (fun H locs hw => ?_)
    refine lv_iload_n hx hb dX5_likeOf_16 rfl (lv_at hl 2 rfl) ?_
    refine lv_icmp_ne (tgt := 24) hx hb dX5_likeOf_17 (by decide) (fun c5 => ?_) (fun c5 => ?_)
    · replace h := ite_f c5 h
      refine lv_iconst (v := 0) hx hb dX5_likeOf_24 (by decide) ?_
      refine lv_istore_n (lv' := [(3, .int (0 : Int32)), (0, .ref (q 0)), (1, .int p1), (2, .int p2)]) hx hb dX5_likeOf_25 rfl hl (by decide) rfl (fun ls hl => ?_)
      refine lv_iconst (v := 0) hx hb dX5_likeOf_26 (by decide) ?_
      refine lv_istore (lv' := [(4, .int (0 : Int32)), (3, .int (0 : Int32)), (0, .ref (q 0)), (1, .int p1), (2, .int p2)]) hx hb dX5_likeOf_27 hl (by decide) rfl (fun ls hl => ?_)
      exact L29 N p1 p2 (0 : Int32) (0 : Int32) _ _ _ hw (lv_sub hl [2, 3, 4, 1, 0] rfl) h
    · replace h := ite_t c5 h
      refine lv_iconst (v := 5) hx hb dX5_likeOf_20 (by decide) ?_
      refine lv_goto (tgt := 25) hx hb dX5_likeOf_21 (by decide) ?_
      refine lv_istore_n (lv' := [(3, .int (5 : Int32)), (0, .ref (q 0)), (1, .int p1), (2, .int p2)]) hx hb dX5_likeOf_25 rfl hl (by decide) rfl (fun ls hl => ?_)
      refine lv_iconst (v := 0) hx hb dX5_likeOf_26 (by decide) ?_
      refine lv_istore (lv' := [(4, .int (0 : Int32)), (3, .int (5 : Int32)), (0, .ref (q 0)), (1, .int p1), (2, .int p2)]) hx hb dX5_likeOf_27 hl (by decide) rfl (fun ls hl => ?_)
      exact L29 N p1 p2 (5 : Int32) (0 : Int32) _ _ _ hw (lv_sub hl [2, 3, 4, 1, 0] rfl) h
set_option maxHeartbeats 4000000 in
set_option maxRecDepth 100000 in
theorem c_X5_heirBut (l : Launch) (g : gE) (q : Nat → Nat) (N : Nat) (p1 : Int32) (p2 : Int32) (d : MD) (r : Int32) (h : f_X5_heirBut N  p1 p2 d = some r) : MO l yX5_heirBut (Cond.code yX5_heirBut cX5_heirBut 6 (some .int) :: TB) rm_X5_heirBut [.ref (q 0), .int p1, .int p2] g ((MC g q d)) ((MC g q d)) (some (.int r)) 0 0 := by
  refine MO.of (cc := cX5_heirBut) (maxL := 6) (ret := (some .int)) (by decide) ?_
  intro p e s m below meth c cx hw hr hlocks _
  have hx := cx.1.1
  have hb := cx.1.2.1
  refine en_go (lv := [(0, .ref (q 0)), (1, .int p1), (2, .int p2)]) (Nat.le_of_ble_eq_true rfl) rfl (fun ls hl => ?_)
  have L5 : ∀ (n5 : Nat) (a1 : Int32) (a2 : Int32) (a3 : Int32) (a4 : Int32) (H : Heap) (locs : List Loc) (ls : Array Slot), Wd g (va_A ((MC g q d)) s.heap.size) ((MC g q d)) s H locs → lv_has ls 6 [(0, .ref (q 0)), (1, .int a1), (2, .int a2), (3, .int a3), (4, .int a4)] → f_X5_heirBut_L5 N d  n5 a1 a2 a3 a4 = some r → W p l e rm_X5_heirBut s m ([.ref (q 0), .int p1, .int p2] : List Value).toArray below meth c H locs 0 0 (MQ below (QO (some (.int r)) g ((MC g q d)) (va_A ((MC g q d)) s.heap.size)) ([.ref (q 0), .int p1, .int p2] : List Value).toArray s 0 0 (va_A ((MC g q d)) s.heap.size)) (F0 m 5 ls []) := by
    intro n5
    induction n5 with
    | zero => intro a1 a2 a3 a4 H locs ls hw hl h; exact (Option.some_ne_none _ h.symm).elim
    | succ n5 ih5 =>
      have J62 : ∀ (a1 : Int32) (a2 : Int32) (a3 : Int32) (a4 : Int32) (t0 : Int32) (H : Heap) (locs : List Loc) (ls : Array Slot), Wd g (va_A ((MC g q d)) s.heap.size) ((MC g q d)) s H locs → lv_has ls 6 [(0, .ref (q 0)), (1, .int a1), (2, .int a2), (3, .int a3), (4, .int a4)] → f_X5_heirBut_J62 N d (f_X5_heirBut_L5 N d  n5) a1 a2 a3 a4 t0 = some r → W p l e rm_X5_heirBut s m ([.ref (q 0), .int p1, .int p2] : List Value).toArray below meth c H locs 0 0 (MQ below (QO (some (.int r)) g ((MC g q d)) (va_A ((MC g q d)) s.heap.size)) ([.ref (q 0), .int p1, .int p2] : List Value).toArray s 0 0 (va_A ((MC g q d)) s.heap.size)) (F0 m 62 ls [.int t0]) := by
        intro a1 a2 a3 a4 t0 H locs ls hw hl h
        unfold f_X5_heirBut_J62 at h
        refine lv_istore (lv' := [(5, .int t0), (0, .ref (q 0)), (1, .int a1), (2, .int a2), (3, .int a3), (4, .int a4)]) hx hb dX5_heirBut_62 hl (by decide) rfl (fun ls hl => ?_)
        refine lv_iload hx hb dX5_heirBut_64 (lv_at hl 0 rfl) ?_
        refine lv_if_gt (tgt := 90) hx hb dX5_heirBut_66 (by decide) (fun c27 => ?_) (fun c27 => ?_)
        · replace h := ite_t c27 h
          refine lv_iload hx hb dX5_heirBut_90 (lv_at hl 5 rfl) ?_
          refine lv_goto (tgt := 96) hx hb dX5_heirBut_92 (by decide) ?_
          refine lv_istore_n (lv' := [(3, .int a4), (5, .int t0), (0, .ref (q 0)), (1, .int a1), (2, .int a2), (4, .int a4)]) hx hb dX5_heirBut_96 rfl hl (by decide) rfl (fun ls hl => ?_)
          obtain ⟨x28, ex28⟩ : ∃ y : Int32, y = (a4 + 1) := ⟨_, rfl⟩
          replace h := lt_nx ex28 h
          refine lv_iinc (v := x28) (lv' := [(4, .int x28), (3, .int a4), (5, .int t0), (0, .ref (q 0)), (1, .int a1), (2, .int a2)]) hx hb dX5_heirBut_97 hl (k := 5) rfl (by rw [ex28]; rfl) (by decide) rfl (fun ls hl => ?_)
          refine lv_goto (tgt := 5) hx hb dX5_heirBut_100 (by decide) ?_
          exact ih5 a1 a2 a4 x28 _ _ _ hw (lv_sub hl [3, 4, 5, 1, 0] rfl) h
        · replace h := ite_f c27 h
          refine lv_iload hx hb dX5_heirBut_69 (lv_at hl 0 rfl) ?_
          refine lv_if_ne (tgt := 95) hx hb dX5_heirBut_71 (by decide) (fun c29 => ?_) (fun c29 => ?_)
          · replace h := ite_f c29 h
            refine lv_iload_n hx hb dX5_heirBut_95 rfl (lv_at hl 4 rfl) ?_
            refine lv_istore_n (lv' := [(3, .int a3), (5, .int t0), (0, .ref (q 0)), (1, .int a1), (2, .int a2), (4, .int a4)]) hx hb dX5_heirBut_96 rfl hl (by decide) rfl (fun ls hl => ?_)
            obtain ⟨x30, ex30⟩ : ∃ y : Int32, y = (a4 + 1) := ⟨_, rfl⟩
            replace h := lt_nx ex30 h
            refine lv_iinc (v := x30) (lv' := [(4, .int x30), (3, .int a3), (5, .int t0), (0, .ref (q 0)), (1, .int a1), (2, .int a2)]) hx hb dX5_heirBut_97 hl (k := 5) rfl (by rw [ex30]; rfl) (by decide) rfl (fun ls hl => ?_)
            refine lv_goto (tgt := 5) hx hb dX5_heirBut_100 (by decide) ?_
            exact ih5 a1 a2 a3 x30 _ _ _ hw (lv_sub hl [3, 4, 5, 1, 0] rfl) h
          · replace h := ite_t c29 h
            refine lv_aload_n hx hb dX5_heirBut_74 rfl (lv_at hl 1 rfl) ?_
            refine lv_iload hx hb dX5_heirBut_75 (lv_at hl 5 rfl) ?_
            refine lv_iconst (v := 1) hx hb dX5_heirBut_77 (by decide) ?_
            obtain ⟨x31, g32, h⟩ := bd_ex h
            refine c_V (As := [.int a4, .int (1 : Int32)]) (rest := []) (w' := (MC g q d)) cx hw (c_X5_is l g q N a4 (1 : Int32) d x31 g32) (cl_X5_47 cx.1.2.2.2.2 ⟨Nat.le_of_ble_eq_true rfl, Nat.le_of_ble_eq_true rfl⟩) (x_recv cx hw (ci := 5) rfl 0 rfl) (Ct.all (MC_ll ..)) hl.1 rfl rfl (Nat.le_of_ble_eq_true rfl) dX5_heirBut_78 ⟨Nat.le_of_ble_eq_true rfl, Nat.le_of_ble_eq_true rfl⟩ (st1 := [.int x31]) rfl (fun H locs hw => ?_)
            refine lv_aload_n hx hb dX5_heirBut_81 rfl (lv_at hl 1 rfl) ?_
            refine lv_iload_n hx hb dX5_heirBut_82 rfl (lv_at hl 4 rfl) ?_
            refine lv_iconst (v := 1) hx hb dX5_heirBut_83 (by decide) ?_
            obtain ⟨x33, g34, h⟩ := bd_ex h
            refine c_V (As := [.int a3, .int (1 : Int32)]) (rest := [.int x31]) (w' := (MC g q d)) cx hw (c_X5_is l g q N a3 (1 : Int32) d x33 g34) (cl_X5_47 cx.1.2.2.2.2 ⟨Nat.le_of_ble_eq_true rfl, Nat.le_of_ble_eq_true rfl⟩) (x_recv cx hw (ci := 5) rfl 0 rfl) (Ct.all (MC_ll ..)) hl.1 rfl rfl (Nat.le_of_ble_eq_true rfl) dX5_heirBut_84 ⟨Nat.le_of_ble_eq_true rfl, Nat.le_of_ble_eq_true rfl⟩ (st1 := [.int x33, .int x31]) rfl (fun H locs hw => ?_)
            refine lv_icmp_le (tgt := 95) hx hb dX5_heirBut_87 (by decide) (fun c35 => ?_) (fun c35 => ?_)
            · replace h := ite_t c35 h
              refine lv_iload_n hx hb dX5_heirBut_95 rfl (lv_at hl 4 rfl) ?_
              refine lv_istore_n (lv' := [(3, .int a3), (5, .int t0), (0, .ref (q 0)), (1, .int a1), (2, .int a2), (4, .int a4)]) hx hb dX5_heirBut_96 rfl hl (by decide) rfl (fun ls hl => ?_)
              obtain ⟨x36, ex36⟩ : ∃ y : Int32, y = (a4 + 1) := ⟨_, rfl⟩
              replace h := lt_nx ex36 h
              refine lv_iinc (v := x36) (lv' := [(4, .int x36), (3, .int a3), (5, .int t0), (0, .ref (q 0)), (1, .int a1), (2, .int a2)]) hx hb dX5_heirBut_97 hl (k := 5) rfl (by rw [ex36]; rfl) (by decide) rfl (fun ls hl => ?_)
              refine lv_goto (tgt := 5) hx hb dX5_heirBut_100 (by decide) ?_
              exact ih5 a1 a2 a3 x36 _ _ _ hw (lv_sub hl [3, 4, 5, 1, 0] rfl) h
            · replace h := ite_f c35 h
              refine lv_iload hx hb dX5_heirBut_90 (lv_at hl 5 rfl) ?_
              refine lv_goto (tgt := 96) hx hb dX5_heirBut_92 (by decide) ?_
              refine lv_istore_n (lv' := [(3, .int a4), (5, .int t0), (0, .ref (q 0)), (1, .int a1), (2, .int a2), (4, .int a4)]) hx hb dX5_heirBut_96 rfl hl (by decide) rfl (fun ls hl => ?_)
              obtain ⟨x37, ex37⟩ : ∃ y : Int32, y = (a4 + 1) := ⟨_, rfl⟩
              replace h := lt_nx ex37 h
              refine lv_iinc (v := x37) (lv' := [(4, .int x37), (3, .int a4), (5, .int t0), (0, .ref (q 0)), (1, .int a1), (2, .int a2)]) hx hb dX5_heirBut_97 hl (k := 5) rfl (by rw [ex37]; rfl) (by decide) rfl (fun ls hl => ?_)
              refine lv_goto (tgt := 5) hx hb dX5_heirBut_100 (by decide) ?_
              exact ih5 a1 a2 a4 x37 _ _ _ hw (lv_sub hl [3, 4, 5, 1, 0] rfl) h
      intro a1 a2 a3 a4 H locs ls hw hl h
      rw [f_X5_heirBut_L5] at h
      refine lv_iload hx hb dX5_heirBut_5 (lv_at hl 4 rfl) ?_
      refine lv_aload_n hx hb dX5_heirBut_7 rfl (lv_at hl 0 rfl) ?_
      refine gf_X5_7 cx hw 0 rfl rfl dX5_heirBut_8 ?_
      refine lv_iconst (v := 0) hx hb dX5_heirBut_11 (by decide) ?_
      have ix38 := rd_in h
      refine x_iald cx hw 1 rfl ix38 dX5_heirBut_12 ?_
      refine lv_topi (fun x38 ex38 => ?_)
      replace h := rd_nx ex38 h
      refine lv_icmp_ge (tgt := 103) hx hb dX5_heirBut_13 (by decide) (fun c39 => ?_) (fun c39 => ?_)
      · replace h := ite_t c39 h
        refine lv_iload_n hx hb dX5_heirBut_103 rfl (lv_at hl 3 rfl) ?_
        exact r_i cx hr hlocks hw (sm_eq h) rfl dX5_heirBut_104
      · replace h := ite_f c39 h
        refine lv_iload hx hb dX5_heirBut_16 (lv_at hl 4 rfl) ?_
        refine lv_iload_n hx hb dX5_heirBut_18 rfl (lv_at hl 1 rfl) ?_
        refine lv_icmp_eq (tgt := 97) hx hb dX5_heirBut_19 (by decide) (fun c40 => ?_) (fun c40 => ?_)
        · replace h := ite_t c40 h
          obtain ⟨x41, ex41⟩ : ∃ y : Int32, y = (a4 + 1) := ⟨_, rfl⟩
          replace h := lt_nx ex41 h
          refine lv_iinc (v := x41) (lv' := [(4, .int x41), (0, .ref (q 0)), (1, .int a1), (2, .int a2), (3, .int a3)]) hx hb dX5_heirBut_97 hl (k := 4) rfl (by rw [ex41]; rfl) (by decide) rfl (fun ls hl => ?_)
          refine lv_goto (tgt := 5) hx hb dX5_heirBut_100 (by decide) ?_
          exact ih5 a1 a2 a3 x41 _ _ _ hw (lv_sub hl [1, 2, 3, 4, 0] rfl) h
        · replace h := ite_f c40 h
          refine lv_iload hx hb dX5_heirBut_22 (lv_at hl 4 rfl) ?_
          refine lv_iload_n hx hb dX5_heirBut_24 rfl (lv_at hl 2 rfl) ?_
          refine lv_icmp_eq (tgt := 97) hx hb dX5_heirBut_25 (by decide) (fun c42 => ?_) (fun c42 => ?_)
          · replace h := ite_t c42 h
            obtain ⟨x43, ex43⟩ : ∃ y : Int32, y = (a4 + 1) := ⟨_, rfl⟩
            replace h := lt_nx ex43 h
            refine lv_iinc (v := x43) (lv' := [(4, .int x43), (0, .ref (q 0)), (1, .int a1), (2, .int a2), (3, .int a3)]) hx hb dX5_heirBut_97 hl (k := 4) rfl (by rw [ex43]; rfl) (by decide) rfl (fun ls hl => ?_)
            refine lv_goto (tgt := 5) hx hb dX5_heirBut_100 (by decide) ?_
            exact ih5 a1 a2 a3 x43 _ _ _ hw (lv_sub hl [1, 2, 3, 4, 0] rfl) h
          · replace h := ite_f c42 h
            refine lv_aload_n hx hb dX5_heirBut_28 rfl (lv_at hl 0 rfl) ?_
            refine lv_iload hx hb dX5_heirBut_29 (lv_at hl 4 rfl) ?_
            obtain ⟨x44, g45, h⟩ := bd_ex h
            refine c_V (As := [.int a4]) (rest := []) (w' := (MC g q d)) cx hw (c_X5_lives l g q N a4 d x44 g45) (cl_X5_107 cx.1.2.2.2.2 ⟨Nat.le_of_ble_eq_true rfl, Nat.le_of_ble_eq_true rfl⟩) (x_recv cx hw (ci := 5) rfl 0 rfl) (Ct.all (MC_ll ..)) hl.1 rfl rfl (Nat.le_of_ble_eq_true rfl) dX5_heirBut_31 ⟨Nat.le_of_ble_eq_true rfl, Nat.le_of_ble_eq_true rfl⟩ (st1 := [.int x44]) rfl (fun H locs hw => ?_)
            refine lv_if_ne (tgt := 40) hx hb dX5_heirBut_34 (by decide) (fun c46 => ?_) (fun c46 => ?_)
            · replace h := ite_f c46 h
              refine lv_iload_n hx hb dX5_heirBut_40 rfl (lv_at hl 3 rfl) ?_
              refine lv_if_ge (tgt := 48) hx hb dX5_heirBut_41 (by decide) (fun c47 => ?_) (fun c47 => ?_)
              · replace h := ite_t c47 h
                refine lv_aload_n hx hb dX5_heirBut_48 rfl (lv_at hl 0 rfl) ?_
                refine lv_iload_n hx hb dX5_heirBut_49 rfl (lv_at hl 1 rfl) ?_
                refine lv_iload hx hb dX5_heirBut_50 (lv_at hl 4 rfl) ?_
                obtain ⟨x48, g49, h⟩ := bd_ex h
                refine c_V (As := [.int a1, .int a4]) (rest := []) (w' := (MC g q d)) cx hw (c_X5_likeOf l g q N a1 a4 d x48 g49) (cl_X5_104 cx.1.2.2.2.2 ⟨Nat.le_of_ble_eq_true rfl, Nat.le_of_ble_eq_true rfl⟩) (x_recv cx hw (ci := 5) rfl 0 rfl) (Ct.all (MC_ll ..)) hl.1 rfl rfl (Nat.le_of_ble_eq_true rfl) dX5_heirBut_52 ⟨Nat.le_of_ble_eq_true rfl, Nat.le_of_ble_eq_true rfl⟩ (st1 := [.int x48]) rfl (fun H locs hw => ?_)
                refine lv_aload_n hx hb dX5_heirBut_55 rfl (lv_at hl 0 rfl) ?_
                refine lv_iload_n hx hb dX5_heirBut_56 rfl (lv_at hl 1 rfl) ?_
                refine lv_iload_n hx hb dX5_heirBut_57 rfl (lv_at hl 3 rfl) ?_
                obtain ⟨x50, g51, h⟩ := bd_ex h
                refine c_V (As := [.int a1, .int a3]) (rest := [.int x48]) (w' := (MC g q d)) cx hw (c_X5_likeOf l g q N a1 a3 d x50 g51) (cl_X5_104 cx.1.2.2.2.2 ⟨Nat.le_of_ble_eq_true rfl, Nat.le_of_ble_eq_true rfl⟩) (x_recv cx hw (ci := 5) rfl 0 rfl) (Ct.all (MC_ll ..)) hl.1 rfl rfl (Nat.le_of_ble_eq_true rfl) dX5_heirBut_58 ⟨Nat.le_of_ble_eq_true rfl, Nat.le_of_ble_eq_true rfl⟩ (st1 := [.int x50, .int x48]) rfl (fun H locs hw => ?_)
                refine lv_isub hx hb dX5_heirBut_61 ?_
                exact J62 a1 a2 a3 a4 (x48 - x50) _ _ _ hw (lv_sub hl [0, 1, 2, 3, 4] rfl) h
              · replace h := ite_f c47 h
                refine lv_iconst (v := 1) hx hb dX5_heirBut_44 (by decide) ?_
                refine lv_goto (tgt := 62) hx hb dX5_heirBut_45 (by decide) ?_
                exact J62 a1 a2 a3 a4 (1 : Int32) _ _ _ hw (lv_sub hl [0, 1, 2, 3, 4] rfl) h
            · replace h := ite_t c46 h
              refine lv_goto (tgt := 97) hx hb dX5_heirBut_37 (by decide) ?_
              obtain ⟨x52, ex52⟩ : ∃ y : Int32, y = (a4 + 1) := ⟨_, rfl⟩
              replace h := lt_nx ex52 h
              refine lv_iinc (v := x52) (lv' := [(4, .int x52), (0, .ref (q 0)), (1, .int a1), (2, .int a2), (3, .int a3)]) hx hb dX5_heirBut_97 hl (k := 4) rfl (by rw [ex52]; rfl) (by decide) rfl (fun ls hl => ?_)
              refine lv_goto (tgt := 5) hx hb dX5_heirBut_100 (by decide) ?_
              exact ih5 a1 a2 a3 x52 _ _ _ hw (lv_sub hl [1, 2, 3, 4, 0] rfl) h
  unfold f_X5_heirBut at h
  refine lv_iconst (v := -1) hx hb dX5_heirBut_0 (by decide) ?_
  refine lv_istore_n (lv' := [(3, .int (-1 : Int32)), (0, .ref (q 0)), (1, .int p1), (2, .int p2)]) hx hb dX5_heirBut_1 rfl hl (by decide) rfl (fun ls hl => ?_)
  refine lv_iconst (v := 0) hx hb dX5_heirBut_2 (by decide) ?_
  refine lv_istore (lv' := [(4, .int (0 : Int32)), (3, .int (-1 : Int32)), (0, .ref (q 0)), (1, .int p1), (2, .int p2)]) hx hb dX5_heirBut_3 hl (by decide) rfl (fun ls hl => ?_)
  exact L5 N p1 p2 (-1 : Int32) (0 : Int32) _ _ _ hw (lv_sub hl [2, 3, 4, 1, 0] rfl) h
set_option maxHeartbeats 4000000 in
set_option maxRecDepth 100000 in
theorem c_X5_heirFor (l : Launch) (g : gE) (q : Nat → Nat) (N : Nat) (p1 : Int32) (d : MD) (r : Int32) (h : f_X5_heirFor N  p1 d = some r) : MO l yX5_heirFor (Cond.code yX5_heirFor cX5_heirFor 2 (some .int) :: TB) rm_X5_heirFor [.ref (q 0), .int p1] g ((MC g q d)) ((MC g q d)) (some (.int r)) 0 0 := by
  refine MO.of (cc := cX5_heirFor) (maxL := 2) (ret := (some .int)) (by decide) ?_
  intro p e s m below meth c cx hw hr hlocks _
  have hx := cx.1.1
  have hb := cx.1.2.1
  refine en_go (lv := [(0, .ref (q 0)), (1, .int p1)]) (Nat.le_of_ble_eq_true rfl) rfl (fun ls hl => ?_)
  unfold f_X5_heirFor at h
  refine lv_aload_n hx hb dX5_heirFor_0 rfl (lv_at hl 0 rfl) ?_
  refine lv_iload_n hx hb dX5_heirFor_1 rfl (lv_at hl 1 rfl) ?_
  refine lv_iload_n hx hb dX5_heirFor_2 rfl (lv_at hl 1 rfl) ?_
  obtain ⟨x1, g2, h⟩ := bd_ex h
  refine c_V (As := [.int p1, .int p1]) (rest := []) (w' := (MC g q d)) cx hw (c_X5_heirBut l g q N p1 p1 d x1 g2) (cl_X5_110 cx.1.2.2.2.2 ⟨Nat.le_of_ble_eq_true rfl, Nat.le_of_ble_eq_true rfl⟩) (x_recv cx hw (ci := 5) rfl 0 rfl) (Ct.all (MC_ll ..)) hl.1 rfl rfl (Nat.le_of_ble_eq_true rfl) dX5_heirFor_3 ⟨Nat.le_of_ble_eq_true rfl, Nat.le_of_ble_eq_true rfl⟩ (st1 := [.int x1]) rfl (fun H locs hw => ?_)
  exact r_i cx hr hlocks hw (sm_eq h) rfl dX5_heirFor_6
set_option maxHeartbeats 4000000 in
set_option maxRecDepth 100000 in
theorem c_X5_aimOf (l : Launch) (g : gE) (q : Nat → Nat) (N : Nat) (p1 : Int32) (d : MD) (r : Int32) (h : f_X5_aimOf N  p1 d = some r) : MO l yX5_aimOf (Cond.code yX5_aimOf cX5_aimOf 2 (some .int) :: TB) rm_X5_aimOf [.ref (q 0), .int p1] g ((MC g q d)) ((MC g q d)) (some (.int r)) 0 0 := by
  refine MO.of (cc := cX5_aimOf) (maxL := 2) (ret := (some .int)) (by decide) ?_
  intro p e s m below meth c cx hw hr hlocks _
  have hx := cx.1.1
  have hb := cx.1.2.1
  refine en_go (lv := [(0, .ref (q 0)), (1, .int p1)]) (Nat.le_of_ble_eq_true rfl) rfl (fun ls hl => ?_)
  unfold f_X5_aimOf at h
  refine lv_aload_n hx hb dX5_aimOf_0 rfl (lv_at hl 0 rfl) ?_
  refine lv_iload_n hx hb dX5_aimOf_1 rfl (lv_at hl 1 rfl) ?_
  refine lv_iconst (v := 0) hx hb dX5_aimOf_2 (by decide) ?_
  obtain ⟨x1, g2, h⟩ := bd_ex h
  refine c_V (As := [.int p1, .int (0 : Int32)]) (rest := []) (w' := (MC g q d)) cx hw (c_X5_is l g q N p1 (0 : Int32) d x1 g2) (cl_X5_47 cx.1.2.2.2.2 ⟨Nat.le_of_ble_eq_true rfl, Nat.le_of_ble_eq_true rfl⟩) (x_recv cx hw (ci := 5) rfl 0 rfl) (Ct.all (MC_ll ..)) hl.1 rfl rfl (Nat.le_of_ble_eq_true rfl) dX5_aimOf_3 ⟨Nat.le_of_ble_eq_true rfl, Nat.le_of_ble_eq_true rfl⟩ (st1 := [.int x1]) rfl (fun H locs hw => ?_)
  by_cases c3 : x1 = 1
  · replace h := ite_t c3 h
    refine lv_tableIn (tgt := 40) hx hb dX5_aimOf_6 (by rw [c3]; decide) (by rw [c3]; decide) (by rw [c3]; rfl) (by decide) ?_
    refine lv_aload_n hx hb dX5_aimOf_40 rfl (lv_at hl 0 rfl) ?_
    refine lv_iload_n hx hb dX5_aimOf_41 rfl (lv_at hl 1 rfl) ?_
    obtain ⟨x4, g5, h⟩ := bd_ex h
    refine c_V (As := [.int p1]) (rest := []) (w' := (MC g q d)) cx hw (c_X5_richestBut l g q N p1 d x4 g5) (cl_X5_120 cx.1.2.2.2.2 ⟨Nat.le_of_ble_eq_true rfl, Nat.le_of_ble_eq_true rfl⟩) (x_recv cx hw (ci := 5) rfl 0 rfl) (Ct.all (MC_ll ..)) hl.1 rfl rfl (Nat.le_of_ble_eq_true rfl) dX5_aimOf_42 ⟨Nat.le_of_ble_eq_true rfl, Nat.le_of_ble_eq_true rfl⟩ (st1 := [.int x4]) rfl (fun H locs hw => ?_)
    exact r_i cx hr hlocks hw (sm_eq h) rfl dX5_aimOf_45
  · replace h := ite_f c3 h
    by_cases c6 : x1 = 2
    · replace h := ite_t c6 h
      refine lv_tableIn (tgt := 74) hx hb dX5_aimOf_6 (by rw [c6]; decide) (by rw [c6]; decide) (by rw [c6]; rfl) (by decide) ?_
      refine lv_iconst (v := -1) hx hb dX5_aimOf_74 (by decide) ?_
      exact r_i cx hr hlocks hw (sm_eq h) rfl dX5_aimOf_75
    · replace h := ite_f c6 h
      by_cases c7 : x1 = 3
      · replace h := ite_t c7 h
        refine lv_tableIn (tgt := 46) hx hb dX5_aimOf_6 (by rw [c7]; decide) (by rw [c7]; decide) (by rw [c7]; rfl) (by decide) ?_
        refine lv_aload_n hx hb dX5_aimOf_46 rfl (lv_at hl 0 rfl) ?_
        refine lv_iload_n hx hb dX5_aimOf_47 rfl (lv_at hl 1 rfl) ?_
        obtain ⟨x8, g9, h⟩ := bd_ex h
        refine c_V (As := [.int p1]) (rest := []) (w' := (MC g q d)) cx hw (c_X5_childOf l g q N p1 d x8 g9) (cl_X5_123 cx.1.2.2.2.2 ⟨Nat.le_of_ble_eq_true rfl, Nat.le_of_ble_eq_true rfl⟩) (x_recv cx hw (ci := 5) rfl 0 rfl) (Ct.all (MC_ll ..)) hl.1 rfl rfl (Nat.le_of_ble_eq_true rfl) dX5_aimOf_48 ⟨Nat.le_of_ble_eq_true rfl, Nat.le_of_ble_eq_true rfl⟩ (st1 := [.int x8]) rfl (fun H locs hw => ?_)
        exact r_i cx hr hlocks hw (sm_eq h) rfl dX5_aimOf_51
      · replace h := ite_f c7 h
        by_cases c10 : x1 = 4
        · replace h := ite_t c10 h
          refine lv_tableIn (tgt := 40) hx hb dX5_aimOf_6 (by rw [c10]; decide) (by rw [c10]; decide) (by rw [c10]; rfl) (by decide) ?_
          refine lv_aload_n hx hb dX5_aimOf_40 rfl (lv_at hl 0 rfl) ?_
          refine lv_iload_n hx hb dX5_aimOf_41 rfl (lv_at hl 1 rfl) ?_
          obtain ⟨x11, g12, h⟩ := bd_ex h
          refine c_V (As := [.int p1]) (rest := []) (w' := (MC g q d)) cx hw (c_X5_richestBut l g q N p1 d x11 g12) (cl_X5_120 cx.1.2.2.2.2 ⟨Nat.le_of_ble_eq_true rfl, Nat.le_of_ble_eq_true rfl⟩) (x_recv cx hw (ci := 5) rfl 0 rfl) (Ct.all (MC_ll ..)) hl.1 rfl rfl (Nat.le_of_ble_eq_true rfl) dX5_aimOf_42 ⟨Nat.le_of_ble_eq_true rfl, Nat.le_of_ble_eq_true rfl⟩ (st1 := [.int x11]) rfl (fun H locs hw => ?_)
          exact r_i cx hr hlocks hw (sm_eq h) rfl dX5_aimOf_45
        · replace h := ite_f c10 h
          by_cases c13 : x1 = 5
          · replace h := ite_t c13 h
            refine lv_tableIn (tgt := 52) hx hb dX5_aimOf_6 (by rw [c13]; decide) (by rw [c13]; decide) (by rw [c13]; rfl) (by decide) ?_
            refine lv_aload_n hx hb dX5_aimOf_52 rfl (lv_at hl 0 rfl) ?_
            refine lv_iload_n hx hb dX5_aimOf_53 rfl (lv_at hl 1 rfl) ?_
            obtain ⟨x14, g15, h⟩ := bd_ex h
            refine c_V (As := [.int p1]) (rest := []) (w' := (MC g q d)) cx hw (c_X5_childOf l g q N p1 d x14 g15) (cl_X5_123 cx.1.2.2.2.2 ⟨Nat.le_of_ble_eq_true rfl, Nat.le_of_ble_eq_true rfl⟩) (x_recv cx hw (ci := 5) rfl 0 rfl) (Ct.all (MC_ll ..)) hl.1 rfl rfl (Nat.le_of_ble_eq_true rfl) dX5_aimOf_54 ⟨Nat.le_of_ble_eq_true rfl, Nat.le_of_ble_eq_true rfl⟩ (st1 := [.int x14]) rfl (fun H locs hw => ?_)
            refine lv_if_ge (tgt := 68) hx hb dX5_aimOf_57 (by decide) (fun c16 => ?_) (fun c16 => ?_)
            · replace h := ite_t c16 h
              refine lv_aload_n hx hb dX5_aimOf_68 rfl (lv_at hl 0 rfl) ?_
              refine lv_iload_n hx hb dX5_aimOf_69 rfl (lv_at hl 1 rfl) ?_
              obtain ⟨x17, g18, h⟩ := bd_ex h
              refine c_V (As := [.int p1]) (rest := []) (w' := (MC g q d)) cx hw (c_X5_childOf l g q N p1 d x17 g18) (cl_X5_123 cx.1.2.2.2.2 ⟨Nat.le_of_ble_eq_true rfl, Nat.le_of_ble_eq_true rfl⟩) (x_recv cx hw (ci := 5) rfl 0 rfl) (Ct.all (MC_ll ..)) hl.1 rfl rfl (Nat.le_of_ble_eq_true rfl) dX5_aimOf_70 ⟨Nat.le_of_ble_eq_true rfl, Nat.le_of_ble_eq_true rfl⟩ (st1 := [.int x17]) rfl (fun H locs hw => ?_)
              exact r_i cx hr hlocks hw (sm_eq h) rfl dX5_aimOf_73
            · replace h := ite_f c16 h
              refine lv_aload_n hx hb dX5_aimOf_60 rfl (lv_at hl 0 rfl) ?_
              refine lv_iload_n hx hb dX5_aimOf_61 rfl (lv_at hl 1 rfl) ?_
              obtain ⟨x19, g20, h⟩ := bd_ex h
              refine c_V (As := [.int p1]) (rest := []) (w' := (MC g q d)) cx hw (c_X5_heirFor l g q N p1 d x19 g20) (cl_X5_113 cx.1.2.2.2.2 ⟨Nat.le_of_ble_eq_true rfl, Nat.le_of_ble_eq_true rfl⟩) (x_recv cx hw (ci := 5) rfl 0 rfl) (Ct.all (MC_ll ..)) hl.1 rfl rfl (Nat.le_of_ble_eq_true rfl) dX5_aimOf_62 ⟨Nat.le_of_ble_eq_true rfl, Nat.le_of_ble_eq_true rfl⟩ (st1 := [.int x19]) rfl (fun H locs hw => ?_)
              refine lv_goto (tgt := 73) hx hb dX5_aimOf_65 (by decide) ?_
              exact r_i cx hr hlocks hw (sm_eq h) rfl dX5_aimOf_73
          · replace h := ite_f c13 h
            have tc3 : (x1).toInt ≠ 1 := fun e => c3 (Int32.toInt_inj.mp (e.trans (by decide)))
            have tc6 : (x1).toInt ≠ 2 := fun e => c6 (Int32.toInt_inj.mp (e.trans (by decide)))
            have tc7 : (x1).toInt ≠ 3 := fun e => c7 (Int32.toInt_inj.mp (e.trans (by decide)))
            have tc10 : (x1).toInt ≠ 4 := fun e => c10 (Int32.toInt_inj.mp (e.trans (by decide)))
            have tc13 : (x1).toInt ≠ 5 := fun e => c13 (Int32.toInt_inj.mp (e.trans (by decide)))
            refine lv_tableOut (tgt := 74) hx hb dX5_aimOf_6 (by omega) (by decide) ?_
            refine lv_iconst (v := -1) hx hb dX5_aimOf_74 (by decide) ?_
            exact r_i cx hr hlocks hw (sm_eq h) rfl dX5_aimOf_75
set_option maxHeartbeats 4000000 in
set_option maxRecDepth 100000 in
theorem c_X5_of (l : Launch) (g : gE) (q : Nat → Nat) (N : Nat) (p1 : Int32) (p2 : Int32) (d : MD) (r : Int32) (d' : MD) (h : f_X5_of N  p1 p2 d = some (r, d')) : MO l yX5_of (Cond.code yX5_of cX5_of 3 (some .int) :: TB) rm_X5_of [.ref (q 0), .int p1, .int p2] g ((MC g q d)) ((MC g q d')) (some (.int r)) 0 0 := by
  refine MO.of (cc := cX5_of) (maxL := 3) (ret := (some .int)) (by decide) ?_
  intro p e s m below meth c cx hw hr hlocks _
  have hx := cx.1.1
  have hb := cx.1.2.1
  refine en_go (lv := [(0, .ref (q 0)), (1, .int p1), (2, .int p2)]) (Nat.le_of_ble_eq_true rfl) rfl (fun ls hl => ?_)
  unfold f_X5_of at h
  refine lv_aload_n hx hb dX5_of_0 rfl (lv_at hl 0 rfl) ?_
  refine lv_iload_n hx hb dX5_of_1 rfl (lv_at hl 1 rfl) ?_
  obtain ⟨x1, g2, h⟩ := bd_ex h
  refine c_V (As := [.int p1]) (rest := []) (w' := (MC g q d)) cx hw (c_X5_isOne l g q N p1 d x1 g2) (cl_X5_43 cx.1.2.2.2.2 ⟨Nat.le_of_ble_eq_true rfl, Nat.le_of_ble_eq_true rfl⟩) (x_recv cx hw (ci := 5) rfl 0 rfl) (Ct.all (MC_ll ..)) hl.1 rfl rfl (Nat.le_of_ble_eq_true rfl) dX5_of_2 ⟨Nat.le_of_ble_eq_true rfl, Nat.le_of_ble_eq_true rfl⟩ (st1 := [.int x1]) rfl (fun H locs hw => ?_)
  refine lv_if_eq (tgt := 20) hx hb dX5_of_5 (by decide) (fun c3 => ?_) (fun c3 => ?_)
  · replace h := ite_t c3 h
    refine lv_aload_n hx hb dX5_of_20 rfl (lv_at hl 0 rfl) ?_
    refine lv_ldc hx hb cx.1.2.2.2.1 (cx.1.2.2.2.2 _ tw_4_79) dX5_of_21 ?_
    obtain ⟨x4, d5, g6, h⟩ := bd2_ex h
    refine c_V (As := [.int (-1000000001 : Int32)]) (rest := []) (w' := (MC g q d5)) cx hw (c_X5_finds l g q N (-1000000001 : Int32) d x4 d5 g6) (cl_X5_62 cx.1.2.2.2.2 ⟨Nat.le_of_ble_eq_true rfl, Nat.le_of_ble_eq_true rfl⟩) (x_recv cx hw (ci := 5) rfl 0 rfl) (Ct.all (MC_ll ..)) hl.1 rfl rfl (Nat.le_of_ble_eq_true rfl) dX5_of_23 ⟨Nat.le_of_ble_eq_true rfl, Nat.le_of_ble_eq_true rfl⟩ (st1 := [.int x4]) rfl (fun H locs hw => ?_)
    exact r_i cx hr hlocks hw (pr1 h) (congrArg (fun z0 => (MC g q z0)) (pr2 h)) dX5_of_26
  · replace h := ite_f c3 h
    refine lv_iload_n hx hb dX5_of_8 rfl (lv_at hl 2 rfl) ?_
    refine lv_i2l hx hb dX5_of_9 rfl ?_
    refine lv_lconst (v := 0) hx hb dX5_of_10 (by decide) ?_
    refine lv_ldc2 hx hb cx.1.2.2.2.1 (cx.1.2.2.2.2 _ tw_4_116) dX5_of_11 ?_
    obtain ⟨x7, g8, h⟩ := bd_ex h
    refine c_S (As := [.long ((p2).toInt64), .long (0 : Int64), .long (6 : Int64)]) (rest := []) (w' := (MC g q d)) cx hw (c_X5_isIn l g  N ((p2).toInt64) (0 : Int64) (6 : Int64)  x7 g8) (cl_X5_54 cx.1.2.2.2.2 ⟨Nat.le_of_ble_eq_true rfl, Nat.le_of_ble_eq_true rfl⟩) Ct.nil hl.1 rfl rfl (Nat.le_of_ble_eq_true rfl) dX5_of_14 ⟨Nat.le_of_ble_eq_true rfl, Nat.le_of_ble_eq_true rfl⟩ (st1 := [.int x7]) rfl (fun H locs hw => ?_)
    refine lv_if_ne (tgt := 27) hx hb dX5_of_17 (by decide) (fun c9 => ?_) (fun c9 => ?_)
    · replace h := ite_f c9 h
      refine lv_iload_n hx hb dX5_of_27 rfl (lv_at hl 2 rfl) ?_
      refine lv_bipush (v := 6) hx hb dX5_of_28 (by decide) ?_
      refine lv_icmp_ne (tgt := 41) hx hb dX5_of_30 (by decide) (fun c10 => ?_) (fun c10 => ?_)
      · replace h := ite_f c10 h
        refine lv_aload_n hx hb dX5_of_41 rfl (lv_at hl 0 rfl) ?_
        refine lv_iload_n hx hb dX5_of_42 rfl (lv_at hl 1 rfl) ?_
        refine lv_iload_n hx hb dX5_of_43 rfl (lv_at hl 2 rfl) ?_
        obtain ⟨x11, g12, h⟩ := bd_ex h
        refine c_V (As := [.int p1, .int p2]) (rest := []) (w' := (MC g q d)) cx hw (c_X5_is l g q N p1 p2 d x11 g12) (cl_X5_47 cx.1.2.2.2.2 ⟨Nat.le_of_ble_eq_true rfl, Nat.le_of_ble_eq_true rfl⟩) (x_recv cx hw (ci := 5) rfl 0 rfl) (Ct.all (MC_ll ..)) hl.1 rfl rfl (Nat.le_of_ble_eq_true rfl) dX5_of_44 ⟨Nat.le_of_ble_eq_true rfl, Nat.le_of_ble_eq_true rfl⟩ (st1 := [.int x11]) rfl (fun H locs hw => ?_)
        exact r_i cx hr hlocks hw (pr1 h) (congrArg (fun z0 => (MC g q z0)) (pr2 h)) dX5_of_47
      · replace h := ite_t c10 h
        refine lv_aload_n hx hb dX5_of_33 rfl (lv_at hl 0 rfl) ?_
        refine lv_iload_n hx hb dX5_of_34 rfl (lv_at hl 1 rfl) ?_
        obtain ⟨x13, g14, h⟩ := bd_ex h
        refine c_V (As := [.int p1]) (rest := []) (w' := (MC g q d)) cx hw (c_X5_aimOf l g q N p1 d x13 g14) (cl_X5_85 cx.1.2.2.2.2 ⟨Nat.le_of_ble_eq_true rfl, Nat.le_of_ble_eq_true rfl⟩) (x_recv cx hw (ci := 5) rfl 0 rfl) (Ct.all (MC_ll ..)) hl.1 rfl rfl (Nat.le_of_ble_eq_true rfl) dX5_of_35 ⟨Nat.le_of_ble_eq_true rfl, Nat.le_of_ble_eq_true rfl⟩ (st1 := [.int x13]) rfl (fun H locs hw => ?_)
        refine lv_goto (tgt := 47) hx hb dX5_of_38 (by decide) ?_
        exact r_i cx hr hlocks hw (pr1 h) (congrArg (fun z0 => (MC g q z0)) (pr2 h)) dX5_of_47
    · replace h := ite_t c9 h
      refine lv_aload_n hx hb dX5_of_20 rfl (lv_at hl 0 rfl) ?_
      refine lv_ldc hx hb cx.1.2.2.2.1 (cx.1.2.2.2.2 _ tw_4_79) dX5_of_21 ?_
      obtain ⟨x15, d16, g17, h⟩ := bd2_ex h
      refine c_V (As := [.int (-1000000001 : Int32)]) (rest := []) (w' := (MC g q d16)) cx hw (c_X5_finds l g q N (-1000000001 : Int32) d x15 d16 g17) (cl_X5_62 cx.1.2.2.2.2 ⟨Nat.le_of_ble_eq_true rfl, Nat.le_of_ble_eq_true rfl⟩) (x_recv cx hw (ci := 5) rfl 0 rfl) (Ct.all (MC_ll ..)) hl.1 rfl rfl (Nat.le_of_ble_eq_true rfl) dX5_of_23 ⟨Nat.le_of_ble_eq_true rfl, Nat.le_of_ble_eq_true rfl⟩ (st1 := [.int x15]) rfl (fun H locs hw => ?_)
      exact r_i cx hr hlocks hw (pr1 h) (congrArg (fun z0 => (MC g q z0)) (pr2 h)) dX5_of_26
set_option maxHeartbeats 4000000 in
set_option maxRecDepth 100000 in
theorem c_X5_mayBe (l : Launch) (g : gE) (q : Nat → Nat) (N : Nat) (p1 : Int32) (p2 : Int32) (p3 : Int32) (d : MD) (r : Int32) (h : f_X5_mayBe N  p1 p2 p3 d = some r) : MO l yX5_mayBe (Cond.code yX5_mayBe cX5_mayBe 4 (some .boolean) :: TB) rm_X5_mayBe [.ref (q 0), .int p1, .int p2, .int p3] g ((MC g q d)) ((MC g q d)) (some (.int r)) 0 0 := by
  refine MO.of (cc := cX5_mayBe) (maxL := 4) (ret := (some .boolean)) (by decide) ?_
  intro p e s m below meth c cx hw hr hlocks _
  have hx := cx.1.1
  have hb := cx.1.2.1
  refine en_go (lv := [(0, .ref (q 0)), (1, .int p1), (2, .int p2), (3, .int p3)]) (Nat.le_of_ble_eq_true rfl) rfl (fun ls hl => ?_)
  unfold f_X5_mayBe at h
  refine lv_iload_n hx hb dX5_mayBe_0 rfl (lv_at hl 2 rfl) ?_
  by_cases c1 : p2 = 1
  · replace h := ite_t c1 h
    refine lv_tableIn (tgt := 36) hx hb dX5_mayBe_1 (by rw [c1]; decide) (by rw [c1]; decide) (by rw [c1]; rfl) (by decide) ?_
    refine lv_iload_n hx hb dX5_mayBe_36 rfl (lv_at hl 3 rfl) ?_
    refine lv_i2l hx hb dX5_mayBe_37 rfl ?_
    refine lv_lconst (v := 0) hx hb dX5_mayBe_38 (by decide) ?_
    refine lv_ldc2 hx hb cx.1.2.2.2.1 (cx.1.2.2.2.2 _ tw_4_98) dX5_mayBe_39 ?_
    obtain ⟨x2, g3, h⟩ := bd_ex h
    refine c_S (As := [.long ((p3).toInt64), .long (0 : Int64), .long (120 : Int64)]) (rest := []) (w' := (MC g q d)) cx hw (c_X5_isIn l g  N ((p3).toInt64) (0 : Int64) (120 : Int64)  x2 g3) (cl_X5_54 cx.1.2.2.2.2 ⟨Nat.le_of_ble_eq_true rfl, Nat.le_of_ble_eq_true rfl⟩) Ct.nil hl.1 rfl rfl (Nat.le_of_ble_eq_true rfl) dX5_mayBe_42 ⟨Nat.le_of_ble_eq_true rfl, Nat.le_of_ble_eq_true rfl⟩ (st1 := [.int x2]) rfl (fun H locs hw => ?_)
    have i4 := ckz_in h
    replace h := ckz_nx h
    exact r_z cx hr hlocks i4 hw (sm_eq h) rfl dX5_mayBe_45
  · replace h := ite_f c1 h
    by_cases c5 : p2 = 2
    · replace h := ite_t c5 h
      refine lv_tableIn (tgt := 46) hx hb dX5_mayBe_1 (by rw [c5]; decide) (by rw [c5]; decide) (by rw [c5]; rfl) (by decide) ?_
      refine lv_iload_n hx hb dX5_mayBe_46 rfl (lv_at hl 3 rfl) ?_
      refine lv_i2l hx hb dX5_mayBe_47 rfl ?_
      refine lv_lconst (v := 0) hx hb dX5_mayBe_48 (by decide) ?_
      refine lv_ldc2 hx hb cx.1.2.2.2.1 (cx.1.2.2.2.2 _ tw_4_157) dX5_mayBe_49 ?_
      obtain ⟨x6, g7, h⟩ := bd_ex h
      refine c_S (As := [.long ((p3).toInt64), .long (0 : Int64), .long (999999 : Int64)]) (rest := []) (w' := (MC g q d)) cx hw (c_X5_isIn l g  N ((p3).toInt64) (0 : Int64) (999999 : Int64)  x6 g7) (cl_X5_54 cx.1.2.2.2.2 ⟨Nat.le_of_ble_eq_true rfl, Nat.le_of_ble_eq_true rfl⟩) Ct.nil hl.1 rfl rfl (Nat.le_of_ble_eq_true rfl) dX5_mayBe_52 ⟨Nat.le_of_ble_eq_true rfl, Nat.le_of_ble_eq_true rfl⟩ (st1 := [.int x6]) rfl (fun H locs hw => ?_)
      have i8 := ckz_in h
      replace h := ckz_nx h
      exact r_z cx hr hlocks i8 hw (sm_eq h) rfl dX5_mayBe_55
    · replace h := ite_f c5 h
      by_cases c9 : p2 = 3
      · replace h := ite_t c9 h
        refine lv_tableIn (tgt := 56) hx hb dX5_mayBe_1 (by rw [c9]; decide) (by rw [c9]; decide) (by rw [c9]; rfl) (by decide) ?_
        refine lv_iload_n hx hb dX5_mayBe_56 rfl (lv_at hl 3 rfl) ?_
        refine lv_i2l hx hb dX5_mayBe_57 rfl ?_
        refine lv_lconst (v := 1) hx hb dX5_mayBe_58 (by decide) ?_
        refine lv_ldc2 hx hb cx.1.2.2.2.1 (cx.1.2.2.2.2 _ tw_4_98) dX5_mayBe_59 ?_
        obtain ⟨x10, g11, h⟩ := bd_ex h
        refine c_S (As := [.long ((p3).toInt64), .long (1 : Int64), .long (120 : Int64)]) (rest := []) (w' := (MC g q d)) cx hw (c_X5_isIn l g  N ((p3).toInt64) (1 : Int64) (120 : Int64)  x10 g11) (cl_X5_54 cx.1.2.2.2.2 ⟨Nat.le_of_ble_eq_true rfl, Nat.le_of_ble_eq_true rfl⟩) Ct.nil hl.1 rfl rfl (Nat.le_of_ble_eq_true rfl) dX5_mayBe_62 ⟨Nat.le_of_ble_eq_true rfl, Nat.le_of_ble_eq_true rfl⟩ (st1 := [.int x10]) rfl (fun H locs hw => ?_)
        have i12 := ckz_in h
        replace h := ckz_nx h
        exact r_z cx hr hlocks i12 hw (sm_eq h) rfl dX5_mayBe_65
      · replace h := ite_f c9 h
        by_cases c13 : p2 = 4
        · replace h := ite_t c13 h
          refine lv_tableIn (tgt := 66) hx hb dX5_mayBe_1 (by rw [c13]; decide) (by rw [c13]; decide) (by rw [c13]; rfl) (by decide) ?_
          refine lv_iload_n hx hb dX5_mayBe_66 rfl (lv_at hl 3 rfl) ?_
          refine lv_iconst (v := -1) hx hb dX5_mayBe_67 (by decide) ?_
          refine lv_icmp_eq (tgt := 80) hx hb dX5_mayBe_68 (by decide) (fun c14 => ?_) (fun c14 => ?_)
          · replace h := ite_t c14 h
            refine lv_iconst (v := 1) hx hb dX5_mayBe_80 (by decide) ?_
            refine lv_goto (tgt := 85) hx hb dX5_mayBe_81 (by decide) ?_
            exact r_z cx hr hlocks rfl hw (sm_eq h) rfl dX5_mayBe_85
          · replace h := ite_f c14 h
            refine lv_aload_n hx hb dX5_mayBe_71 rfl (lv_at hl 0 rfl) ?_
            refine lv_iload_n hx hb dX5_mayBe_72 rfl (lv_at hl 1 rfl) ?_
            refine lv_iload_n hx hb dX5_mayBe_73 rfl (lv_at hl 3 rfl) ?_
            obtain ⟨x15, g16, h⟩ := bd_ex h
            refine c_V (As := [.int p1, .int p3]) (rest := []) (w' := (MC g q d)) cx hw (c_X5_areTwo l g q N p1 p3 d x15 g16) (cl_X5_90 cx.1.2.2.2.2 ⟨Nat.le_of_ble_eq_true rfl, Nat.le_of_ble_eq_true rfl⟩) (x_recv cx hw (ci := 5) rfl 0 rfl) (Ct.all (MC_ll ..)) hl.1 rfl rfl (Nat.le_of_ble_eq_true rfl) dX5_mayBe_74 ⟨Nat.le_of_ble_eq_true rfl, Nat.le_of_ble_eq_true rfl⟩ (st1 := [.int x15]) rfl (fun H locs hw => ?_)
            refine lv_if_eq (tgt := 84) hx hb dX5_mayBe_77 (by decide) (fun c17 => ?_) (fun c17 => ?_)
            · replace h := ite_t c17 h
              refine lv_iconst (v := 0) hx hb dX5_mayBe_84 (by decide) ?_
              exact r_z cx hr hlocks rfl hw (sm_eq h) rfl dX5_mayBe_85
            · replace h := ite_f c17 h
              refine lv_iconst (v := 1) hx hb dX5_mayBe_80 (by decide) ?_
              refine lv_goto (tgt := 85) hx hb dX5_mayBe_81 (by decide) ?_
              exact r_z cx hr hlocks rfl hw (sm_eq h) rfl dX5_mayBe_85
        · replace h := ite_f c13 h
          by_cases c18 : p2 = 5
          · replace h := ite_t c18 h
            refine lv_tableIn (tgt := 86) hx hb dX5_mayBe_1 (by rw [c18]; decide) (by rw [c18]; decide) (by rw [c18]; rfl) (by decide) ?_
            refine lv_iload_n hx hb dX5_mayBe_86 rfl (lv_at hl 3 rfl) ?_
            refine lv_i2l hx hb dX5_mayBe_87 rfl ?_
            refine lv_lconst (v := 0) hx hb dX5_mayBe_88 (by decide) ?_
            refine lv_lconst (v := 1) hx hb dX5_mayBe_89 (by decide) ?_
            obtain ⟨x19, g20, h⟩ := bd_ex h
            refine c_S (As := [.long ((p3).toInt64), .long (0 : Int64), .long (1 : Int64)]) (rest := []) (w' := (MC g q d)) cx hw (c_X5_isIn l g  N ((p3).toInt64) (0 : Int64) (1 : Int64)  x19 g20) (cl_X5_54 cx.1.2.2.2.2 ⟨Nat.le_of_ble_eq_true rfl, Nat.le_of_ble_eq_true rfl⟩) Ct.nil hl.1 rfl rfl (Nat.le_of_ble_eq_true rfl) dX5_mayBe_90 ⟨Nat.le_of_ble_eq_true rfl, Nat.le_of_ble_eq_true rfl⟩ (st1 := [.int x19]) rfl (fun H locs hw => ?_)
            have i21 := ckz_in h
            replace h := ckz_nx h
            exact r_z cx hr hlocks i21 hw (sm_eq h) rfl dX5_mayBe_93
          · replace h := ite_f c18 h
            have tc1 : (p2).toInt ≠ 1 := fun e => c1 (Int32.toInt_inj.mp (e.trans (by decide)))
            have tc5 : (p2).toInt ≠ 2 := fun e => c5 (Int32.toInt_inj.mp (e.trans (by decide)))
            have tc9 : (p2).toInt ≠ 3 := fun e => c9 (Int32.toInt_inj.mp (e.trans (by decide)))
            have tc13 : (p2).toInt ≠ 4 := fun e => c13 (Int32.toInt_inj.mp (e.trans (by decide)))
            have tc18 : (p2).toInt ≠ 5 := fun e => c18 (Int32.toInt_inj.mp (e.trans (by decide)))
            refine lv_tableOut (tgt := 94) hx hb dX5_mayBe_1 (by omega) (by decide) ?_
            refine lv_iconst (v := 0) hx hb dX5_mayBe_94 (by decide) ?_
            exact r_z cx hr hlocks rfl hw (sm_eq h) rfl dX5_mayBe_95
set_option maxHeartbeats 4000000 in
set_option maxRecDepth 100000 in
theorem c_X5_set (l : Launch) (g : gE) (q : Nat → Nat) (N : Nat) (p1 : Int32) (p2 : Int32) (p3 : Int32) (d : MD) (r : Int32) (d' : MD) (h : f_X5_set N  p1 p2 p3 d = some (r, d')) : MO l yX5_set (Cond.code yX5_set cX5_set 4 (some .int) :: TB) rm_X5_set [.ref (q 0), .int p1, .int p2, .int p3] g ((MC g q d)) ((MC g q d')) (some (.int r)) 0 0 := by
  refine MO.of (cc := cX5_set) (maxL := 4) (ret := (some .int)) (by decide) ?_
  intro p e s m below meth c cx hw hr hlocks _
  have hx := cx.1.1
  have hb := cx.1.2.1
  refine en_go (lv := [(0, .ref (q 0)), (1, .int p1), (2, .int p2), (3, .int p3)]) (Nat.le_of_ble_eq_true rfl) rfl (fun ls hl => ?_)
  unfold f_X5_set at h
  refine lv_aload_n hx hb dX5_set_0 rfl (lv_at hl 0 rfl) ?_
  refine lv_iload_n hx hb dX5_set_1 rfl (lv_at hl 1 rfl) ?_
  obtain ⟨x1, g2, h⟩ := bd_ex h
  refine c_V (As := [.int p1]) (rest := []) (w' := (MC g q d)) cx hw (c_X5_isOne l g q N p1 d x1 g2) (cl_X5_43 cx.1.2.2.2.2 ⟨Nat.le_of_ble_eq_true rfl, Nat.le_of_ble_eq_true rfl⟩) (x_recv cx hw (ci := 5) rfl 0 rfl) (Ct.all (MC_ll ..)) hl.1 rfl rfl (Nat.le_of_ble_eq_true rfl) dX5_set_2 ⟨Nat.le_of_ble_eq_true rfl, Nat.le_of_ble_eq_true rfl⟩ (st1 := [.int x1]) rfl (fun H locs hw => ?_)
  refine lv_if_eq (tgt := 35) hx hb dX5_set_5 (by decide) (fun c3 => ?_) (fun c3 => ?_)
  · replace h := ite_t c3 h
    refine lv_aload_n hx hb dX5_set_35 rfl (lv_at hl 0 rfl) ?_
    refine lv_ldc hx hb cx.1.2.2.2.1 (cx.1.2.2.2.2 _ tw_4_79) dX5_set_36 ?_
    obtain ⟨x4, d5, g6, h⟩ := bd2_ex h
    refine c_V (As := [.int (-1000000001 : Int32)]) (rest := []) (w' := (MC g q d5)) cx hw (c_X5_finds l g q N (-1000000001 : Int32) d x4 d5 g6) (cl_X5_62 cx.1.2.2.2.2 ⟨Nat.le_of_ble_eq_true rfl, Nat.le_of_ble_eq_true rfl⟩) (x_recv cx hw (ci := 5) rfl 0 rfl) (Ct.all (MC_ll ..)) hl.1 rfl rfl (Nat.le_of_ble_eq_true rfl) dX5_set_38 ⟨Nat.le_of_ble_eq_true rfl, Nat.le_of_ble_eq_true rfl⟩ (st1 := [.int x4]) rfl (fun H locs hw => ?_)
    exact r_i cx hr hlocks hw (pr1 h) (congrArg (fun z0 => (MC g q z0)) (pr2 h)) dX5_set_41
  · replace h := ite_f c3 h
    refine lv_aload_n hx hb dX5_set_8 rfl (lv_at hl 0 rfl) ?_
    refine lv_iload_n hx hb dX5_set_9 rfl (lv_at hl 1 rfl) ?_
    refine lv_iload_n hx hb dX5_set_10 rfl (lv_at hl 2 rfl) ?_
    refine lv_iload_n hx hb dX5_set_11 rfl (lv_at hl 3 rfl) ?_
    obtain ⟨x7, g8, h⟩ := bd_ex h
    refine c_V (As := [.int p1, .int p2, .int p3]) (rest := []) (w' := (MC g q d)) cx hw (c_X5_mayBe l g q N p1 p2 p3 d x7 g8) (cl_X5_94 cx.1.2.2.2.2 ⟨Nat.le_of_ble_eq_true rfl, Nat.le_of_ble_eq_true rfl⟩) (x_recv cx hw (ci := 5) rfl 0 rfl) (Ct.all (MC_ll ..)) hl.1 rfl rfl (Nat.le_of_ble_eq_true rfl) dX5_set_12 ⟨Nat.le_of_ble_eq_true rfl, Nat.le_of_ble_eq_true rfl⟩ (st1 := [.int x7]) rfl (fun H locs hw => ?_)
    refine lv_if_eq (tgt := 35) hx hb dX5_set_15 (by decide) (fun c9 => ?_) (fun c9 => ?_)
    · replace h := ite_t c9 h
      refine lv_aload_n hx hb dX5_set_35 rfl (lv_at hl 0 rfl) ?_
      refine lv_ldc hx hb cx.1.2.2.2.1 (cx.1.2.2.2.2 _ tw_4_79) dX5_set_36 ?_
      obtain ⟨x10, d11, g12, h⟩ := bd2_ex h
      refine c_V (As := [.int (-1000000001 : Int32)]) (rest := []) (w' := (MC g q d11)) cx hw (c_X5_finds l g q N (-1000000001 : Int32) d x10 d11 g12) (cl_X5_62 cx.1.2.2.2.2 ⟨Nat.le_of_ble_eq_true rfl, Nat.le_of_ble_eq_true rfl⟩) (x_recv cx hw (ci := 5) rfl 0 rfl) (Ct.all (MC_ll ..)) hl.1 rfl rfl (Nat.le_of_ble_eq_true rfl) dX5_set_38 ⟨Nat.le_of_ble_eq_true rfl, Nat.le_of_ble_eq_true rfl⟩ (st1 := [.int x10]) rfl (fun H locs hw => ?_)
      exact r_i cx hr hlocks hw (pr1 h) (congrArg (fun z0 => (MC g q z0)) (pr2 h)) dX5_set_41
    · replace h := ite_f c9 h
      refine lv_aload_n hx hb dX5_set_18 rfl (lv_at hl 0 rfl) ?_
      refine lv_bipush (v := 21) hx hb dX5_set_19 (by decide) ?_
      refine lv_bipush (v := 15) hx hb dX5_set_21 (by decide) ?_
      refine lv_iload_n hx hb dX5_set_23 rfl (lv_at hl 1 rfl) ?_
      refine lv_imul hx hb dX5_set_24 ?_
      refine lv_iadd hx hb dX5_set_25 ?_
      refine lv_iload_n hx hb dX5_set_26 rfl (lv_at hl 2 rfl) ?_
      refine lv_iadd hx hb dX5_set_27 ?_
      refine lv_iload_n hx hb dX5_set_28 rfl (lv_at hl 3 rfl) ?_
      obtain ⟨x13, d14, g15, h⟩ := bd2_ex h
      refine c_V (As := [.int (((21 : Int32) + ((15 : Int32) * p1)) + p2), .int p3]) (rest := []) (w' := (MC g q d14)) cx hw (c_X5_becomes l g q N (((21 : Int32) + ((15 : Int32) * p1)) + p2) p3 d x13 d14 g15) (cl_X5_66 cx.1.2.2.2.2 ⟨Nat.le_of_ble_eq_true rfl, Nat.le_of_ble_eq_true rfl⟩) (x_recv cx hw (ci := 5) rfl 0 rfl) (Ct.all (MC_ll ..)) hl.1 rfl rfl (Nat.le_of_ble_eq_true rfl) dX5_set_29 ⟨Nat.le_of_ble_eq_true rfl, Nat.le_of_ble_eq_true rfl⟩ (st1 := [.int x13]) rfl (fun H locs hw => ?_)
      refine lv_goto (tgt := 41) hx hb dX5_set_32 (by decide) ?_
      exact r_i cx hr hlocks hw (pr1 h) (congrArg (fun z0 => (MC g q z0)) (pr2 h)) dX5_set_41
set_option maxHeartbeats 4000000 in
set_option maxRecDepth 100000 in
theorem c_X5_way (l : Launch) (g : gE) (q : Nat → Nat) (N : Nat) (p1 : Int32) (p2 : Int32) (d : MD) (r : Int32) (d' : MD) (h : f_X5_way N  p1 p2 d = some (r, d')) : MO l yX5_way (Cond.code yX5_way cX5_way 3 (some .int) :: TB) rm_X5_way [.ref (q 0), .int p1, .int p2] g ((MC g q d)) ((MC g q d')) (some (.int r)) 0 0 := by
  refine MO.of (cc := cX5_way) (maxL := 3) (ret := (some .int)) (by decide) ?_
  intro p e s m below meth c cx hw hr hlocks _
  have hx := cx.1.1
  have hb := cx.1.2.1
  refine en_go (lv := [(0, .ref (q 0)), (1, .int p1), (2, .int p2)]) (Nat.le_of_ble_eq_true rfl) rfl (fun ls hl => ?_)
  unfold f_X5_way at h
  refine lv_aload_n hx hb dX5_way_0 rfl (lv_at hl 0 rfl) ?_
  refine lv_iload_n hx hb dX5_way_1 rfl (lv_at hl 1 rfl) ?_
  obtain ⟨x1, g2, h⟩ := bd_ex h
  refine c_V (As := [.int p1]) (rest := []) (w' := (MC g q d)) cx hw (c_X5_isOne l g q N p1 d x1 g2) (cl_X5_43 cx.1.2.2.2.2 ⟨Nat.le_of_ble_eq_true rfl, Nat.le_of_ble_eq_true rfl⟩) (x_recv cx hw (ci := 5) rfl 0 rfl) (Ct.all (MC_ll ..)) hl.1 rfl rfl (Nat.le_of_ble_eq_true rfl) dX5_way_2 ⟨Nat.le_of_ble_eq_true rfl, Nat.le_of_ble_eq_true rfl⟩ (st1 := [.int x1]) rfl (fun H locs hw => ?_)
  refine lv_if_eq (tgt := 27) hx hb dX5_way_5 (by decide) (fun c3 => ?_) (fun c3 => ?_)
  · replace h := ite_t c3 h
    refine lv_aload_n hx hb dX5_way_27 rfl (lv_at hl 0 rfl) ?_
    refine lv_ldc hx hb cx.1.2.2.2.1 (cx.1.2.2.2.2 _ tw_4_79) dX5_way_28 ?_
    obtain ⟨x4, d5, g6, h⟩ := bd2_ex h
    refine c_V (As := [.int (-1000000001 : Int32)]) (rest := []) (w' := (MC g q d5)) cx hw (c_X5_finds l g q N (-1000000001 : Int32) d x4 d5 g6) (cl_X5_62 cx.1.2.2.2.2 ⟨Nat.le_of_ble_eq_true rfl, Nat.le_of_ble_eq_true rfl⟩) (x_recv cx hw (ci := 5) rfl 0 rfl) (Ct.all (MC_ll ..)) hl.1 rfl rfl (Nat.le_of_ble_eq_true rfl) dX5_way_30 ⟨Nat.le_of_ble_eq_true rfl, Nat.le_of_ble_eq_true rfl⟩ (st1 := [.int x4]) rfl (fun H locs hw => ?_)
    exact r_i cx hr hlocks hw (pr1 h) (congrArg (fun z0 => (MC g q z0)) (pr2 h)) dX5_way_33
  · replace h := ite_f c3 h
    refine lv_iload_n hx hb dX5_way_8 rfl (lv_at hl 2 rfl) ?_
    obtain ⟨x7, g8, h⟩ := bd_ex h
    refine c_S (As := [.int p2]) (rest := []) (w' := (MC g q d)) cx hw (c_X5_isMark l g  N p2  x7 g8) (cl_X5_51 cx.1.2.2.2.2 ⟨Nat.le_of_ble_eq_true rfl, Nat.le_of_ble_eq_true rfl⟩) Ct.nil hl.1 rfl rfl (Nat.le_of_ble_eq_true rfl) dX5_way_9 ⟨Nat.le_of_ble_eq_true rfl, Nat.le_of_ble_eq_true rfl⟩ (st1 := [.int x7]) rfl (fun H locs hw => ?_)
    refine lv_if_eq (tgt := 27) hx hb dX5_way_12 (by decide) (fun c9 => ?_) (fun c9 => ?_)
    · replace h := ite_t c9 h
      refine lv_aload_n hx hb dX5_way_27 rfl (lv_at hl 0 rfl) ?_
      refine lv_ldc hx hb cx.1.2.2.2.1 (cx.1.2.2.2.2 _ tw_4_79) dX5_way_28 ?_
      obtain ⟨x10, d11, g12, h⟩ := bd2_ex h
      refine c_V (As := [.int (-1000000001 : Int32)]) (rest := []) (w' := (MC g q d11)) cx hw (c_X5_finds l g q N (-1000000001 : Int32) d x10 d11 g12) (cl_X5_62 cx.1.2.2.2.2 ⟨Nat.le_of_ble_eq_true rfl, Nat.le_of_ble_eq_true rfl⟩) (x_recv cx hw (ci := 5) rfl 0 rfl) (Ct.all (MC_ll ..)) hl.1 rfl rfl (Nat.le_of_ble_eq_true rfl) dX5_way_30 ⟨Nat.le_of_ble_eq_true rfl, Nat.le_of_ble_eq_true rfl⟩ (st1 := [.int x10]) rfl (fun H locs hw => ?_)
      exact r_i cx hr hlocks hw (pr1 h) (congrArg (fun z0 => (MC g q z0)) (pr2 h)) dX5_way_33
    · replace h := ite_f c9 h
      refine lv_aload_n hx hb dX5_way_15 rfl (lv_at hl 0 rfl) ?_
      refine lv_iload_n hx hb dX5_way_16 rfl (lv_at hl 1 rfl) ?_
      refine lv_bipush (v := 6) hx hb dX5_way_17 (by decide) ?_
      refine lv_iload_n hx hb dX5_way_19 rfl (lv_at hl 2 rfl) ?_
      refine lv_iadd hx hb dX5_way_20 ?_
      obtain ⟨x13, g14, h⟩ := bd_ex h
      refine c_V (As := [.int p1, .int ((6 : Int32) + p2)]) (rest := []) (w' := (MC g q d)) cx hw (c_X5_is l g q N p1 ((6 : Int32) + p2) d x13 g14) (cl_X5_47 cx.1.2.2.2.2 ⟨Nat.le_of_ble_eq_true rfl, Nat.le_of_ble_eq_true rfl⟩) (x_recv cx hw (ci := 5) rfl 0 rfl) (Ct.all (MC_ll ..)) hl.1 rfl rfl (Nat.le_of_ble_eq_true rfl) dX5_way_21 ⟨Nat.le_of_ble_eq_true rfl, Nat.le_of_ble_eq_true rfl⟩ (st1 := [.int x13]) rfl (fun H locs hw => ?_)
      refine lv_goto (tgt := 33) hx hb dX5_way_24 (by decide) ?_
      exact r_i cx hr hlocks hw (pr1 h) (congrArg (fun z0 => (MC g q z0)) (pr2 h)) dX5_way_33
set_option maxHeartbeats 4000000 in
set_option maxRecDepth 100000 in
theorem c_X5_be (l : Launch) (g : gE) (q : Nat → Nat) (N : Nat) (p1 : Int32) (p2 : Int32) (p3 : Int32) (d : MD) (r : Int32) (d' : MD) (h : f_X5_be N  p1 p2 p3 d = some (r, d')) : MO l yX5_be (Cond.code yX5_be cX5_be 4 (some .int) :: TB) rm_X5_be [.ref (q 0), .int p1, .int p2, .int p3] g ((MC g q d)) ((MC g q d')) (some (.int r)) 0 0 := by
  refine MO.of (cc := cX5_be) (maxL := 4) (ret := (some .int)) (by decide) ?_
  intro p e s m below meth c cx hw hr hlocks _
  have hx := cx.1.1
  have hb := cx.1.2.1
  refine en_go (lv := [(0, .ref (q 0)), (1, .int p1), (2, .int p2), (3, .int p3)]) (Nat.le_of_ble_eq_true rfl) rfl (fun ls hl => ?_)
  unfold f_X5_be at h
  refine lv_aload_n hx hb dX5_be_0 rfl (lv_at hl 0 rfl) ?_
  refine lv_iload_n hx hb dX5_be_1 rfl (lv_at hl 1 rfl) ?_
  obtain ⟨x1, g2, h⟩ := bd_ex h
  refine c_V (As := [.int p1]) (rest := []) (w' := (MC g q d)) cx hw (c_X5_isOne l g q N p1 d x1 g2) (cl_X5_43 cx.1.2.2.2.2 ⟨Nat.le_of_ble_eq_true rfl, Nat.le_of_ble_eq_true rfl⟩) (x_recv cx hw (ci := 5) rfl 0 rfl) (Ct.all (MC_ll ..)) hl.1 rfl rfl (Nat.le_of_ble_eq_true rfl) dX5_be_2 ⟨Nat.le_of_ble_eq_true rfl, Nat.le_of_ble_eq_true rfl⟩ (st1 := [.int x1]) rfl (fun H locs hw => ?_)
  refine lv_if_eq (tgt := 47) hx hb dX5_be_5 (by decide) (fun c3 => ?_) (fun c3 => ?_)
  · replace h := ite_t c3 h
    refine lv_aload_n hx hb dX5_be_47 rfl (lv_at hl 0 rfl) ?_
    refine lv_ldc hx hb cx.1.2.2.2.1 (cx.1.2.2.2.2 _ tw_4_79) dX5_be_48 ?_
    obtain ⟨x4, d5, g6, h⟩ := bd2_ex h
    refine c_V (As := [.int (-1000000001 : Int32)]) (rest := []) (w' := (MC g q d5)) cx hw (c_X5_finds l g q N (-1000000001 : Int32) d x4 d5 g6) (cl_X5_62 cx.1.2.2.2.2 ⟨Nat.le_of_ble_eq_true rfl, Nat.le_of_ble_eq_true rfl⟩) (x_recv cx hw (ci := 5) rfl 0 rfl) (Ct.all (MC_ll ..)) hl.1 rfl rfl (Nat.le_of_ble_eq_true rfl) dX5_be_50 ⟨Nat.le_of_ble_eq_true rfl, Nat.le_of_ble_eq_true rfl⟩ (st1 := [.int x4]) rfl (fun H locs hw => ?_)
    exact r_i cx hr hlocks hw (pr1 h) (congrArg (fun z0 => (MC g q z0)) (pr2 h)) dX5_be_53
  · replace h := ite_f c3 h
    refine lv_iload_n hx hb dX5_be_8 rfl (lv_at hl 2 rfl) ?_
    obtain ⟨x7, g8, h⟩ := bd_ex h
    refine c_S (As := [.int p2]) (rest := []) (w' := (MC g q d)) cx hw (c_X5_isMark l g  N p2  x7 g8) (cl_X5_51 cx.1.2.2.2.2 ⟨Nat.le_of_ble_eq_true rfl, Nat.le_of_ble_eq_true rfl⟩) Ct.nil hl.1 rfl rfl (Nat.le_of_ble_eq_true rfl) dX5_be_9 ⟨Nat.le_of_ble_eq_true rfl, Nat.le_of_ble_eq_true rfl⟩ (st1 := [.int x7]) rfl (fun H locs hw => ?_)
    refine lv_if_eq (tgt := 47) hx hb dX5_be_12 (by decide) (fun c9 => ?_) (fun c9 => ?_)
    · replace h := ite_t c9 h
      refine lv_aload_n hx hb dX5_be_47 rfl (lv_at hl 0 rfl) ?_
      refine lv_ldc hx hb cx.1.2.2.2.1 (cx.1.2.2.2.2 _ tw_4_79) dX5_be_48 ?_
      obtain ⟨x10, d11, g12, h⟩ := bd2_ex h
      refine c_V (As := [.int (-1000000001 : Int32)]) (rest := []) (w' := (MC g q d11)) cx hw (c_X5_finds l g q N (-1000000001 : Int32) d x10 d11 g12) (cl_X5_62 cx.1.2.2.2.2 ⟨Nat.le_of_ble_eq_true rfl, Nat.le_of_ble_eq_true rfl⟩) (x_recv cx hw (ci := 5) rfl 0 rfl) (Ct.all (MC_ll ..)) hl.1 rfl rfl (Nat.le_of_ble_eq_true rfl) dX5_be_50 ⟨Nat.le_of_ble_eq_true rfl, Nat.le_of_ble_eq_true rfl⟩ (st1 := [.int x10]) rfl (fun H locs hw => ?_)
      exact r_i cx hr hlocks hw (pr1 h) (congrArg (fun z0 => (MC g q z0)) (pr2 h)) dX5_be_53
    · replace h := ite_f c9 h
      refine lv_iload_n hx hb dX5_be_15 rfl (lv_at hl 3 rfl) ?_
      refine lv_i2l hx hb dX5_be_16 rfl ?_
      refine lv_lconst (v := 0) hx hb dX5_be_17 (by decide) ?_
      refine lv_ldc2 hx hb cx.1.2.2.2.1 (cx.1.2.2.2.2 _ tw_4_170) dX5_be_18 ?_
      obtain ⟨x13, g14, h⟩ := bd_ex h
      refine c_S (As := [.long ((p3).toInt64), .long (0 : Int64), .long (3 : Int64)]) (rest := []) (w' := (MC g q d)) cx hw (c_X5_isIn l g  N ((p3).toInt64) (0 : Int64) (3 : Int64)  x13 g14) (cl_X5_54 cx.1.2.2.2.2 ⟨Nat.le_of_ble_eq_true rfl, Nat.le_of_ble_eq_true rfl⟩) Ct.nil hl.1 rfl rfl (Nat.le_of_ble_eq_true rfl) dX5_be_21 ⟨Nat.le_of_ble_eq_true rfl, Nat.le_of_ble_eq_true rfl⟩ (st1 := [.int x13]) rfl (fun H locs hw => ?_)
      refine lv_if_eq (tgt := 47) hx hb dX5_be_24 (by decide) (fun c15 => ?_) (fun c15 => ?_)
      · replace h := ite_t c15 h
        refine lv_aload_n hx hb dX5_be_47 rfl (lv_at hl 0 rfl) ?_
        refine lv_ldc hx hb cx.1.2.2.2.1 (cx.1.2.2.2.2 _ tw_4_79) dX5_be_48 ?_
        obtain ⟨x16, d17, g18, h⟩ := bd2_ex h
        refine c_V (As := [.int (-1000000001 : Int32)]) (rest := []) (w' := (MC g q d17)) cx hw (c_X5_finds l g q N (-1000000001 : Int32) d x16 d17 g18) (cl_X5_62 cx.1.2.2.2.2 ⟨Nat.le_of_ble_eq_true rfl, Nat.le_of_ble_eq_true rfl⟩) (x_recv cx hw (ci := 5) rfl 0 rfl) (Ct.all (MC_ll ..)) hl.1 rfl rfl (Nat.le_of_ble_eq_true rfl) dX5_be_50 ⟨Nat.le_of_ble_eq_true rfl, Nat.le_of_ble_eq_true rfl⟩ (st1 := [.int x16]) rfl (fun H locs hw => ?_)
        exact r_i cx hr hlocks hw (pr1 h) (congrArg (fun z0 => (MC g q z0)) (pr2 h)) dX5_be_53
      · replace h := ite_f c15 h
        refine lv_aload_n hx hb dX5_be_27 rfl (lv_at hl 0 rfl) ?_
        refine lv_bipush (v := 21) hx hb dX5_be_28 (by decide) ?_
        refine lv_bipush (v := 15) hx hb dX5_be_30 (by decide) ?_
        refine lv_iload_n hx hb dX5_be_32 rfl (lv_at hl 1 rfl) ?_
        refine lv_imul hx hb dX5_be_33 ?_
        refine lv_iadd hx hb dX5_be_34 ?_
        refine lv_bipush (v := 6) hx hb dX5_be_35 (by decide) ?_
        refine lv_iadd hx hb dX5_be_37 ?_
        refine lv_iload_n hx hb dX5_be_38 rfl (lv_at hl 2 rfl) ?_
        refine lv_iadd hx hb dX5_be_39 ?_
        refine lv_iload_n hx hb dX5_be_40 rfl (lv_at hl 3 rfl) ?_
        obtain ⟨x19, d20, g21, h⟩ := bd2_ex h
        refine c_V (As := [.int ((((21 : Int32) + ((15 : Int32) * p1)) + (6 : Int32)) + p2), .int p3]) (rest := []) (w' := (MC g q d20)) cx hw (c_X5_becomes l g q N ((((21 : Int32) + ((15 : Int32) * p1)) + (6 : Int32)) + p2) p3 d x19 d20 g21) (cl_X5_66 cx.1.2.2.2.2 ⟨Nat.le_of_ble_eq_true rfl, Nat.le_of_ble_eq_true rfl⟩) (x_recv cx hw (ci := 5) rfl 0 rfl) (Ct.all (MC_ll ..)) hl.1 rfl rfl (Nat.le_of_ble_eq_true rfl) dX5_be_41 ⟨Nat.le_of_ble_eq_true rfl, Nat.le_of_ble_eq_true rfl⟩ (st1 := [.int x19]) rfl (fun H locs hw => ?_)
        refine lv_goto (tgt := 53) hx hb dX5_be_44 (by decide) ?_
        exact r_i cx hr hlocks hw (pr1 h) (congrArg (fun z0 => (MC g q z0)) (pr2 h)) dX5_be_53
