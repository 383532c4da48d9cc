def f_X5_comesTo (N : Nat)  (p1 : Int32) (p2 : Int32) (p3 : Int32) (d : MD) : Option (Int32 × MD) :=
  if (m_token d) = (2 : Int32) then
    (f_X5_isIn N (((m_value d)).toInt64) ((p2).toInt64) ((p3).toInt64)).bind fun x6 =>
    if x6 = 0 then
      bd2 (f_X5_fails N d) fun x13 d14 =>
      (ckz x13).bind fun _ =>
      some (x13, d14)
    else
      (ck p1 201).bind fun _ =>
      lt (m_set_s d (upd (m_s d) (p1).toNatClampNeg (m_value d))) fun d10 =>
      (f_X5_nextToken N d10).bind fun d11 =>
      some ((1 : Int32), d11)
  else
    bd2 (f_X5_fails N d) fun x2 d3 =>
    (ckz x2).bind fun _ =>
    some (x2, d3)
def f_X5_waysCome_L29 (N : Nat)   : Nat → Int32 → Int32 → MD → Option (Int32 × MD)
  | 0, _, _, _ => none
  | n29 + 1, a1, a2, d_ =>
  if a2 < (m_from d_) then
    (f_X5_nextToken N d_).bind fun d13 =>
    some ((1 : Int32), d13)
  else
    (f_X5_byteAt N a2 d_).bind fun x15 =>
    lt (x15 - (48 : Int32)) fun x17 =>
    if x17 ≤ (3 : Int32) then
      if (9 : Int32) ≤ (((m_to d_) - (1 : Int32)) - a2) then
        lt (a2 + (-1)) fun x20 =>
        f_X5_waysCome_L29 N   n29 a1 x20 d_
      else
        (f_X5_puts N a1 ((((6 : Int32) + (m_to d_)) - (1 : Int32)) - a2) x17 d_).bind fun d21 =>
        lt (a2 + (-1)) fun x23 =>
        f_X5_waysCome_L29 N   n29 a1 x23 d21
    else
      bd2 (f_X5_fails N d_) fun x24 d25 =>
      (ckz x24).bind fun _ =>
      some (x24, d25)
def f_X5_waysCome (N : Nat)  (p1 : Int32) (d : MD) : Option (Int32 × MD) :=
  if (m_token d) = (2 : Int32) then
    if (m_value d) ≤ (999999999 : Int32) then
      lt ((m_to d) - (1 : Int32)) fun x7 =>
      f_X5_waysCome_L29 N   N p1 x7 d
    else
      bd2 (f_X5_fails N d) fun x8 d9 =>
      (ckz x8).bind fun _ =>
      some (x8, d9)
  else
    bd2 (f_X5_fails N d) fun x2 d3 =>
    (ckz x2).bind fun _ =>
    some (x2, d3)
def f_X5_isFour (N : Nat)  (p1 : Int32) (p2 : Int32) (p3 : Int32) (p4 : Int32) (d : MD) : Option (Int32) :=
  (f_X5_isWord N (4 : Int32) d).bind fun x1 =>
  if x1 = 0 then
    some (0 : Int32)
  else
    (f_X5_has3 N (0 : Int32) p1 p2 p3 d).bind fun x4 =>
    if x4 = 0 then
      some (0 : Int32)
    else
      (f_X5_has3 N (1 : Int32) p2 p3 p4 d).bind fun x7 =>
      if x7 = 0 then
        some (0 : Int32)
      else
        some (1 : Int32)
def f_X5_isFive (N : Nat)  (p1 : Int32) (p2 : Int32) (p3 : Int32) (p4 : Int32) (p5 : Int32) (d : MD) : Option (Int32) :=
  (f_X5_isWord N (5 : Int32) d).bind fun x1 =>
  if x1 = 0 then
    some (0 : Int32)
  else
    (f_X5_has3 N (0 : Int32) p1 p2 p3 d).bind fun x4 =>
    if x4 = 0 then
      some (0 : Int32)
    else
      (f_X5_has3 N (2 : Int32) p3 p4 p5 d).bind fun x7 =>
      if x7 = 0 then
        some (0 : Int32)
      else
        some (1 : Int32)
def f_X5_personHere_J175 (N : Nat)   (a2 : Int32) (a3 : Int32) (d_ : MD) : Option (Int32 × MD) :=
  (f_X5_isFive N (99 : Int32) (104 : Int32) (105 : Int32) (108 : Int32) (100 : Int32) d_).bind fun x52 =>
  if x52 = 0 then
    some ((1 : Int32), d_)
  else
    (f_X5_nextToken N d_).bind fun d55 =>
    bd2 (f_X5_comesTo N (a3 + (4 : Int32)) (0 : Int32) (a2 - (1 : Int32)) d55) fun x57 d58 =>
    (ckz x57).bind fun _ =>
    some (x57, d58)
def f_X5_personHere_J141 (N : Nat)   (a2 : Int32) (a3 : Int32) (d_ : MD) : Option (Int32 × MD) :=
  (f_X5_isFour N (116 : Int32) (101 : Int32) (114 : Int32) (109 : Int32) d_).bind fun x43 =>
  if x43 = 0 then
    f_X5_personHere_J175 N   a2 a3 d_
  else
    (f_X5_nextToken N d_).bind fun d46 =>
    bd2 (f_X5_comesTo N (a3 + (3 : Int32)) (1 : Int32) (120 : Int32) d46) fun x48 d49 =>
    if x48 = 0 then
      some ((0 : Int32), d49)
    else
      f_X5_personHere_J175 N   a2 a3 d49
def f_X5_personHere_J105 (N : Nat)   (a2 : Int32) (a3 : Int32) (d_ : MD) : Option (Int32 × MD) :=
  (f_X5_isFive N (103 : Int32) (111 : Int32) (111 : Int32) (100 : Int32) (115 : Int32) d_).bind fun x34 =>
  if x34 = 0 then
    f_X5_personHere_J141 N   a2 a3 d_
  else
    (f_X5_nextToken N d_).bind fun d37 =>
    bd2 (f_X5_comesTo N (a3 + (2 : Int32)) (0 : Int32) (999999 : Int32) d37) fun x39 d40 =>
    if x39 = 0 then
      some ((0 : Int32), d40)
    else
      f_X5_personHere_J141 N   a2 a3 d40
def f_X5_personHere_J64 (N : Nat)   (a2 : Int32) (a3 : Int32) (d_ : MD) : Option (Int32 × MD) :=
  (f_X5_isWord N (3 : Int32) d_).bind fun x22 =>
  if x22 = 0 then
    f_X5_personHere_J105 N   a2 a3 d_
  else
    (f_X5_has3 N (0 : Int32) (97 : Int32) (103 : Int32) (101 : Int32) d_).bind fun x25 =>
    if x25 = 0 then
      f_X5_personHere_J105 N   a2 a3 d_
    else
      (f_X5_nextToken N d_).bind fun d28 =>
      bd2 (f_X5_comesTo N (a3 + (1 : Int32)) (0 : Int32) (120 : Int32) d28) fun x30 d31 =>
      if x30 = 0 then
        some ((0 : Int32), d31)
      else
        f_X5_personHere_J105 N   a2 a3 d31
def f_X5_personHere (N : Nat)  (p1 : Int32) (d : MD) : Option (Int32 × MD) :=
  (rd (m_s d) 201 (0 : Int32)).bind fun x1 =>
  if x1 = (12 : Int32) then
    bd2 (f_X5_fails N d) fun x18 d19 =>
    (ckz x18).bind fun _ =>
    some (x18, d19)
  else
    bd2 (f_X5_comes N p1 (0 : Int32) d) fun x3 d4 =>
    lt ((21 : Int32) + ((15 : Int32) * x3)) fun x6 =>
    (f_X5_nextToken N d4).bind fun d7 =>
    (f_X5_isFour N (108 : Int32) (105 : Int32) (107 : Int32) (101 : Int32) d7).bind fun x9 =>
    if x9 = 0 then
      f_X5_personHere_J64 N   x3 x6 d7
    else
      (f_X5_nextToken N d7).bind fun d12 =>
      bd2 (f_X5_waysCome N x3 d12) fun x14 d15 =>
      if x14 = 0 then
        some ((0 : Int32), d15)
      else
        f_X5_personHere_J64 N   x3 x6 d15
def f_X5_markHere_J91 (N : Nat)   (a1 : Int32) (d_ : MD) : Option (Int32 × MD) :=
  (f_X5_isFive N (99 : Int32) (111 : Int32) (115 : Int32) (116 : Int32) (115 : Int32) d_).bind fun x31 =>
  if x31 = 0 then
    some ((1 : Int32), d_)
  else
    (f_X5_nextToken N d_).bind fun d34 =>
    bd2 (f_X5_comesTo N ((12 : Int32) + a1) (0 : Int32) (99 : Int32) d34) fun x36 d37 =>
    (ckz x36).bind fun _ =>
    some (x36, d37)
def f_X5_markHere (N : Nat)   (d : MD) : Option (Int32 × MD) :=
  (f_X5_nextToken N d).bind fun d1 =>
  if (m_token d1) = (2 : Int32) then
    if (m_value d1) ≤ (8 : Int32) then
      lt (m_value d1) fun x9 =>
      (f_X5_nextToken N d1).bind fun d10 =>
      (f_X5_isWord N (6 : Int32) d10).bind fun x12 =>
      if x12 = 0 then
        f_X5_markHere_J91 N   x9 d10
      else
        (f_X5_has3 N (0 : Int32) (119 : Int32) (101 : Int32) (105 : Int32) d10).bind fun x15 =>
        if x15 = 0 then
          f_X5_markHere_J91 N   x9 d10
        else
          (f_X5_has3 N (3 : Int32) (103 : Int32) (104 : Int32) (115 : Int32) d10).bind fun x18 =>
          if x18 = 0 then
            f_X5_markHere_J91 N   x9 d10
          else
            (f_X5_nextToken N d10).bind fun d21 =>
            bd2 (f_X5_comesTo N ((3 : Int32) + x9) (0 : Int32) (9 : Int32) d21) fun x23 d24 =>
            if x23 = 0 then
              some ((0 : Int32), d24)
            else
              f_X5_markHere_J91 N   x9 d24
    else
      bd2 (f_X5_fails N d1) fun x27 d28 =>
      (ckz x27).bind fun _ =>
      some (x27, d28)
  else
    bd2 (f_X5_fails N d1) fun x4 d5 =>
    (ckz x4).bind fun _ =>
    some (x4, d5)
def f_X5_itemHere (N : Nat)   (d : MD) : Option (Int32 × MD) :=
  (f_X5_kindHere N d).bind fun x1 =>
  if x1 < 0 then
    (f_X5_isFour N (109 : Int32) (97 : Int32) (114 : Int32) (107 : Int32) d).bind fun x4 =>
    if x4 = 0 then
      (f_X5_isWord N (3 : Int32) d).bind fun x7 =>
      if x7 = 0 then
        bd2 (f_X5_fails N d) fun x10 d11 =>
        (ckz x10).bind fun _ =>
        some (x10, d11)
      else
        (f_X5_has3 N (0 : Int32) (108 : Int32) (97 : Int32) (119 : Int32) d).bind fun x14 =>
        if x14 = 0 then
          bd2 (f_X5_fails N d) fun x17 d18 =>
          (ckz x17).bind fun _ =>
          some (x17, d18)
        else
          (f_X5_nextToken N d).bind fun d21 =>
          bd2 (f_X5_comesTo N (2 : Int32) (0 : Int32) (2 : Int32) d21) fun x23 d24 =>
          (ckz x23).bind fun _ =>
          some (x23, d24)
    else
      bd2 (f_X5_markHere N d) fun x27 d28 =>
      (ckz x27).bind fun _ =>
      some (x27, d28)
  else
    bd2 (f_X5_personHere N x1 d) fun x31 d32 =>
    (ckz x31).bind fun _ =>
    some (x31, d32)
def f_X5_valley_J98 (N : Nat)   (a1 : Int32) (a2 : Int32) (d_ : MD) : Option (Int32 × MD) :=
  if a2 = 0 then
    some (((-1 : Int32) - (m_faultAt d_)), d_)
  else
    some (a1, d_)
def f_X5_valley_J77 (N : Nat)   (a1 : Int32) (t0 : Int32) (d_ : MD) : Option (Int32 × MD) :=
  lt (m_set_taped d_ (0 : Int32)) fun d24 =>
  if t0 = 0 then
    (f_X5_copyRow N (m_before d24) (m_s d24)).bind fun f26 =>
    lt (m_set_s d24 f26) fun d28 =>
    f_X5_valley_J98 N   a1 t0 d28
  else
    f_X5_valley_J98 N   a1 t0 d24
def f_X5_valley_J76 (N : Nat)   (a1 : Int32) (d_ : MD) : Option (Int32 × MD) :=
  f_X5_valley_J77 N   a1 (0 : Int32) d_
def f_X5_valley_J72 (N : Nat)   (a1 : Int32) (d_ : MD) : Option (Int32 × MD) :=
  f_X5_valley_J77 N   a1 (1 : Int32) d_
def f_X5_valley_J54 (N : Nat)   (a1 : Int32) (a2 : Int32) (d_ : MD) : Option (Int32 × MD) :=
  if a2 = 0 then
    f_X5_valley_J76 N   a1 d_
  else
    if (m_token d_) = 0 then
      f_X5_valley_J72 N   a1 d_
    else
      bd2 (f_X5_fails N d_) fun x20 d21 =>
      if x20 = 0 then
        f_X5_valley_J76 N   a1 d21
      else
        f_X5_valley_J72 N   a1 d21
def f_X5_valley_L27 (N : Nat)   : Nat → Int32 → Int32 → MD → Option (Int32 × MD)
  | 0, _, _, _ => none
  | n27 + 1, a1, a2, d_ =>
  if a2 = 0 then
    f_X5_valley_J54 N   a1 a2 d_
  else
    if (m_token d_) = (3 : Int32) then
      (f_X5_nextToken N d_).bind fun d12 =>
      bd2 (f_X5_itemHere N d12) fun x14 d15 =>
      lt (a1 + 1) fun x17 =>
      f_X5_valley_L27 N   n27 x17 x14 d15
    else
      f_X5_valley_J54 N   a1 a2 d_
def f_X5_valley (N : Nat)   (d : MD) : Option (Int32 × MD) :=
  (f_X5_copyRow N (m_s d) (m_before d)).bind fun f1 =>
  lt (m_set_before d f1) fun d3 =>
  lt (m_set_to d3 (0 : Int32)) fun d4 =>
  (f_X5_nextToken N d4).bind fun d5 =>
  bd2 (f_X5_itemHere N d5) fun x7 d8 =>
  f_X5_valley_L27 N   N (1 : Int32) x7 d8
def f_X5_isSheet (N : Nat)  (p0 : Int32)  : Option (Int32) :=
  if p0 < 0 then
    some (0 : Int32)
  else
    if (4 : Int32) ≤ p0 then
      some (0 : Int32)
    else
      some (1 : Int32)
def f_X5_narrow (N : Nat)  (p0 : Int32) (p1 : Int64)  : Option (Int64) :=
  if p0 = (8 : Int32) then
    some ((((((p1).toInt32)).toInt8.toInt32)).toInt64)
  else
    if p0 = (16 : Int32) then
      some ((((((p1).toInt32)).toInt16.toInt32)).toInt64)
    else
      some p1
def f_X5_sheet_L94 (N : Nat)   : Nat → Int32 → Int32 → MD → Option (Int32 × MD)
  | 0, _, _, _ => none
  | n94 + 1, a1, a4, d_ =>
  if (40 : Int32) ≤ a4 then
    (rd (m_sizes d_) 4 a1).bind fun x31 =>
    some (x31, d_)
  else
    (ck (((40 : Int32) * a1) + a4) 160).bind fun _ =>
    lt (m_set_numbers d_ (vp_updL (m_numbers d_) ((((40 : Int32) * a1) + a4)).toNatClampNeg (0 : Int64))) fun d33 =>
    lt (a4 + 1) fun x34 =>
    f_X5_sheet_L94 N   n94 a1 x34 d33
def f_X5_sheet_J75 (N : Nat)   (a1 : Int32) (a2 : Int32) (a3 : Int32) (t1 : Int32) (t2 : Int32) (d_ : MD) : Option (Int32 × MD) :=
  (ck t1 4).bind fun _ =>
  lt (m_set_bitsOf d_ (upd (m_bitsOf d_) (t1).toNatClampNeg t2)) fun d24 =>
  if a2 = 0 then
    (ck a1 4).bind fun _ =>
    lt (m_set_sizes d24 (upd (m_sizes d24) (a1).toNatClampNeg (0 : Int32))) fun d29 =>
    f_X5_sheet_L94 N   N a1 (0 : Int32) d29
  else
    (ck a1 4).bind fun _ =>
    lt (m_set_sizes d24 (upd (m_sizes d24) (a1).toNatClampNeg a3)) fun d27 =>
    f_X5_sheet_L94 N   N a1 (0 : Int32) d27
def f_X5_sheet_J36 (N : Nat)   (a1 : Int32) (a2 : Int32) (a3 : Int32) (d_ : MD) : Option (Int32 × MD) :=
  if 0 ≤ a3 then
    if a3 ≤ (40 : Int32) then
      if a2 = 0 then
        f_X5_sheet_J75 N   a1 a2 a3 a1 (-1 : Int32) d_
      else
        f_X5_sheet_J75 N   a1 a2 a3 a1 a2 d_
    else
      bd2 (f_X5_finds N (-1000000001 : Int32) d_) fun x17 d18 =>
      some (x17, d18)
  else
    bd2 (f_X5_finds N (-1000000007 : Int32) d_) fun x20 d21 =>
    some (x20, d21)
def f_X5_sheet (N : Nat)  (p1 : Int32) (p2 : Int32) (p3 : Int32) (d : MD) : Option (Int32 × MD) :=
  (f_X5_isSheet N p1).bind fun x1 =>
  if x1 = 0 then
    bd2 (f_X5_finds N (-1000000001 : Int32) d) fun x4 d5 =>
    some (x4, d5)
  else
    if p2 = 0 then
      f_X5_sheet_J36 N   p1 p2 p3 d
    else
      if p2 = (8 : Int32) then
        f_X5_sheet_J36 N   p1 p2 p3 d
      else
        if p2 = (16 : Int32) then
          f_X5_sheet_J36 N   p1 p2 p3 d
        else
          if p2 = (64 : Int32) then
            f_X5_sheet_J36 N   p1 p2 p3 d
          else
            bd2 (f_X5_finds N (-1000000001 : Int32) d) fun x11 d12 =>
            some (x11, d12)
def f_X5_write (N : Nat)  (p1 : Int32) (p2 : Int32) (p3 : Int64) (d : MD) : Option (Int64 × MD) :=
  (f_X5_isSheet N p1).bind fun x1 =>
  if x1 = 0 then
    bd2 (f_X5_finds N (-1000000001 : Int32) d) fun x22 d23 =>
    some (((x22).toInt64), d23)
  else
    (rd (m_bitsOf d) 4 p1).bind fun x4 =>
    if 0 ≤ x4 then
      (rd (m_sizes d) 4 p1).bind fun x6 =>
      (f_X5_isIn N ((p2).toInt64) (0 : Int64) (((x6 - (1 : Int32))).toInt64)).bind fun x7 =>
      if x7 = 0 then
        bd2 (f_X5_finds N (-1000000001 : Int32) d) fun x16 d17 =>
        some (((x16).toInt64), d17)
      else
        (rdL (m_numbers d) 160 (((40 : Int32) * p1) + p2)).bind fun x10 =>
        (rd (m_bitsOf d) 4 p1).bind fun x11 =>
        (f_X5_narrow N x11 p3).bind fun x12 =>
        (ck (((40 : Int32) * p1) + p2) 160).bind fun _ =>
        lt (m_set_numbers d (vp_updL (m_numbers d) ((((40 : Int32) * p1) + p2)).toNatClampNeg x12)) fun d15 =>
        some (x10, d15)
    else
      bd2 (f_X5_finds N (-1000000006 : Int32) d) fun x19 d20 =>
      some (((x19).toInt64), d20)
def f_X5_copy_J163 (N : Nat)  (K137 : Int32 → Int32 → Int32 → Int32 → MD → Option (Int32 × MD)) (a5 : Int32) (a6 : Int32) (a7 : Int32) (a8 : Int32) (t0 : Int32) (d_ : MD) : Option (Int32 × MD) :=
  (rdL (m_numbers d_) 160 (a6 + t0)).bind fun x55 =>
  (ck (a7 + t0) 160).bind fun _ =>
  lt (m_set_numbers d_ (vp_updL (m_numbers d_) ((a7 + t0)).toNatClampNeg x55)) fun d57 =>
  lt (a8 + 1) fun x58 =>
  K137 a5 a6 a7 x58 d57
def f_X5_copy_L137 (N : Nat)   : Nat → Int32 → Int32 → Int32 → Int32 → MD → Option (Int32 × MD)
  | 0, _, _, _, _, _ => none
  | n137 + 1, a5, a6, a7, a8, d_ =>
  if a5 ≤ a8 then
    some (a5, d_)
  else
    if a7 ≤ a6 then
      f_X5_copy_J163 N  (f_X5_copy_L137 N   n137) a5 a6 a7 a8 a8 d_
    else
      f_X5_copy_J163 N  (f_X5_copy_L137 N   n137) a5 a6 a7 a8 ((a5 - (1 : Int32)) - a8) d_
def f_X5_copy (N : Nat)  (p1 : Int32) (p2 : Int32) (p3 : Int32) (p4 : Int32) (p5 : Int32) (d : MD) : Option (Int32 × MD) :=
  (f_X5_isSheet N p1).bind fun x1 =>
  if x1 = 0 then
    bd2 (f_X5_finds N (-1000000001 : Int32) d) fun x4 d5 =>
    some (x4, d5)
  else
    (f_X5_isSheet N p3).bind fun x7 =>
    if x7 = 0 then
      bd2 (f_X5_finds N (-1000000001 : Int32) d) fun x50 d51 =>
      some (x50, d51)
    else
      (rd (m_bitsOf d) 4 p1).bind fun x10 =>
      if x10 < 0 then
        bd2 (f_X5_finds N (-1000000006 : Int32) d) fun x12 d13 =>
        some (x12, d13)
      else
        (rd (m_bitsOf d) 4 p3).bind fun x15 =>
        if 0 ≤ x15 then
          (rd (m_bitsOf d) 4 p1).bind fun x17 =>
          (rd (m_bitsOf d) 4 p3).bind fun x18 =>
          if x17 = x18 then
            if p2 < 0 then
              bd2 (f_X5_finds N (-1000000001 : Int32) d) fun x21 d22 =>
              some (x21, d22)
            else
              if p4 < 0 then
                bd2 (f_X5_finds N (-1000000001 : Int32) d) fun x25 d26 =>
                some (x25, d26)
              else
                if p5 < 0 then
                  bd2 (f_X5_finds N (-1000000001 : Int32) d) fun x29 d30 =>
                  some (x29, d30)
                else
                  (rd (m_sizes d) 4 p1).bind fun x32 =>
                  if (x32 - p2) < p5 then
                    bd2 (f_X5_finds N (-1000000001 : Int32) d) fun x34 d35 =>
                    some (x34, d35)
                  else
                    (rd (m_sizes d) 4 p3).bind fun x37 =>
                    if p5 ≤ (x37 - p4) then
                      lt (((40 : Int32) * p1) + p2) fun x39 =>
                      lt (((40 : Int32) * p3) + p4) fun x40 =>
                      f_X5_copy_L137 N   N p5 x39 x40 (0 : Int32) d
                    else
                      bd2 (f_X5_finds N (-1000000001 : Int32) d) fun x41 d42 =>
                      some (x41, d42)
          else
            bd2 (f_X5_finds N (-1000000003 : Int32) d) fun x44 d45 =>
            some (x44, d45)
        else
          bd2 (f_X5_finds N (-1000000006 : Int32) d) fun x47 d48 =>
          some (x47, d48)
def f_X5_wants (N : Nat)  (p1 : Int32) (d : MD) : Option (Int32) :=
  (f_X5_isSheet N p1).bind fun x1 =>
  if x1 = 0 then
    some (-1000000001 : Int32)
  else
    (rd (m_bitsOf d) 4 p1).bind fun x4 =>
    if 0 ≤ x4 then
      some (0 : Int32)
    else
      some (-1000000006 : Int32)
def f_X5_lays_L47 (N : Nat)   : Nat → Int32 → Int32 → Int32 → Int32 → MD → Option (Int32 × MD)
  | 0, _, _, _, _, _ => none
  | n47 + 1, a1, a2, a4, a5, d_ =>
  (rd (m_sizes d_) 4 a1).bind fun x13 =>
  if x13 ≤ a5 then
    some (a4, d_)
  else
    if (9 : Int32) ≤ a5 then
      some (a4, d_)
    else
      (rdL (m_numbers d_) 160 (((40 : Int32) * a1) + a5)).bind fun x16 =>
      (f_X5_isIn N x16 (0 : Int64) (3 : Int64)).bind fun x17 =>
      if x17 = 0 then
        lt (a5 + 1) fun x20 =>
        f_X5_lays_L47 N   n47 a1 a2 a4 x20 d_
      else
        (f_X5_puts N a2 ((6 : Int32) + a5) ((x16).toInt32) d_).bind fun d21 =>
        lt (a4 + 1) fun x23 =>
        lt (a5 + 1) fun x24 =>
        f_X5_lays_L47 N   n47 a1 a2 x23 x24 d21
def f_X5_lays_J30 (N : Nat)   (a1 : Int32) (a2 : Int32) (t0 : Int32) (d_ : MD) : Option (Int32 × MD) :=
  if t0 = 0 then
    f_X5_lays_L47 N   N a1 a2 (0 : Int32) (0 : Int32) d_
  else
    bd2 (f_X5_finds N t0 d_) fun x10 d11 =>
    some (x10, d11)
def f_X5_lays (N : Nat)  (p1 : Int32) (p2 : Int32) (d : MD) : Option (Int32 × MD) :=
  (f_X5_wants N p1 d).bind fun x1 =>
  if x1 = 0 then
    (f_X5_isOne N p2 d).bind fun x4 =>
    if x4 = 0 then
      f_X5_lays_J30 N   p1 p2 (-1000000001 : Int32) d
    else
      f_X5_lays_J30 N   p1 p2 (0 : Int32) d
  else
    (f_X5_wants N p1 d).bind fun x7 =>
    f_X5_lays_J30 N   p1 p2 x7 d
def f_X5_book_L49 (N : Nat)   : Nat → Int32 → Int32 → Int32 → MD → Option (Int32 × MD)
  | 0, _, _, _, _ => none
  | n49 + 1, a1, a5, a6, d_ =>
  (rd (m_sizes d_) 4 a1).bind fun x17 =>
  if x17 ≤ a6 then
    (f_X5_laysBack N d_).bind fun d19 =>
    some (a5, d19)
  else
    (rd (m_s d_) 201 (0 : Int32)).bind fun x21 =>
    if x21 ≤ a6 then
      (f_X5_laysBack N d_).bind fun d23 =>
      some (a5, d23)
    else
      (rd (m_bitsOf d_) 4 a1).bind fun x25 =>
      (f_X5_heirFor N a6 d_).bind fun x26 =>
      (f_X5_narrow N x25 ((x26).toInt64)).bind fun x28 =>
      (ck (((40 : Int32) * a1) + a6) 160).bind fun _ =>
      lt (m_set_numbers d_ (vp_updL (m_numbers d_) ((((40 : Int32) * a1) + a6)).toNatClampNeg x28)) fun d31 =>
      lt (a5 + 1) fun x32 =>
      lt (a6 + 1) fun x33 =>
      f_X5_book_L49 N   n49 a1 x32 x33 d31
def f_X5_book_J21 (N : Nat)   (a1 : Int32) (a2 : Int32) (t0 : Int32) (d_ : MD) : Option (Int32 × MD) :=
  if t0 = 0 then
    (f_X5_laysBy N d_).bind fun d9 =>
    bd2 (f_X5_goesOnMany N a2 d9) fun x11 d12 =>
    f_X5_book_L49 N   N a1 (0 : Int32) (0 : Int32) d12
  else
    bd2 (f_X5_finds N t0 d_) fun x14 d15 =>
    some (x14, d15)
def f_X5_book (N : Nat)  (p1 : Int32) (p2 : Int32) (d : MD) : Option (Int32 × MD) :=
  (f_X5_wants N p1 d).bind fun x1 =>
  if x1 = 0 then
    (f_X5_barsOn N p2 d).bind fun x4 =>
    f_X5_book_J21 N   p1 p2 x4 d
  else
    (f_X5_wants N p1 d).bind fun x6 =>
    f_X5_book_J21 N   p1 p2 x6 d
def f_X5_likeStranger_J76 (N : Nat) (d : MD) (K5 : Int32 → Int32 → Int32 → Int32 → Option (Int32)) (a1 : Int32) (a2 : Int32) (a3 : Int32) (a4 : Int32) (a5 : Int64) (t0 : Int32) : Option (Int32) :=
  (f_X5_isIn N a5 (0 : Int64) (3 : Int64)).bind fun x12 =>
  if x12 = 0 then
    lt (a3 + (0 : Int32)) fun x15 =>
    lt (a4 + 1) fun x16 =>
    K5 a1 a2 x15 x16
  else
    if t0 = 0 then
      lt (a3 + (0 : Int32)) fun x18 =>
      lt (a4 + 1) fun x19 =>
      K5 a1 a2 x18 x19
    else
      (rd (m_s d) 201 ((3 : Int32) + a4)).bind fun x20 =>
      lt (a3 + x20) fun x21 =>
      lt (a4 + 1) fun x22 =>
      K5 a1 a2 x21 x22
def f_X5_likeStranger_J75 (N : Nat) (d : MD) (K5 : Int32 → Int32 → Int32 → Int32 → Option (Int32)) (a1 : Int32) (a2 : Int32) (a3 : Int32) (a4 : Int32) (a5 : Int64) : Option (Int32) :=
  f_X5_likeStranger_J76 N d K5 a1 a2 a3 a4 a5 (0 : Int32)
def f_X5_likeStranger_J71 (N : Nat) (d : MD) (K5 : Int32 → Int32 → Int32 → Int32 → Option (Int32)) (a1 : Int32) (a2 : Int32) (a3 : Int32) (a4 : Int32) (a5 : Int64) : Option (Int32) :=
  f_X5_likeStranger_J76 N d K5 a1 a2 a3 a4 a5 (1 : Int32)
def f_X5_likeStranger_L5 (N : Nat) (d : MD)  : Nat → Int32 → Int32 → Int32 → Int32 → Option (Int32)
  | 0, _, _, _, _ => none
  | n5 + 1, a1, a2, a3, a4 =>
  if (9 : Int32) ≤ a4 then
    some a3
  else
    (rd (m_sizes d) 4 a1).bind fun x2 =>
    if x2 ≤ a4 then
      some a3
    else
      (rdL (m_numbers d) 160 (((40 : Int32) * a1) + a4)).bind fun x4 =>
      (f_X5_is N a2 ((6 : Int32) + a4) d).bind fun x5 =>
      if (lg_cmp x4 ((x5).toInt64)) = 0 then
        f_X5_likeStranger_J71 N d (f_X5_likeStranger_L5 N d  n5) a1 a2 a3 a4 x4
      else
        if a4 = (8 : Int32) then
          (f_X5_is N a2 (0 : Int32) d).bind fun x9 =>
          if x9 = (4 : Int32) then
            f_X5_likeStranger_J71 N d (f_X5_likeStranger_L5 N d  n5) a1 a2 a3 a4 x4
          else
            f_X5_likeStranger_J75 N d (f_X5_likeStranger_L5 N d  n5) a1 a2 a3 a4 x4
        else
          f_X5_likeStranger_J75 N d (f_X5_likeStranger_L5 N d  n5) a1 a2 a3 a4 x4
def f_X5_likeStranger (N : Nat)  (p1 : Int32) (p2 : Int32) (d : MD) : Option (Int32) :=
  f_X5_likeStranger_L5 N d  N p1 p2 (0 : Int32) (0 : Int32)
def f_X5_read_J61 (N : Nat)  (K22 : Int32 → Int32 → Int32 → MD → Option (Int32 × MD)) (a1 : Int32) (a2 : Int32) (a3 : Int32) (t0 : Int32) (d_ : MD) : Option (Int32 × MD) :=
  if 0 < t0 then
    lt (a3 + 1) fun x25 =>
    K22 a1 a3 x25 d_
  else
    if t0 = 0 then
      (f_X5_is N a3 (1 : Int32) d_).bind fun x28 =>
      (f_X5_is N a2 (1 : Int32) d_).bind fun x30 =>
      if x28 ≤ x30 then
        lt (a3 + 1) fun x33 =>
        K22 a1 a2 x33 d_
      else
        lt (a3 + 1) fun x34 =>
        K22 a1 a3 x34 d_
    else
      lt (a3 + 1) fun x27 =>
      K22 a1 a2 x27 d_
def f_X5_read_L22 (N : Nat)   : Nat → Int32 → Int32 → Int32 → MD → Option (Int32 × MD)
  | 0, _, _, _, _ => none
  | n22 + 1, a1, a2, a3, d_ =>
  (rd (m_s d_) 201 (0 : Int32)).bind fun x9 =>
  if x9 ≤ a3 then
    if 0 ≤ a2 then
      some (a2, d_)
    else
      bd2 (f_X5_finds N (-1000000004 : Int32) d_) fun x12 d13 =>
      some (x12, d13)
  else
    (f_X5_lives N a3 d_).bind fun x15 =>
    if x15 = 0 then
      lt (a3 + 1) fun x18 =>
      f_X5_read_L22 N   n22 a1 a2 x18 d_
    else
      if 0 ≤ a2 then
        (f_X5_likeStranger N a1 a3 d_).bind fun x20 =>
        (f_X5_likeStranger N a1 a2 d_).bind fun x22 =>
        f_X5_read_J61 N  (f_X5_read_L22 N   n22) a1 a2 a3 (x20 - x22) d_
      else
        f_X5_read_J61 N  (f_X5_read_L22 N   n22) a1 a2 a3 (1 : Int32) d_
def f_X5_read (N : Nat)  (p1 : Int32) (d : MD) : Option (Int32 × MD) :=
  (f_X5_wants N p1 d).bind fun x1 =>
  if x1 = 0 then
    f_X5_read_L22 N   N p1 (-1 : Int32) (0 : Int32) d
  else
    (f_X5_wants N p1 d).bind fun x4 =>
    bd2 (f_X5_finds N x4 d) fun x6 d7 =>
    some (x6, d7)
def f_X5_image (N : Nat)   (d : MD) : Option (Int32 × MD) :=
  (f_X5_copyRow N (m_s d) (m_kept d)).bind fun f1 =>
  lt (m_set_kept d f1) fun d3 =>
  lt (m_set_isKept d3 (1 : Int32)) fun d4 =>
  some ((1 : Int32), d4)
def f_X5_undo (N : Nat)   (d : MD) : Option (Int32 × MD) :=
  if (m_isKept d) = 0 then
    bd2 (f_X5_finds N (-1000000004 : Int32) d) fun x6 d7 =>
    some (x6, d7)
  else
    (f_X5_copyRow N (m_kept d) (m_s d)).bind fun f2 =>
    lt (m_set_s d f2) fun d4 =>
    (rd (m_s d4) 201 (0 : Int32)).bind fun x5 =>
    some (x5, d4)
def f_X5_tear (N : Nat)   (d : MD) : Option (Int32 × MD) :=
  lt (m_isKept d) fun x1 =>
  lt (m_set_isKept d (0 : Int32)) fun d2 =>
  if x1 = 0 then
    some ((0 : Int32), d2)
  else
    some ((1 : Int32), d2)
def f_X5_count_L46 (N : Nat)   : Nat → Int32 → Int32 → MD → Option (Int32 × MD)
  | 0, _, _, _ => none
  | n46 + 1, a2, a3, d_ =>
  if (9 : Int32) ≤ a3 then
    some (a2, d_)
  else
    (rd (m_s d_) 201 ((3 : Int32) + a3)).bind fun x12 =>
    lt (a2 + x12) fun x13 =>
    lt (a3 + 1) fun x14 =>
    f_X5_count_L46 N   n46 x13 x14 d_
def f_X5_count (N : Nat)  (p1 : Int32) (d : MD) : Option (Int32 × MD) :=
  if p1 = 0 then
    (rd (m_s d) 201 (0 : Int32)).bind fun x2 =>
    some (x2, d)
  else
    if p1 = 1 then
      some ((m_taped d), d)
    else
      if p1 = 2 then
        f_X5_count_L46 N   N (0 : Int32) (0 : Int32) d
      else
        if p1 = 3 then
          (f_X5_allOf N (1 : Int32) d).bind fun x6 =>
          some (x6, d)
        else
          bd2 (f_X5_finds N (-1000000001 : Int32) d) fun x8 d9 =>
          some (x8, d9)
def f_X5_status (N : Nat)  (p1 : Int32) (d : MD) : Option (Int32 × MD) :=
  (f_X5_isIn N ((p1).toInt64) (-1 : Int64) (6 : Int64)).bind fun x1 =>
  if x1 = 0 then
    bd2 (f_X5_finds N (-1000000001 : Int32) d) fun x4 d5 =>
    some (x4, d5)
  else
    (rd (m_findings d) 8 (p1 + (1 : Int32))).bind fun x7 =>
    some (x7, d)
theorem ct_M__1_4__A_A_1 (g : gE) (q : Nat → Nat) (d : MD) (u0 : (Nat → Int32)) : Ct ((MC g q d)) ((ACI g (q 1) 201 (m_s d)) ++ (ACI g (q 4) 201 (m_before d))) ((MC g q (m_set_before d u0))) ((ACI g (q 1) 201 (m_s d)) ++ (ACI g (q 4) 201 u0)) := ⟨[1, 4], [0, 2, 3, 5, 6, 7, 8, 9], rfl, rfl, rfl, by decide, fun k hk => ct_cov (n := 10) (by decide) k hk, by decide⟩
theorem ct_M__4_1__A_A_1 (g : gE) (q : Nat → Nat) (d : MD) (u0 : (Nat → Int32)) : Ct ((MC g q d)) ((ACI g (q 4) 201 (m_before d)) ++ (ACI g (q 1) 201 (m_s d))) ((MC g q (m_set_s d u0))) ((ACI g (q 4) 201 (m_before d)) ++ (ACI g (q 1) 201 u0)) := ⟨[4, 1], [0, 2, 3, 5, 6, 7, 8, 9], rfl, rfl, rfl, by decide, fun k hk => ct_cov (n := 10) (by decide) k hk, by decide⟩
theorem ct_M__1_2__A_A_1 (g : gE) (q : Nat → Nat) (d : MD) (u0 : (Nat → Int32)) : Ct ((MC g q d)) ((ACI g (q 1) 201 (m_s d)) ++ (ACI g (q 2) 201 (m_kept d))) ((MC g q (m_set_kept d u0))) ((ACI g (q 1) 201 (m_s d)) ++ (ACI g (q 2) 201 u0)) := ⟨[1, 2], [0, 3, 4, 5, 6, 7, 8, 9], rfl, rfl, rfl, by decide, fun k hk => ct_cov (n := 10) (by decide) k hk, by decide⟩
theorem ct_M__2_1__A_A_1 (g : gE) (q : Nat → Nat) (d : MD) (u0 : (Nat → Int32)) : Ct ((MC g q d)) ((ACI g (q 2) 201 (m_kept d)) ++ (ACI g (q 1) 201 (m_s d))) ((MC g q (m_set_s d u0))) ((ACI g (q 2) 201 (m_kept d)) ++ (ACI g (q 1) 201 u0)) := ⟨[2, 1], [0, 3, 4, 5, 6, 7, 8, 9], rfl, rfl, rfl, by decide, fun k hk => ct_cov (n := 10) (by decide) k hk, by decide⟩
set_option maxHeartbeats 4000000 in
set_option maxRecDepth 100000 in
theorem c_X5_comesTo (l : Launch) (g : gE) (q : Nat → Nat) (N : Nat) (p1 : Int32) (p2 : Int32) (p3 : Int32) (d : MD) (r : Int32) (d' : MD) (h : f_X5_comesTo N  p1 p2 p3 d = some (r, d')) : MO l yX5_comesTo (Cond.code yX5_comesTo cX5_comesTo 4 (some .boolean) :: TB) rm_X5_comesTo [.ref (q 0), .int p1, .int p2, .int p3] g ((MC g q d)) ((MC g q d')) (some (.int r)) 0 0 := by
  refine MO.of (cc := cX5_comesTo) (maxL := 4) (ret := (some .boolean)) (by decide) ?_
  intro p e s m below meth c cx hw hr hlocks _
  have hx := cx.1.1
  have hb := cx.1.2.1
  refine en_go (lv := [(0, .ref (q 0)), (1, .int p1), (2, .int p2), (3, .int p3)]) (Nat.le_of_ble_eq_true rfl) rfl (fun ls hl => ?_)
  unfold f_X5_comesTo at h
  refine lv_aload_n hx hb dX5_comesTo_0 rfl (lv_at hl 0 rfl) ?_
  refine gf_X5_216 cx hw 0 rfl rfl dX5_comesTo_1 ?_
  refine lv_iconst (v := 2) hx hb dX5_comesTo_4 (by decide) ?_
  refine lv_icmp_ne (tgt := 23) hx hb dX5_comesTo_5 (by decide) (fun c1 => ?_) (fun c1 => ?_)
  · replace h := ite_f c1 h
    refine lv_aload_n hx hb dX5_comesTo_23 rfl (lv_at hl 0 rfl) ?_
    obtain ⟨x2, d3, g4, h⟩ := bd2_ex h
    refine c_V (As := []) (rest := []) (w' := (MC g q d3)) cx hw (c_X5_fails l g q N  d x2 d3 g4) (cl_X5_234 cx.1.2.2.2.2 ⟨Nat.le_of_ble_eq_true rfl, Nat.le_of_ble_eq_true rfl⟩) (x_recv cx hw (ci := 5) rfl 0 rfl) (Ct.all (MC_ll ..)) hl.1 rfl rfl (Nat.le_of_ble_eq_true rfl) dX5_comesTo_24 ⟨Nat.le_of_ble_eq_true rfl, Nat.le_of_ble_eq_true rfl⟩ (st1 := [.int x2]) rfl (fun H locs hw => ?_)
    have i5 := ckz_in h
    replace h := ckz_nx h
    exact r_z cx hr hlocks i5 hw (pr1 h) (congrArg (fun z0 => (MC g q z0)) (pr2 h)) dX5_comesTo_27
  · replace h := ite_t c1 h
    refine lv_aload_n hx hb dX5_comesTo_8 rfl (lv_at hl 0 rfl) ?_
    refine gf_X5_219 cx hw 0 rfl rfl dX5_comesTo_9 ?_
    refine lv_i2l hx hb dX5_comesTo_12 rfl ?_
    refine lv_iload_n hx hb dX5_comesTo_13 rfl (lv_at hl 2 rfl) ?_
    refine lv_i2l hx hb dX5_comesTo_14 rfl ?_
    refine lv_iload_n hx hb dX5_comesTo_15 rfl (lv_at hl 3 rfl) ?_
    refine lv_i2l hx hb dX5_comesTo_16 rfl ?_
    obtain ⟨x6, g7, h⟩ := bd_ex h
    refine c_S (As := [.long (((m_value d)).toInt64), .long ((p2).toInt64), .long ((p3).toInt64)]) (rest := []) (w' := (MC g q d)) cx hw (c_X5_isIn l g  N (((m_value d)).toInt64) ((p2).toInt64) ((p3).toInt64)  x6 g7) (cl_X5_54 cx.1.2.2.2.2 ⟨Nat.le_of_ble_eq_true rfl, Nat.le_of_ble_eq_true rfl⟩) Ct.nil hl.1 rfl rfl (Nat.le_of_ble_eq_true rfl) dX5_comesTo_17 ⟨Nat.le_of_ble_eq_true rfl, Nat.le_of_ble_eq_true rfl⟩ (st1 := [.int x6]) rfl (fun H locs hw => ?_)
    refine lv_if_ne (tgt := 28) hx hb dX5_comesTo_20 (by decide) (fun c8 => ?_) (fun c8 => ?_)
    · replace h := ite_f c8 h
      refine lv_aload_n hx hb dX5_comesTo_28 rfl (lv_at hl 0 rfl) ?_
      refine gf_X5_7 cx hw 0 rfl rfl dX5_comesTo_29 ?_
      refine lv_iload_n hx hb dX5_comesTo_32 rfl (lv_at hl 1 rfl) ?_
      refine lv_aload_n hx hb dX5_comesTo_33 rfl (lv_at hl 0 rfl) ?_
      refine gf_X5_219 cx hw 0 rfl rfl dX5_comesTo_34 ?_
      have i9 := ck_in h
      replace h := ck_nx h
      refine x_iast cx hw 1 rfl i9 dX5_comesTo_37 (fun H locs hw => ?_)
      obtain ⟨d10, ed10, h⟩ := lt_ex h
      have hw : Wd g (va_A ((MC g q d)) s.heap.size) ((MC g q d10)) s H locs := by rw [ed10]; exact hw
      refine lv_aload_n hx hb dX5_comesTo_38 rfl (lv_at hl 0 rfl) ?_
      obtain ⟨d11, g12, h⟩ := bd_ex h
      refine c_V (As := []) (rest := []) (w' := (MC g q d11)) cx hw (c_X5_nextToken l g q N  d10 d11 g12) (cl_X5_238 cx.1.2.2.2.2 ⟨Nat.le_of_ble_eq_true rfl, Nat.le_of_ble_eq_true rfl⟩) (x_recv cx hw (ci := 5) rfl 0 rfl) (Ct.all (MC_ll ..)) hl.1 rfl rfl (Nat.le_of_ble_eq_true rfl) dX5_comesTo_39 ⟨Nat.le_of_ble_eq_true rfl, Nat.le_of_ble_eq_true rfl⟩ (st1 := []) rfl (fun H locs hw => ?_)
      refine lv_iconst (v := 1) hx hb dX5_comesTo_42 (by decide) ?_
      exact r_z cx hr hlocks rfl hw (pr1 h) (congrArg (fun z0 => (MC g q z0)) (pr2 h)) dX5_comesTo_43
    · replace h := ite_t c8 h
      refine lv_aload_n hx hb dX5_comesTo_23 rfl (lv_at hl 0 rfl) ?_
      obtain ⟨x13, d14, g15, h⟩ := bd2_ex h
      refine c_V (As := []) (rest := []) (w' := (MC g q d14)) cx hw (c_X5_fails l g q N  d x13 d14 g15) (cl_X5_234 cx.1.2.2.2.2 ⟨Nat.le_of_ble_eq_true rfl, Nat.le_of_ble_eq_true rfl⟩) (x_recv cx hw (ci := 5) rfl 0 rfl) (Ct.all (MC_ll ..)) hl.1 rfl rfl (Nat.le_of_ble_eq_true rfl) dX5_comesTo_24 ⟨Nat.le_of_ble_eq_true rfl, Nat.le_of_ble_eq_true rfl⟩ (st1 := [.int x13]) rfl (fun H locs hw => ?_)
      have i16 := ckz_in h
      replace h := ckz_nx h
      exact r_z cx hr hlocks i16 hw (pr1 h) (congrArg (fun z0 => (MC g q z0)) (pr2 h)) dX5_comesTo_27
set_option maxHeartbeats 4000000 in
set_option maxRecDepth 100000 in
theorem c_X5_waysCome (l : Launch) (g : gE) (q : Nat → Nat) (N : Nat) (p1 : Int32) (d : MD) (r : Int32) (d' : MD) (h : f_X5_waysCome N  p1 d = some (r, d')) : MO l yX5_waysCome (Cond.code yX5_waysCome cX5_waysCome 4 (some .boolean) :: TB) rm_X5_waysCome [.ref (q 0), .int p1] g ((MC g q d)) ((MC g q d')) (some (.int r)) 0 0 := by
  refine MO.of (cc := cX5_waysCome) (maxL := 4) (ret := (some .boolean)) (by decide) ?_
  intro p e s m below meth c cx hw hr hlocks _
  have hx := cx.1.1
  have hb := cx.1.2.1
  refine en_go (lv := [(0, .ref (q 0)), (1, .int p1)]) (Nat.le_of_ble_eq_true rfl) rfl (fun ls hl => ?_)
  have L29 : ∀ (n29 : Nat) (a1 : Int32) (a2 : Int32) (d_ : MD) (H : Heap) (locs : List Loc) (ls : Array Slot), Wd g (va_A ((MC g q d)) s.heap.size) ((MC g q d_)) s H locs → lv_has ls 4 [(0, .ref (q 0)), (1, .int a1), (2, .int a2)] → f_X5_waysCome_L29 N   n29 a1 a2 d_ = some (r, d') → W p l e rm_X5_waysCome s m ([.ref (q 0), .int p1] : List Value).toArray below meth c H locs 0 0 (MQ below (QO (some (.int r)) g ((MC g q d')) (va_A ((MC g q d)) s.heap.size)) ([.ref (q 0), .int p1] : List Value).toArray s 0 0 (va_A ((MC g q d)) s.heap.size)) (F0 m 29 ls []) := by
    intro n29
    induction n29 with
    | zero => intro a1 a2 d_ H locs ls hw hl h; exact (Option.some_ne_none _ h.symm).elim
    | succ n29 ih29 =>
      intro a1 a2 d_ H locs ls hw hl h
      rw [f_X5_waysCome_L29] at h
      refine lv_iload_n hx hb dX5_waysCome_29 rfl (lv_at hl 2 rfl) ?_
      refine lv_aload_n hx hb dX5_waysCome_30 rfl (lv_at hl 0 rfl) ?_
      refine gf_X5_204 cx hw 0 rfl rfl dX5_waysCome_31 ?_
      refine lv_icmp_lt (tgt := 92) hx hb dX5_waysCome_34 (by decide) (fun c28 => ?_) (fun c28 => ?_)
      · replace h := ite_t c28 h
        refine lv_aload_n hx hb dX5_waysCome_92 rfl (lv_at hl 0 rfl) ?_
        obtain ⟨d29, g30, h⟩ := bd_ex h
        refine c_V (As := []) (rest := []) (w' := (MC g q d29)) cx hw (c_X5_nextToken l g q N  d_ d29 g30) (cl_X5_238 cx.1.2.2.2.2 ⟨Nat.le_of_ble_eq_true rfl, Nat.le_of_ble_eq_true rfl⟩) (x_recv cx hw (ci := 5) rfl 0 rfl) (Ct.all (MC_ll ..)) hl.1 rfl rfl (Nat.le_of_ble_eq_true rfl) dX5_waysCome_93 ⟨Nat.le_of_ble_eq_true rfl, Nat.le_of_ble_eq_true rfl⟩ (st1 := []) rfl (fun H locs hw => ?_)
        refine lv_iconst (v := 1) hx hb dX5_waysCome_96 (by decide) ?_
        exact r_z cx hr hlocks rfl hw (pr1 h) (congrArg (fun z0 => (MC g q z0)) (pr2 h)) dX5_waysCome_97
      · replace h := ite_f c28 h
        refine lv_aload_n hx hb dX5_waysCome_37 rfl (lv_at hl 0 rfl) ?_
        refine lv_iload_n hx hb dX5_waysCome_38 rfl (lv_at hl 2 rfl) ?_
        obtain ⟨x31, g32, h⟩ := bd_ex h
        refine c_V (As := [.int a2]) (rest := []) (w' := (MC g q d_)) cx hw (c_X5_byteAt l g q N a2 d_ x31 g32) (cl_X5_207 cx.1.2.2.2.2 ⟨Nat.le_of_ble_eq_true rfl, Nat.le_of_ble_eq_true rfl⟩) (x_recv cx hw (ci := 5) rfl 0 rfl) (Ct.all (MC_ll ..)) hl.1 rfl rfl (Nat.le_of_ble_eq_true rfl) dX5_waysCome_39 ⟨Nat.le_of_ble_eq_true rfl, Nat.le_of_ble_eq_true rfl⟩ (st1 := [.int x31]) rfl (fun H locs hw => ?_)
        refine lv_bipush (v := 48) hx hb dX5_waysCome_42 (by decide) ?_
        refine lv_isub hx hb dX5_waysCome_44 ?_
        refine lv_topi (fun x33 ex33 => ?_)
        replace h := lt_nx ex33 h
        refine lv_istore_n (lv' := [(3, .int x33), (0, .ref (q 0)), (1, .int a1), (2, .int a2)]) hx hb dX5_waysCome_45 rfl hl (by decide) rfl (fun ls hl => ?_)
        refine lv_iload_n hx hb dX5_waysCome_46 rfl (lv_at hl 0 rfl) ?_
        refine lv_iconst (v := 3) hx hb dX5_waysCome_47 (by decide) ?_
        refine lv_icmp_le (tgt := 56) hx hb dX5_waysCome_48 (by decide) (fun c34 => ?_) (fun c34 => ?_)
        · replace h := ite_t c34 h
          refine lv_aload_n hx hb dX5_waysCome_56 rfl (lv_at hl 1 rfl) ?_
          refine gf_X5_201 cx hw 0 rfl rfl dX5_waysCome_57 ?_
          refine lv_iconst (v := 1) hx hb dX5_waysCome_60 (by decide) ?_
          refine lv_isub hx hb dX5_waysCome_61 ?_
          refine lv_iload_n hx hb dX5_waysCome_62 rfl (lv_at hl 3 rfl) ?_
          refine lv_isub hx hb dX5_waysCome_63 ?_
          refine lv_bipush (v := 9) hx hb dX5_waysCome_64 (by decide) ?_
          refine lv_icmp_ge (tgt := 86) hx hb dX5_waysCome_66 (by decide) (fun c35 => ?_) (fun c35 => ?_)
          · replace h := ite_t c35 h
            obtain ⟨x36, ex36⟩ : ∃ y : Int32, y = (a2 + (-1)) := ⟨_, rfl⟩
            replace h := lt_nx ex36 h
            refine lv_iinc (v := x36) (lv' := [(2, .int x36), (3, .int x33), (0, .ref (q 0)), (1, .int a1)]) hx hb dX5_waysCome_86 hl (k := 3) rfl (by rw [ex36]; rfl) (by decide) rfl (fun ls hl => ?_)
            refine lv_goto (tgt := 29) hx hb dX5_waysCome_89 (by decide) ?_
            exact ih29 a1 x36 d_ _ _ _ hw (lv_sub hl [2, 3, 0] rfl) h
          · replace h := ite_f c35 h
            refine lv_aload_n hx hb dX5_waysCome_69 rfl (lv_at hl 1 rfl) ?_
            refine lv_iload_n hx hb dX5_waysCome_70 rfl (lv_at hl 2 rfl) ?_
            refine lv_bipush (v := 6) hx hb dX5_waysCome_71 (by decide) ?_
            refine lv_aload_n hx hb dX5_waysCome_73 rfl (lv_at hl 1 rfl) ?_
            refine gf_X5_201 cx hw 0 rfl rfl dX5_waysCome_74 ?_
            refine lv_iadd hx hb dX5_waysCome_77 ?_
            refine lv_iconst (v := 1) hx hb dX5_waysCome_78 (by decide) ?_
            refine lv_isub hx hb dX5_waysCome_79 ?_
            refine lv_iload_n hx hb dX5_waysCome_80 rfl (lv_at hl 3 rfl) ?_
            refine lv_isub hx hb dX5_waysCome_81 ?_
            refine lv_iload_n hx hb dX5_waysCome_82 rfl (lv_at hl 0 rfl) ?_
            obtain ⟨d37, g38, h⟩ := bd_ex h
            refine c_V (As := [.int a1, .int ((((6 : Int32) + (m_to d_)) - (1 : Int32)) - a2), .int x33]) (rest := []) (w' := (MC g q d37)) cx hw (c_X5_puts l g q N a1 ((((6 : Int32) + (m_to d_)) - (1 : Int32)) - a2) x33 d_ d37 g38) (cl_X5_71 cx.1.2.2.2.2 ⟨Nat.le_of_ble_eq_true rfl, Nat.le_of_ble_eq_true rfl⟩) (x_recv cx hw (ci := 5) rfl 0 rfl) (Ct.all (MC_ll ..)) hl.1 rfl rfl (Nat.le_of_ble_eq_true rfl) dX5_waysCome_83 ⟨Nat.le_of_ble_eq_true rfl, Nat.le_of_ble_eq_true rfl⟩ (st1 := []) rfl (fun H locs hw => ?_)
            obtain ⟨x39, ex39⟩ : ∃ y : Int32, y = (a2 + (-1)) := ⟨_, rfl⟩
            replace h := lt_nx ex39 h
            refine lv_iinc (v := x39) (lv' := [(2, .int x39), (3, .int x33), (0, .ref (q 0)), (1, .int a1)]) hx hb dX5_waysCome_86 hl (k := 3) rfl (by rw [ex39]; rfl) (by decide) rfl (fun ls hl => ?_)
            refine lv_goto (tgt := 29) hx hb dX5_waysCome_89 (by decide) ?_
            exact ih29 a1 x39 d37 _ _ _ hw (lv_sub hl [2, 3, 0] rfl) h
        · replace h := ite_f c34 h
          refine lv_aload_n hx hb dX5_waysCome_51 rfl (lv_at hl 1 rfl) ?_
          obtain ⟨x40, d41, g42, h⟩ := bd2_ex h
          refine c_V (As := []) (rest := []) (w' := (MC g q d41)) cx hw (c_X5_fails l g q N  d_ x40 d41 g42) (cl_X5_234 cx.1.2.2.2.2 ⟨Nat.le_of_ble_eq_true rfl, Nat.le_of_ble_eq_true rfl⟩) (x_recv cx hw (ci := 5) rfl 0 rfl) (Ct.all (MC_ll ..)) hl.1 rfl rfl (Nat.le_of_ble_eq_true rfl) dX5_waysCome_52 ⟨Nat.le_of_ble_eq_true rfl, Nat.le_of_ble_eq_true rfl⟩ (st1 := [.int x40]) rfl (fun H locs hw => ?_)
          have i43 := ckz_in h
          replace h := ckz_nx h
          exact r_z cx hr hlocks i43 hw (pr1 h) (congrArg (fun z0 => (MC g q z0)) (pr2 h)) dX5_waysCome_55
  unfold f_X5_waysCome at h
  refine lv_aload_n hx hb dX5_waysCome_0 rfl (lv_at hl 0 rfl) ?_
  refine gf_X5_216 cx hw 0 rfl rfl dX5_waysCome_1 ?_
  refine lv_iconst (v := 2) hx hb dX5_waysCome_4 (by decide) ?_
  refine lv_icmp_ne (tgt := 17) hx hb dX5_waysCome_5 (by decide) (fun c1 => ?_) (fun c1 => ?_)
  · replace h := ite_f c1 h
    refine lv_aload_n hx hb dX5_waysCome_17 rfl (lv_at hl 0 rfl) ?_
    obtain ⟨x2, d3, g4, h⟩ := bd2_ex h
    refine c_V (As := []) (rest := []) (w' := (MC g q d3)) cx hw (c_X5_fails l g q N  d x2 d3 g4) (cl_X5_234 cx.1.2.2.2.2 ⟨Nat.le_of_ble_eq_true rfl, Nat.le_of_ble_eq_true rfl⟩) (x_recv cx hw (ci := 5) rfl 0 rfl) (Ct.all (MC_ll ..)) hl.1 rfl rfl (Nat.le_of_ble_eq_true rfl) dX5_waysCome_18 ⟨Nat.le_of_ble_eq_true rfl, Nat.le_of_ble_eq_true rfl⟩ (st1 := [.int x2]) rfl (fun H locs hw => ?_)
    have i5 := ckz_in h
    replace h := ckz_nx h
    exact r_z cx hr hlocks i5 hw (pr1 h) (congrArg (fun z0 => (MC g q z0)) (pr2 h)) dX5_waysCome_21
  · replace h := ite_t c1 h
    refine lv_aload_n hx hb dX5_waysCome_8 rfl (lv_at hl 0 rfl) ?_
    refine gf_X5_219 cx hw 0 rfl rfl dX5_waysCome_9 ?_
    refine lv_ldc hx hb cx.1.2.2.2.1 (cx.1.2.2.2.2 _ tw_5_171) dX5_waysCome_12 ?_
    refine lv_icmp_le (tgt := 22) hx hb dX5_waysCome_14 (by decide) (fun c6 => ?_) (fun c6 => ?_)
    · replace h := ite_t c6 h
      refine lv_aload_n hx hb dX5_waysCome_22 rfl (lv_at hl 0 rfl) ?_
      refine gf_X5_201 cx hw 0 rfl rfl dX5_waysCome_23 ?_
      refine lv_iconst (v := 1) hx hb dX5_waysCome_26 (by decide) ?_
      refine lv_isub hx hb dX5_waysCome_27 ?_
      refine lv_topi (fun x7 ex7 => ?_)
      replace h := lt_nx ex7 h
      refine lv_istore_n (lv' := [(2, .int x7), (0, .ref (q 0)), (1, .int p1)]) hx hb dX5_waysCome_28 rfl hl (by decide) rfl (fun ls hl => ?_)
      exact L29 N p1 x7 d _ _ _ hw (lv_sub hl [1, 2, 0] rfl) h
    · replace h := ite_f c6 h
      refine lv_aload_n hx hb dX5_waysCome_17 rfl (lv_at hl 0 rfl) ?_
      obtain ⟨x8, d9, g10, h⟩ := bd2_ex h
      refine c_V (As := []) (rest := []) (w' := (MC g q d9)) cx hw (c_X5_fails l g q N  d x8 d9 g10) (cl_X5_234 cx.1.2.2.2.2 ⟨Nat.le_of_ble_eq_true rfl, Nat.le_of_ble_eq_true rfl⟩) (x_recv cx hw (ci := 5) rfl 0 rfl) (Ct.all (MC_ll ..)) hl.1 rfl rfl (Nat.le_of_ble_eq_true rfl) dX5_waysCome_18 ⟨Nat.le_of_ble_eq_true rfl, Nat.le_of_ble_eq_true rfl⟩ (st1 := [.int x8]) rfl (fun H locs hw => ?_)
      have i11 := ckz_in h
      replace h := ckz_nx h
      exact r_z cx hr hlocks i11 hw (pr1 h) (congrArg (fun z0 => (MC g q z0)) (pr2 h)) dX5_waysCome_21
set_option maxHeartbeats 4000000 in
set_option maxRecDepth 100000 in
theorem c_X5_isFour (l : Launch) (g : gE) (q : Nat → Nat) (N : Nat) (p1 : Int32) (p2 : Int32) (p3 : Int32) (p4 : Int32) (d : MD) (r : Int32) (h : f_X5_isFour N  p1 p2 p3 p4 d = some r) : MO l yX5_isFour (Cond.code yX5_isFour cX5_isFour 5 (some .boolean) :: TB) rm_X5_isFour [.ref (q 0), .int p1, .int p2, .int p3, .int p4] g ((MC g q d)) ((MC g q d)) (some (.int r)) 0 0 := by
  refine MO.of (cc := cX5_isFour) (maxL := 5) (ret := (some .boolean)) (by decide) ?_
  intro p e s m below meth c cx hw hr hlocks _
  have hx := cx.1.1
  have hb := cx.1.2.1
  refine en_go (lv := [(0, .ref (q 0)), (1, .int p1), (2, .int p2), (3, .int p3), (4, .int p4)]) (Nat.le_of_ble_eq_true rfl) rfl (fun ls hl => ?_)
  unfold f_X5_isFour at h
  refine lv_aload_n hx hb dX5_isFour_0 rfl (lv_at hl 0 rfl) ?_
  refine lv_iconst (v := 4) hx hb dX5_isFour_1 (by decide) ?_
  obtain ⟨x1, g2, h⟩ := bd_ex h
  refine c_V (As := [.int (4 : Int32)]) (rest := []) (w' := (MC g q d)) cx hw (c_X5_isWord l g q N (4 : Int32) d x1 g2) (cl_X5_227 cx.1.2.2.2.2 ⟨Nat.le_of_ble_eq_true rfl, Nat.le_of_ble_eq_true rfl⟩) (x_recv cx hw (ci := 5) rfl 0 rfl) (Ct.all (MC_ll ..)) hl.1 rfl rfl (Nat.le_of_ble_eq_true rfl) dX5_isFour_2 ⟨Nat.le_of_ble_eq_true rfl, Nat.le_of_ble_eq_true rfl⟩ (st1 := [.int x1]) rfl (fun H locs hw => ?_)
  refine lv_if_eq (tgt := 35) hx hb dX5_isFour_5 (by decide) (fun c3 => ?_) (fun c3 => ?_)
  · replace h := ite_t c3 h
    refine lv_iconst (v := 0) hx hb dX5_isFour_35 (by decide) ?_
    exact r_z cx hr hlocks rfl hw (sm_eq h) rfl dX5_isFour_36
  · replace h := ite_f c3 h
    refine lv_aload_n hx hb dX5_isFour_8 rfl (lv_at hl 0 rfl) ?_
    refine lv_iconst (v := 0) hx hb dX5_isFour_9 (by decide) ?_
    refine lv_iload_n hx hb dX5_isFour_10 rfl (lv_at hl 1 rfl) ?_
    refine lv_iload_n hx hb dX5_isFour_11 rfl (lv_at hl 2 rfl) ?_
    refine lv_iload_n hx hb dX5_isFour_12 rfl (lv_at hl 3 rfl) ?_
    obtain ⟨x4, g5, h⟩ := bd_ex h
    refine c_V (As := [.int (0 : Int32), .int p1, .int p2, .int p3]) (rest := []) (w' := (MC g q d)) cx hw (c_X5_has3 l g q N (0 : Int32) p1 p2 p3 d x4 g5) (cl_X5_230 cx.1.2.2.2.2 ⟨Nat.le_of_ble_eq_true rfl, Nat.le_of_ble_eq_true rfl⟩) (x_recv cx hw (ci := 5) rfl 0 rfl) (Ct.all (MC_ll ..)) hl.1 rfl rfl (Nat.le_of_ble_eq_true rfl) dX5_isFour_13 ⟨Nat.le_of_ble_eq_true rfl, Nat.le_of_ble_eq_true rfl⟩ (st1 := [.int x4]) rfl (fun H locs hw => ?_)
    refine lv_if_eq (tgt := 35) hx hb dX5_isFour_16 (by decide) (fun c6 => ?_) (fun c6 => ?_)
    · replace h := ite_t c6 h
      refine lv_iconst (v := 0) hx hb dX5_isFour_35 (by decide) ?_
      exact r_z cx hr hlocks rfl hw (sm_eq h) rfl dX5_isFour_36
    · replace h := ite_f c6 h
      refine lv_aload_n hx hb dX5_isFour_19 rfl (lv_at hl 0 rfl) ?_
      refine lv_iconst (v := 1) hx hb dX5_isFour_20 (by decide) ?_
      refine lv_iload_n hx hb dX5_isFour_21 rfl (lv_at hl 2 rfl) ?_
      refine lv_iload_n hx hb dX5_isFour_22 rfl (lv_at hl 3 rfl) ?_
      refine lv_iload hx hb dX5_isFour_23 (lv_at hl 4 rfl) ?_
      obtain ⟨x7, g8, h⟩ := bd_ex h
      refine c_V (As := [.int (1 : Int32), .int p2, .int p3, .int p4]) (rest := []) (w' := (MC g q d)) cx hw (c_X5_has3 l g q N (1 : Int32) p2 p3 p4 d x7 g8) (cl_X5_230 cx.1.2.2.2.2 ⟨Nat.le_of_ble_eq_true rfl, Nat.le_of_ble_eq_true rfl⟩) (x_recv cx hw (ci := 5) rfl 0 rfl) (Ct.all (MC_ll ..)) hl.1 rfl rfl (Nat.le_of_ble_eq_true rfl) dX5_isFour_25 ⟨Nat.le_of_ble_eq_true rfl, Nat.le_of_ble_eq_true rfl⟩ (st1 := [.int x7]) rfl (fun H locs hw => ?_)
      refine lv_if_eq (tgt := 35) hx hb dX5_isFour_28 (by decide) (fun c9 => ?_) (fun c9 => ?_)
      · replace h := ite_t c9 h
        refine lv_iconst (v := 0) hx hb dX5_isFour_35 (by decide) ?_
        exact r_z cx hr hlocks rfl hw (sm_eq h) rfl dX5_isFour_36
      · replace h := ite_f c9 h
        refine lv_iconst (v := 1) hx hb dX5_isFour_31 (by decide) ?_
        refine lv_goto (tgt := 36) hx hb dX5_isFour_32 (by decide) ?_
        exact r_z cx hr hlocks rfl hw (sm_eq h) rfl dX5_isFour_36
set_option maxHeartbeats 4000000 in
set_option maxRecDepth 100000 in
theorem c_X5_isFive (l : Launch) (g : gE) (q : Nat → Nat) (N : Nat) (p1 : Int32) (p2 : Int32) (p3 : Int32) (p4 : Int32) (p5 : Int32) (d : MD) (r : Int32) (h : f_X5_isFive N  p1 p2 p3 p4 p5 d = some r) : MO l yX5_isFive (Cond.code yX5_isFive cX5_isFive 6 (some .boolean) :: TB) rm_X5_isFive [.ref (q 0), .int p1, .int p2, .int p3, .int p4, .int p5] g ((MC g q d)) ((MC g q d)) (some (.int r)) 0 0 := by
  refine MO.of (cc := cX5_isFive) (maxL := 6) (ret := (some .boolean)) (by decide) ?_
  intro p e s m below meth c cx hw hr hlocks _
  have hx := cx.1.1
  have hb := cx.1.2.1
  refine en_go (lv := [(0, .ref (q 0)), (1, .int p1), (2, .int p2), (3, .int p3), (4, .int p4), (5, .int p5)]) (Nat.le_of_ble_eq_true rfl) rfl (fun ls hl => ?_)
  unfold f_X5_isFive at h
  refine lv_aload_n hx hb dX5_isFive_0 rfl (lv_at hl 0 rfl) ?_
  refine lv_iconst (v := 5) hx hb dX5_isFive_1 (by decide) ?_
  obtain ⟨x1, g2, h⟩ := bd_ex h
  refine c_V (As := [.int (5 : Int32)]) (rest := []) (w' := (MC g q d)) cx hw (c_X5_isWord l g q N (5 : Int32) d x1 g2) (cl_X5_227 cx.1.2.2.2.2 ⟨Nat.le_of_ble_eq_true rfl, Nat.le_of_ble_eq_true rfl⟩) (x_recv cx hw (ci := 5) rfl 0 rfl) (Ct.all (MC_ll ..)) hl.1 rfl rfl (Nat.le_of_ble_eq_true rfl) dX5_isFive_2 ⟨Nat.le_of_ble_eq_true rfl, Nat.le_of_ble_eq_true rfl⟩ (st1 := [.int x1]) rfl (fun H locs hw => ?_)
  refine lv_if_eq (tgt := 36) hx hb dX5_isFive_5 (by decide) (fun c3 => ?_) (fun c3 => ?_)
  · replace h := ite_t c3 h
    refine lv_iconst (v := 0) hx hb dX5_isFive_36 (by decide) ?_
    exact r_z cx hr hlocks rfl hw (sm_eq h) rfl dX5_isFive_37
  · replace h := ite_f c3 h
    refine lv_aload_n hx hb dX5_isFive_8 rfl (lv_at hl 0 rfl) ?_
    refine lv_iconst (v := 0) hx hb dX5_isFive_9 (by decide) ?_
    refine lv_iload_n hx hb dX5_isFive_10 rfl (lv_at hl 1 rfl) ?_
    refine lv_iload_n hx hb dX5_isFive_11 rfl (lv_at hl 2 rfl) ?_
    refine lv_iload_n hx hb dX5_isFive_12 rfl (lv_at hl 3 rfl) ?_
    obtain ⟨x4, g5, h⟩ := bd_ex h
    refine c_V (As := [.int (0 : Int32), .int p1, .int p2, .int p3]) (rest := []) (w' := (MC g q d)) cx hw (c_X5_has3 l g q N (0 : Int32) p1 p2 p3 d x4 g5) (cl_X5_230 cx.1.2.2.2.2 ⟨Nat.le_of_ble_eq_true rfl, Nat.le_of_ble_eq_true rfl⟩) (x_recv cx hw (ci := 5) rfl 0 rfl) (Ct.all (MC_ll ..)) hl.1 rfl rfl (Nat.le_of_ble_eq_true rfl) dX5_isFive_13 ⟨Nat.le_of_ble_eq_true rfl, Nat.le_of_ble_eq_true rfl⟩ (st1 := [.int x4]) rfl (fun H locs hw => ?_)
    refine lv_if_eq (tgt := 36) hx hb dX5_isFive_16 (by decide) (fun c6 => ?_) (fun c6 => ?_)
    · replace h := ite_t c6 h
      refine lv_iconst (v := 0) hx hb dX5_isFive_36 (by decide) ?_
      exact r_z cx hr hlocks rfl hw (sm_eq h) rfl dX5_isFive_37
    · replace h := ite_f c6 h
      refine lv_aload_n hx hb dX5_isFive_19 rfl (lv_at hl 0 rfl) ?_
      refine lv_iconst (v := 2) hx hb dX5_isFive_20 (by decide) ?_
      refine lv_iload_n hx hb dX5_isFive_21 rfl (lv_at hl 3 rfl) ?_
      refine lv_iload hx hb dX5_isFive_22 (lv_at hl 4 rfl) ?_
      refine lv_iload hx hb dX5_isFive_24 (lv_at hl 5 rfl) ?_
      obtain ⟨x7, g8, h⟩ := bd_ex h
      refine c_V (As := [.int (2 : Int32), .int p3, .int p4, .int p5]) (rest := []) (w' := (MC g q d)) cx hw (c_X5_has3 l g q N (2 : Int32) p3 p4 p5 d x7 g8) (cl_X5_230 cx.1.2.2.2.2 ⟨Nat.le_of_ble_eq_true rfl, Nat.le_of_ble_eq_true rfl⟩) (x_recv cx hw (ci := 5) rfl 0 rfl) (Ct.all (MC_ll ..)) hl.1 rfl rfl (Nat.le_of_ble_eq_true rfl) dX5_isFive_26 ⟨Nat.le_of_ble_eq_true rfl, Nat.le_of_ble_eq_true rfl⟩ (st1 := [.int x7]) rfl (fun H locs hw => ?_)
      refine lv_if_eq (tgt := 36) hx hb dX5_isFive_29 (by decide) (fun c9 => ?_) (fun c9 => ?_)
      · replace h := ite_t c9 h
        refine lv_iconst (v := 0) hx hb dX5_isFive_36 (by decide) ?_
        exact r_z cx hr hlocks rfl hw (sm_eq h) rfl dX5_isFive_37
      · replace h := ite_f c9 h
        refine lv_iconst (v := 1) hx hb dX5_isFive_32 (by decide) ?_
        refine lv_goto (tgt := 37) hx hb dX5_isFive_33 (by decide) ?_
        exact r_z cx hr hlocks rfl hw (sm_eq h) rfl dX5_isFive_37
set_option maxHeartbeats 4000000 in
set_option maxRecDepth 100000 in
theorem c_X5_personHere (l : Launch) (g : gE) (q : Nat → Nat) (N : Nat) (p1 : Int32) (d : MD) (r : Int32) (d' : MD) (h : f_X5_personHere N  p1 d = some (r, d')) : MO l yX5_personHere (Cond.code yX5_personHere cX5_personHere 4 (some .boolean) :: TB) rm_X5_personHere [.ref (q 0), .int p1] g ((MC g q d)) ((MC g q d')) (some (.int r)) 0 0 := by
  refine MO.of (cc := cX5_personHere) (maxL := 4) (ret := (some .boolean)) (by decide) ?_
  intro p e s m below meth c cx hw hr hlocks _
  have hx := cx.1.1
  have hb := cx.1.2.1
  refine en_go (lv := [(0, .ref (q 0)), (1, .int p1)]) (Nat.le_of_ble_eq_true rfl) rfl (fun ls hl => ?_)
  have J175 : ∀ (a2 : Int32) (a3 : Int32) (d_ : MD) (H : Heap) (locs : List Loc) (ls : Array Slot), Wd g (va_A ((MC g q d)) s.heap.size) ((MC g q d_)) s H locs → lv_has ls 4 [(0, .ref (q 0)), (2, .int a2), (3, .int a3)] → f_X5_personHere_J175 N   a2 a3 d_ = some (r, d') → W p l e rm_X5_personHere s m ([.ref (q 0), .int p1] : List Value).toArray below meth c H locs 0 0 (MQ below (QO (some (.int r)) g ((MC g q d')) (va_A ((MC g q d)) s.heap.size)) ([.ref (q 0), .int p1] : List Value).toArray s 0 0 (va_A ((MC g q d)) s.heap.size)) (F0 m 175 ls []) := by
    intro a2 a3 d_ H locs ls hw hl h
    unfold f_X5_personHere_J175 at h
    refine lv_aload_n hx hb dX5_personHere_175 rfl (lv_at hl 0 rfl) ?_
    refine lv_bipush (v := 99) hx hb dX5_personHere_176 (by decide) ?_
    refine lv_bipush (v := 104) hx hb dX5_personHere_178 (by decide) ?_
    refine lv_bipush (v := 105) hx hb dX5_personHere_180 (by decide) ?_
    refine lv_bipush (v := 108) hx hb dX5_personHere_182 (by decide) ?_
    refine lv_bipush (v := 100) hx hb dX5_personHere_184 (by decide) ?_
    obtain ⟨x61, g62, h⟩ := bd_ex h
    refine c_V (As := [.int (99 : Int32), .int (104 : Int32), .int (105 : Int32), .int (108 : Int32), .int (100 : Int32)]) (rest := []) (w' := (MC g q d_)) cx hw (c_X5_isFive l g q N (99 : Int32) (104 : Int32) (105 : Int32) (108 : Int32) (100 : Int32) d_ x61 g62) (cl_X5_251 cx.1.2.2.2.2 ⟨Nat.le_of_ble_eq_true rfl, Nat.le_of_ble_eq_true rfl⟩) (x_recv cx hw (ci := 5) rfl 0 rfl) (Ct.all (MC_ll ..)) hl.1 rfl rfl (Nat.le_of_ble_eq_true rfl) dX5_personHere_186 ⟨Nat.le_of_ble_eq_true rfl, Nat.le_of_ble_eq_true rfl⟩ (st1 := [.int x61]) rfl (fun H locs hw => ?_)
    refine lv_if_eq (tgt := 208) hx hb dX5_personHere_189 (by decide) (fun c63 => ?_) (fun c63 => ?_)
    · replace h := ite_t c63 h
      refine lv_iconst (v := 1) hx hb dX5_personHere_208 (by decide) ?_
      exact r_z cx hr hlocks rfl hw (pr1 h) (congrArg (fun z0 => (MC g q z0)) (pr2 h)) dX5_personHere_209
    · replace h := ite_f c63 h
      refine lv_aload_n hx hb dX5_personHere_192 rfl (lv_at hl 0 rfl) ?_
      obtain ⟨d64, g65, h⟩ := bd_ex h
      refine c_V (As := []) (rest := []) (w' := (MC g q d64)) cx hw (c_X5_nextToken l g q N  d_ d64 g65) (cl_X5_238 cx.1.2.2.2.2 ⟨Nat.le_of_ble_eq_true rfl, Nat.le_of_ble_eq_true rfl⟩) (x_recv cx hw (ci := 5) rfl 0 rfl) (Ct.all (MC_ll ..)) hl.1 rfl rfl (Nat.le_of_ble_eq_true rfl) dX5_personHere_193 ⟨Nat.le_of_ble_eq_true rfl, Nat.le_of_ble_eq_true rfl⟩ (st1 := []) rfl (fun H locs hw => ?_)
      refine lv_aload_n hx hb dX5_personHere_196 rfl (lv_at hl 0 rfl) ?_
      refine lv_iload_n hx hb dX5_personHere_197 rfl (lv_at hl 2 rfl) ?_
      refine lv_iconst (v := 4) hx hb dX5_personHere_198 (by decide) ?_
      refine lv_iadd hx hb dX5_personHere_199 ?_
      refine lv_iconst (v := 0) hx hb dX5_personHere_200 (by decide) ?_
      refine lv_iload_n hx hb dX5_personHere_201 rfl (lv_at hl 1 rfl) ?_
      refine lv_iconst (v := 1) hx hb dX5_personHere_202 (by decide) ?_
      refine lv_isub hx hb dX5_personHere_203 ?_
      obtain ⟨x66, d67, g68, h⟩ := bd2_ex h
      refine c_V (As := [.int (a3 + (4 : Int32)), .int (0 : Int32), .int (a2 - (1 : Int32))]) (rest := []) (w' := (MC g q d67)) cx hw (c_X5_comesTo l g q N (a3 + (4 : Int32)) (0 : Int32) (a2 - (1 : Int32)) d64 x66 d67 g68) (cl_X5_248 cx.1.2.2.2.2 ⟨Nat.le_of_ble_eq_true rfl, Nat.le_of_ble_eq_true rfl⟩) (x_recv cx hw (ci := 5) rfl 0 rfl) (Ct.all (MC_ll ..)) hl.1 rfl rfl (Nat.le_of_ble_eq_true rfl) dX5_personHere_204 ⟨Nat.le_of_ble_eq_true rfl, Nat.le_of_ble_eq_true rfl⟩ (st1 := [.int x66]) rfl (fun H locs hw => ?_)
      have i69 := ckz_in h
      replace h := ckz_nx h
      exact r_z cx hr hlocks i69 hw (pr1 h) (congrArg (fun z0 => (MC g q z0)) (pr2 h)) dX5_personHere_207
  have J141 : ∀ (a2 : Int32) (a3 : Int32) (d_ : MD) (H : Heap) (locs : List Loc) (ls : Array Slot), Wd g (va_A ((MC g q d)) s.heap.size) ((MC g q d_)) s H locs → lv_has ls 4 [(0, .ref (q 0)), (2, .int a2), (3, .int a3)] → f_X5_personHere_J141 N   a2 a3 d_ = some (r, d') → W p l e rm_X5_personHere s m ([.ref (q 0), .int p1] : List Value).toArray below meth c H locs 0 0 (MQ below (QO (some (.int r)) g ((MC g q d')) (va_A ((MC g q d)) s.heap.size)) ([.ref (q 0), .int p1] : List Value).toArray s 0 0 (va_A ((MC g q d)) s.heap.size)) (F0 m 141 ls []) := by
    intro a2 a3 d_ H locs ls hw hl h
    unfold f_X5_personHere_J141 at h
    refine lv_aload_n hx hb dX5_personHere_141 rfl (lv_at hl 0 rfl) ?_
    refine lv_bipush (v := 116) hx hb dX5_personHere_142 (by decide) ?_
    refine lv_bipush (v := 101) hx hb dX5_personHere_144 (by decide) ?_
    refine lv_bipush (v := 114) hx hb dX5_personHere_146 (by decide) ?_
    refine lv_bipush (v := 109) hx hb dX5_personHere_148 (by decide) ?_
    obtain ⟨x70, g71, h⟩ := bd_ex h
    refine c_V (As := [.int (116 : Int32), .int (101 : Int32), .int (114 : Int32), .int (109 : Int32)]) (rest := []) (w' := (MC g q d_)) cx hw (c_X5_isFour l g q N (116 : Int32) (101 : Int32) (114 : Int32) (109 : Int32) d_ x70 g71) (cl_X5_242 cx.1.2.2.2.2 ⟨Nat.le_of_ble_eq_true rfl, Nat.le_of_ble_eq_true rfl⟩) (x_recv cx hw (ci := 5) rfl 0 rfl) (Ct.all (MC_ll ..)) hl.1 rfl rfl (Nat.le_of_ble_eq_true rfl) dX5_personHere_150 ⟨Nat.le_of_ble_eq_true rfl, Nat.le_of_ble_eq_true rfl⟩ (st1 := [.int x70]) rfl (fun H locs hw => ?_)
    refine lv_if_eq (tgt := 175) hx hb dX5_personHere_153 (by decide) (fun c72 => ?_) (fun c72 => ?_)
    · replace h := ite_t c72 h
      exact J175 a2 a3 d_ _ _ _ hw (lv_sub hl [0, 1, 2] rfl) h
    · replace h := ite_f c72 h
      refine lv_aload_n hx hb dX5_personHere_156 rfl (lv_at hl 0 rfl) ?_
      obtain ⟨d73, g74, h⟩ := bd_ex h
      refine c_V (As := []) (rest := []) (w' := (MC g q d73)) cx hw (c_X5_nextToken l g q N  d_ d73 g74) (cl_X5_238 cx.1.2.2.2.2 ⟨Nat.le_of_ble_eq_true rfl, Nat.le_of_ble_eq_true rfl⟩) (x_recv cx hw (ci := 5) rfl 0 rfl) (Ct.all (MC_ll ..)) hl.1 rfl rfl (Nat.le_of_ble_eq_true rfl) dX5_personHere_157 ⟨Nat.le_of_ble_eq_true rfl, Nat.le_of_ble_eq_true rfl⟩ (st1 := []) rfl (fun H locs hw => ?_)
      refine lv_aload_n hx hb dX5_personHere_160 rfl (lv_at hl 0 rfl) ?_
      refine lv_iload_n hx hb dX5_personHere_161 rfl (lv_at hl 2 rfl) ?_
      refine lv_iconst (v := 3) hx hb dX5_personHere_162 (by decide) ?_
      refine lv_iadd hx hb dX5_personHere_163 ?_
      refine lv_iconst (v := 1) hx hb dX5_personHere_164 (by decide) ?_
      refine lv_bipush (v := 120) hx hb dX5_personHere_165 (by decide) ?_
      obtain ⟨x75, d76, g77, h⟩ := bd2_ex h
      refine c_V (As := [.int (a3 + (3 : Int32)), .int (1 : Int32), .int (120 : Int32)]) (rest := []) (w' := (MC g q d76)) cx hw (c_X5_comesTo l g q N (a3 + (3 : Int32)) (1 : Int32) (120 : Int32) d73 x75 d76 g77) (cl_X5_248 cx.1.2.2.2.2 ⟨Nat.le_of_ble_eq_true rfl, Nat.le_of_ble_eq_true rfl⟩) (x_recv cx hw (ci := 5) rfl 0 rfl) (Ct.all (MC_ll ..)) hl.1 rfl rfl (Nat.le_of_ble_eq_true rfl) dX5_personHere_167 ⟨Nat.le_of_ble_eq_true rfl, Nat.le_of_ble_eq_true rfl⟩ (st1 := [.int x75]) rfl (fun H locs hw => ?_)
      refine lv_if_ne (tgt := 175) hx hb dX5_personHere_170 (by decide) (fun c78 => ?_) (fun c78 => ?_)
      · replace h := ite_f c78 h
        exact J175 a2 a3 d76 _ _ _ hw (lv_sub hl [0, 1, 2] rfl) h
      · replace h := ite_t c78 h
        refine lv_iconst (v := 0) hx hb dX5_personHere_173 (by decide) ?_
        exact r_z cx hr hlocks rfl hw (pr1 h) (congrArg (fun z0 => (MC g q z0)) (pr2 h)) dX5_personHere_174
  have J105 : ∀ (a2 : Int32) (a3 : Int32) (d_ : MD) (H : Heap) (locs : List Loc) (ls : Array Slot), Wd g (va_A ((MC g q d)) s.heap.size) ((MC g q d_)) s H locs → lv_has ls 4 [(0, .ref (q 0)), (2, .int a2), (3, .int a3)] → f_X5_personHere_J105 N   a2 a3 d_ = some (r, d') → W p l e rm_X5_personHere s m ([.ref (q 0), .int p1] : List Value).toArray below meth c H locs 0 0 (MQ below (QO (some (.int r)) g ((MC g q d')) (va_A ((MC g q d)) s.heap.size)) ([.ref (q 0), .int p1] : List Value).toArray s 0 0 (va_A ((MC g q d)) s.heap.size)) (F0 m 105 ls []) := by
    intro a2 a3 d_ H locs ls hw hl h
    unfold f_X5_personHere_J105 at h
    refine lv_aload_n hx hb dX5_personHere_105 rfl (lv_at hl 0 rfl) ?_
    refine lv_bipush (v := 103) hx hb dX5_personHere_106 (by decide) ?_
    refine lv_bipush (v := 111) hx hb dX5_personHere_108 (by decide) ?_
    refine lv_bipush (v := 111) hx hb dX5_personHere_110 (by decide) ?_
    refine lv_bipush (v := 100) hx hb dX5_personHere_112 (by decide) ?_
    refine lv_bipush (v := 115) hx hb dX5_personHere_114 (by decide) ?_
    obtain ⟨x79, g80, h⟩ := bd_ex h
    refine c_V (As := [.int (103 : Int32), .int (111 : Int32), .int (111 : Int32), .int (100 : Int32), .int (115 : Int32)]) (rest := []) (w' := (MC g q d_)) cx hw (c_X5_isFive l g q N (103 : Int32) (111 : Int32) (111 : Int32) (100 : Int32) (115 : Int32) d_ x79 g80) (cl_X5_251 cx.1.2.2.2.2 ⟨Nat.le_of_ble_eq_true rfl, Nat.le_of_ble_eq_true rfl⟩) (x_recv cx hw (ci := 5) rfl 0 rfl) (Ct.all (MC_ll ..)) hl.1 rfl rfl (Nat.le_of_ble_eq_true rfl) dX5_personHere_116 ⟨Nat.le_of_ble_eq_true rfl, Nat.le_of_ble_eq_true rfl⟩ (st1 := [.int x79]) rfl (fun H locs hw => ?_)
    refine lv_if_eq (tgt := 141) hx hb dX5_personHere_119 (by decide) (fun c81 => ?_) (fun c81 => ?_)
    · replace h := ite_t c81 h
      exact J141 a2 a3 d_ _ _ _ hw (lv_sub hl [0, 1, 2] rfl) h
    · replace h := ite_f c81 h
      refine lv_aload_n hx hb dX5_personHere_122 rfl (lv_at hl 0 rfl) ?_
      obtain ⟨d82, g83, h⟩ := bd_ex h
      refine c_V (As := []) (rest := []) (w' := (MC g q d82)) cx hw (c_X5_nextToken l g q N  d_ d82 g83) (cl_X5_238 cx.1.2.2.2.2 ⟨Nat.le_of_ble_eq_true rfl, Nat.le_of_ble_eq_true rfl⟩) (x_recv cx hw (ci := 5) rfl 0 rfl) (Ct.all (MC_ll ..)) hl.1 rfl rfl (Nat.le_of_ble_eq_true rfl) dX5_personHere_123 ⟨Nat.le_of_ble_eq_true rfl, Nat.le_of_ble_eq_true rfl⟩ (st1 := []) rfl (fun H locs hw => ?_)
      refine lv_aload_n hx hb dX5_personHere_126 rfl (lv_at hl 0 rfl) ?_
      refine lv_iload_n hx hb dX5_personHere_127 rfl (lv_at hl 2 rfl) ?_
      refine lv_iconst (v := 2) hx hb dX5_personHere_128 (by decide) ?_
      refine lv_iadd hx hb dX5_personHere_129 ?_
      refine lv_iconst (v := 0) hx hb dX5_personHere_130 (by decide) ?_
      refine lv_ldc hx hb cx.1.2.2.2.1 (cx.1.2.2.2.2 _ tw_5_10) dX5_personHere_131 ?_
      obtain ⟨x84, d85, g86, h⟩ := bd2_ex h
      refine c_V (As := [.int (a3 + (2 : Int32)), .int (0 : Int32), .int (999999 : Int32)]) (rest := []) (w' := (MC g q d85)) cx hw (c_X5_comesTo l g q N (a3 + (2 : Int32)) (0 : Int32) (999999 : Int32) d82 x84 d85 g86) (cl_X5_248 cx.1.2.2.2.2 ⟨Nat.le_of_ble_eq_true rfl, Nat.le_of_ble_eq_true rfl⟩) (x_recv cx hw (ci := 5) rfl 0 rfl) (Ct.all (MC_ll ..)) hl.1 rfl rfl (Nat.le_of_ble_eq_true rfl) dX5_personHere_133 ⟨Nat.le_of_ble_eq_true rfl, Nat.le_of_ble_eq_true rfl⟩ (st1 := [.int x84]) rfl (fun H locs hw => ?_)
      refine lv_if_ne (tgt := 141) hx hb dX5_personHere_136 (by decide) (fun c87 => ?_) (fun c87 => ?_)
      · replace h := ite_f c87 h
        exact J141 a2 a3 d85 _ _ _ hw (lv_sub hl [0, 1, 2] rfl) h
      · replace h := ite_t c87 h
        refine lv_iconst (v := 0) hx hb dX5_personHere_139 (by decide) ?_
        exact r_z cx hr hlocks rfl hw (pr1 h) (congrArg (fun z0 => (MC g q z0)) (pr2 h)) dX5_personHere_140
  have J64 : ∀ (a2 : Int32) (a3 : Int32) (d_ : MD) (H : Heap) (locs : List Loc) (ls : Array Slot), Wd g (va_A ((MC g q d)) s.heap.size) ((MC g q d_)) s H locs → lv_has ls 4 [(0, .ref (q 0)), (2, .int a2), (3, .int a3)] → f_X5_personHere_J64 N   a2 a3 d_ = some (r, d') → W p l e rm_X5_personHere s m ([.ref (q 0), .int p1] : List Value).toArray below meth c H locs 0 0 (MQ below (QO (some (.int r)) g ((MC g q d')) (va_A ((MC g q d)) s.heap.size)) ([.ref (q 0), .int p1] : List Value).toArray s 0 0 (va_A ((MC g q d)) s.heap.size)) (F0 m 64 ls []) := by
    intro a2 a3 d_ H locs ls hw hl h
    unfold f_X5_personHere_J64 at h
    refine lv_aload_n hx hb dX5_personHere_64 rfl (lv_at hl 0 rfl) ?_
    refine lv_iconst (v := 3) hx hb dX5_personHere_65 (by decide) ?_
    obtain ⟨x88, g89, h⟩ := bd_ex h
    refine c_V (As := [.int (3 : Int32)]) (rest := []) (w' := (MC g q d_)) cx hw (c_X5_isWord l g q N (3 : Int32) d_ x88 g89) (cl_X5_227 cx.1.2.2.2.2 ⟨Nat.le_of_ble_eq_true rfl, Nat.le_of_ble_eq_true rfl⟩) (x_recv cx hw (ci := 5) rfl 0 rfl) (Ct.all (MC_ll ..)) hl.1 rfl rfl (Nat.le_of_ble_eq_true rfl) dX5_personHere_66 ⟨Nat.le_of_ble_eq_true rfl, Nat.le_of_ble_eq_true rfl⟩ (st1 := [.int x88]) rfl (fun H locs hw => ?_)
    refine lv_if_eq (tgt := 105) hx hb dX5_personHere_69 (by decide) (fun c90 => ?_) (fun c90 => ?_)
    · replace h := ite_t c90 h
      exact J105 a2 a3 d_ _ _ _ hw (lv_sub hl [0, 1, 2] rfl) h
    · replace h := ite_f c90 h
      refine lv_aload_n hx hb dX5_personHere_72 rfl (lv_at hl 0 rfl) ?_
      refine lv_iconst (v := 0) hx hb dX5_personHere_73 (by decide) ?_
      refine lv_bipush (v := 97) hx hb dX5_personHere_74 (by decide) ?_
      refine lv_bipush (v := 103) hx hb dX5_personHere_76 (by decide) ?_
      refine lv_bipush (v := 101) hx hb dX5_personHere_78 (by decide) ?_
      obtain ⟨x91, g92, h⟩ := bd_ex h
      refine c_V (As := [.int (0 : Int32), .int (97 : Int32), .int (103 : Int32), .int (101 : Int32)]) (rest := []) (w' := (MC g q d_)) cx hw (c_X5_has3 l g q N (0 : Int32) (97 : Int32) (103 : Int32) (101 : Int32) d_ x91 g92) (cl_X5_230 cx.1.2.2.2.2 ⟨Nat.le_of_ble_eq_true rfl, Nat.le_of_ble_eq_true rfl⟩) (x_recv cx hw (ci := 5) rfl 0 rfl) (Ct.all (MC_ll ..)) hl.1 rfl rfl (Nat.le_of_ble_eq_true rfl) dX5_personHere_80 ⟨Nat.le_of_ble_eq_true rfl, Nat.le_of_ble_eq_true rfl⟩ (st1 := [.int x91]) rfl (fun H locs hw => ?_)
      refine lv_if_eq (tgt := 105) hx hb dX5_personHere_83 (by decide) (fun c93 => ?_) (fun c93 => ?_)
      · replace h := ite_t c93 h
        exact J105 a2 a3 d_ _ _ _ hw (lv_sub hl [0, 1, 2] rfl) h
      · replace h := ite_f c93 h
        refine lv_aload_n hx hb dX5_personHere_86 rfl (lv_at hl 0 rfl) ?_
        obtain ⟨d94, g95, h⟩ := bd_ex h
        refine c_V (As := []) (rest := []) (w' := (MC g q d94)) cx hw (c_X5_nextToken l g q N  d_ d94 g95) (cl_X5_238 cx.1.2.2.2.2 ⟨Nat.le_of_ble_eq_true rfl, Nat.le_of_ble_eq_true rfl⟩) (x_recv cx hw (ci := 5) rfl 0 rfl) (Ct.all (MC_ll ..)) hl.1 rfl rfl (Nat.le_of_ble_eq_true rfl) dX5_personHere_87 ⟨Nat.le_of_ble_eq_true rfl, Nat.le_of_ble_eq_true rfl⟩ (st1 := []) rfl (fun H locs hw => ?_)
        refine lv_aload_n hx hb dX5_personHere_90 rfl (lv_at hl 0 rfl) ?_
        refine lv_iload_n hx hb dX5_personHere_91 rfl (lv_at hl 2 rfl) ?_
        refine lv_iconst (v := 1) hx hb dX5_personHere_92 (by decide) ?_
        refine lv_iadd hx hb dX5_personHere_93 ?_
        refine lv_iconst (v := 0) hx hb dX5_personHere_94 (by decide) ?_
        refine lv_bipush (v := 120) hx hb dX5_personHere_95 (by decide) ?_
        obtain ⟨x96, d97, g98, h⟩ := bd2_ex h
        refine c_V (As := [.int (a3 + (1 : Int32)), .int (0 : Int32), .int (120 : Int32)]) (rest := []) (w' := (MC g q d97)) cx hw (c_X5_comesTo l g q N (a3 + (1 : Int32)) (0 : Int32) (120 : Int32) d94 x96 d97 g98) (cl_X5_248 cx.1.2.2.2.2 ⟨Nat.le_of_ble_eq_true rfl, Nat.le_of_ble_eq_true rfl⟩) (x_recv cx hw (ci := 5) rfl 0 rfl) (Ct.all (MC_ll ..)) hl.1 rfl rfl (Nat.le_of_ble_eq_true rfl) dX5_personHere_97 ⟨Nat.le_of_ble_eq_true rfl, Nat.le_of_ble_eq_true rfl⟩ (st1 := [.int x96]) rfl (fun H locs hw => ?_)
        refine lv_if_ne (tgt := 105) hx hb dX5_personHere_100 (by decide) (fun c99 => ?_) (fun c99 => ?_)
        · replace h := ite_f c99 h
          exact J105 a2 a3 d97 _ _ _ hw (lv_sub hl [0, 1, 2] rfl) h
        · replace h := ite_t c99 h
          refine lv_iconst (v := 0) hx hb dX5_personHere_103 (by decide) ?_
          exact r_z cx hr hlocks rfl hw (pr1 h) (congrArg (fun z0 => (MC g q z0)) (pr2 h)) dX5_personHere_104
  unfold f_X5_personHere at h
  refine lv_aload_n hx hb dX5_personHere_0 rfl (lv_at hl 0 rfl) ?_
  refine gf_X5_7 cx hw 0 rfl rfl dX5_personHere_1 ?_
  refine lv_iconst (v := 0) hx hb dX5_personHere_4 (by decide) ?_
  have ix1 := rd_in h
  refine x_iald cx hw 1 rfl ix1 dX5_personHere_5 ?_
  refine lv_topi (fun x1 ex1 => ?_)
  replace h := rd_nx ex1 h
  refine lv_bipush (v := 12) hx hb dX5_personHere_6 (by decide) ?_
  refine lv_icmp_ne (tgt := 16) hx hb dX5_personHere_8 (by decide) (fun c2 => ?_) (fun c2 => ?_)
  · replace h := ite_f c2 h
    refine lv_aload_n hx hb dX5_personHere_16 rfl (lv_at hl 0 rfl) ?_
    refine lv_iload_n hx hb dX5_personHere_17 rfl (lv_at hl 1 rfl) ?_
    refine lv_iconst (v := 0) hx hb dX5_personHere_18 (by decide) ?_
    obtain ⟨x3, d4, g5, h⟩ := bd2_ex h
    refine c_V (As := [.int p1, .int (0 : Int32)]) (rest := []) (w' := (MC g q d4)) cx hw (c_X5_comes l g q N p1 (0 : Int32) d x3 d4 g5) (cl_X5_80 cx.1.2.2.2.2 ⟨Nat.le_of_ble_eq_true rfl, Nat.le_of_ble_eq_true rfl⟩) (x_recv cx hw (ci := 5) rfl 0 rfl) (Ct.all (MC_ll ..)) hl.1 rfl rfl (Nat.le_of_ble_eq_true rfl) dX5_personHere_19 ⟨Nat.le_of_ble_eq_true rfl, Nat.le_of_ble_eq_true rfl⟩ (st1 := [.int x3]) rfl (fun H locs hw => ?_)
    refine lv_istore_n (lv' := [(2, .int x3), (0, .ref (q 0)), (1, .int p1)]) hx hb dX5_personHere_22 rfl hl (by decide) rfl (fun ls hl => ?_)
    refine lv_bipush (v := 21) hx hb dX5_personHere_23 (by decide) ?_
    refine lv_bipush (v := 15) hx hb dX5_personHere_25 (by decide) ?_
    refine lv_iload_n hx hb dX5_personHere_27 rfl (lv_at hl 0 rfl) ?_
    refine lv_imul hx hb dX5_personHere_28 ?_
    refine lv_iadd hx hb dX5_personHere_29 ?_
    refine lv_topi (fun x6 ex6 => ?_)
    replace h := lt_nx ex6 h
    refine lv_istore_n (lv' := [(3, .int x6), (2, .int x3), (0, .ref (q 0)), (1, .int p1)]) hx hb dX5_personHere_30 rfl hl (by decide) rfl (fun ls hl => ?_)
    refine lv_aload_n hx hb dX5_personHere_31 rfl (lv_at hl 2 rfl) ?_
    obtain ⟨d7, g8, h⟩ := bd_ex h
    refine c_V (As := []) (rest := []) (w' := (MC g q d7)) cx hw (c_X5_nextToken l g q N  d4 d7 g8) (cl_X5_238 cx.1.2.2.2.2 ⟨Nat.le_of_ble_eq_true rfl, Nat.le_of_ble_eq_true rfl⟩) (x_recv cx hw (ci := 5) rfl 0 rfl) (Ct.all (MC_ll ..)) hl.1 rfl rfl (Nat.le_of_ble_eq_true rfl) dX5_personHere_32 ⟨Nat.le_of_ble_eq_true rfl, Nat.le_of_ble_eq_true rfl⟩ (st1 := []) rfl (fun H locs hw => ?_)
    refine lv_aload_n hx hb dX5_personHere_35 rfl (lv_at hl 2 rfl) ?_
    refine lv_bipush (v := 108) hx hb dX5_personHere_36 (by decide) ?_
    refine lv_bipush (v := 105) hx hb dX5_personHere_38 (by decide) ?_
    refine lv_bipush (v := 107) hx hb dX5_personHere_40 (by decide) ?_
    refine lv_bipush (v := 101) hx hb dX5_personHere_42 (by decide) ?_
    obtain ⟨x9, g10, h⟩ := bd_ex h
    refine c_V (As := [.int (108 : Int32), .int (105 : Int32), .int (107 : Int32), .int (101 : Int32)]) (rest := []) (w' := (MC g q d7)) cx hw (c_X5_isFour l g q N (108 : Int32) (105 : Int32) (107 : Int32) (101 : Int32) d7 x9 g10) (cl_X5_242 cx.1.2.2.2.2 ⟨Nat.le_of_ble_eq_true rfl, Nat.le_of_ble_eq_true rfl⟩) (x_recv cx hw (ci := 5) rfl 0 rfl) (Ct.all (MC_ll ..)) hl.1 rfl rfl (Nat.le_of_ble_eq_true rfl) dX5_personHere_44 ⟨Nat.le_of_ble_eq_true rfl, Nat.le_of_ble_eq_true rfl⟩ (st1 := [.int x9]) rfl (fun H locs hw => ?_)
    refine lv_if_eq (tgt := 64) hx hb dX5_personHere_47 (by decide) (fun c11 => ?_) (fun c11 => ?_)
    · replace h := ite_t c11 h
      exact J64 x3 x6 d7 _ _ _ hw (lv_sub hl [2, 1, 0] rfl) h
    · replace h := ite_f c11 h
      refine lv_aload_n hx hb dX5_personHere_50 rfl (lv_at hl 2 rfl) ?_
      obtain ⟨d12, g13, h⟩ := bd_ex h
      refine c_V (As := []) (rest := []) (w' := (MC g q d12)) cx hw (c_X5_nextToken l g q N  d7 d12 g13) (cl_X5_238 cx.1.2.2.2.2 ⟨Nat.le_of_ble_eq_true rfl, Nat.le_of_ble_eq_true rfl⟩) (x_recv cx hw (ci := 5) rfl 0 rfl) (Ct.all (MC_ll ..)) hl.1 rfl rfl (Nat.le_of_ble_eq_true rfl) dX5_personHere_51 ⟨Nat.le_of_ble_eq_true rfl, Nat.le_of_ble_eq_true rfl⟩ (st1 := []) rfl (fun H locs hw => ?_)
      refine lv_aload_n hx hb dX5_personHere_54 rfl (lv_at hl 2 rfl) ?_
      refine lv_iload_n hx hb dX5_personHere_55 rfl (lv_at hl 1 rfl) ?_
      obtain ⟨x14, d15, g16, h⟩ := bd2_ex h
      refine c_V (As := [.int x3]) (rest := []) (w' := (MC g q d15)) cx hw (c_X5_waysCome l g q N x3 d12 x14 d15 g16) (cl_X5_245 cx.1.2.2.2.2 ⟨Nat.le_of_ble_eq_true rfl, Nat.le_of_ble_eq_true rfl⟩) (x_recv cx hw (ci := 5) rfl 0 rfl) (Ct.all (MC_ll ..)) hl.1 rfl rfl (Nat.le_of_ble_eq_true rfl) dX5_personHere_56 ⟨Nat.le_of_ble_eq_true rfl, Nat.le_of_ble_eq_true rfl⟩ (st1 := [.int x14]) rfl (fun H locs hw => ?_)
      refine lv_if_ne (tgt := 64) hx hb dX5_personHere_59 (by decide) (fun c17 => ?_) (fun c17 => ?_)
      · replace h := ite_f c17 h
        exact J64 x3 x6 d15 _ _ _ hw (lv_sub hl [2, 1, 0] rfl) h
      · replace h := ite_t c17 h
        refine lv_iconst (v := 0) hx hb dX5_personHere_62 (by decide) ?_
        exact r_z cx hr hlocks rfl hw (pr1 h) (congrArg (fun z0 => (MC g q z0)) (pr2 h)) dX5_personHere_63
  · replace h := ite_t c2 h
    refine lv_aload_n hx hb dX5_personHere_11 rfl (lv_at hl 0 rfl) ?_
    obtain ⟨x18, d19, g20, h⟩ := bd2_ex h
    refine c_V (As := []) (rest := []) (w' := (MC g q d19)) cx hw (c_X5_fails l g q N  d x18 d19 g20) (cl_X5_234 cx.1.2.2.2.2 ⟨Nat.le_of_ble_eq_true rfl, Nat.le_of_ble_eq_true rfl⟩) (x_recv cx hw (ci := 5) rfl 0 rfl) (Ct.all (MC_ll ..)) hl.1 rfl rfl (Nat.le_of_ble_eq_true rfl) dX5_personHere_12 ⟨Nat.le_of_ble_eq_true rfl, Nat.le_of_ble_eq_true rfl⟩ (st1 := [.int x18]) rfl (fun H locs hw => ?_)
    have i21 := ckz_in h
    replace h := ckz_nx h
    exact r_z cx hr hlocks i21 hw (pr1 h) (congrArg (fun z0 => (MC g q z0)) (pr2 h)) dX5_personHere_15
set_option maxHeartbeats 4000000 in
set_option maxRecDepth 100000 in
theorem c_X5_markHere (l : Launch) (g : gE) (q : Nat → Nat) (N : Nat)  (d : MD) (r : Int32) (d' : MD) (h : f_X5_markHere N  d = some (r, d')) : MO l yX5_markHere (Cond.code yX5_markHere cX5_markHere 2 (some .boolean) :: TB) rm_X5_markHere [.ref (q 0)] g ((MC g q d)) ((MC g q d')) (some (.int r)) 0 0 := by
  refine MO.of (cc := cX5_markHere) (maxL := 2) (ret := (some .boolean)) (by decide) ?_
  intro p e s m below meth c cx hw hr hlocks _
  have hx := cx.1.1
  have hb := cx.1.2.1
  refine en_go (lv := [(0, .ref (q 0))]) (Nat.le_of_ble_eq_true rfl) rfl (fun ls hl => ?_)
  have J91 : ∀ (a1 : Int32) (d_ : MD) (H : Heap) (locs : List Loc) (ls : Array Slot), Wd g (va_A ((MC g q d)) s.heap.size) ((MC g q d_)) s H locs → lv_has ls 2 [(0, .ref (q 0)), (1, .int a1)] → f_X5_markHere_J91 N   a1 d_ = some (r, d') → W p l e rm_X5_markHere s m ([.ref (q 0)] : List Value).toArray below meth c H locs 0 0 (MQ below (QO (some (.int r)) g ((MC g q d')) (va_A ((MC g q d)) s.heap.size)) ([.ref (q 0)] : List Value).toArray s 0 0 (va_A ((MC g q d)) s.heap.size)) (F0 m 91 ls []) := by
    intro a1 d_ H locs ls hw hl h
    unfold f_X5_markHere_J91 at h
    refine lv_aload_n hx hb dX5_markHere_91 rfl (lv_at hl 0 rfl) ?_
    refine lv_bipush (v := 99) hx hb dX5_markHere_92 (by decide) ?_
    refine lv_bipush (v := 111) hx hb dX5_markHere_94 (by decide) ?_
    refine lv_bipush (v := 115) hx hb dX5_markHere_96 (by decide) ?_
    refine lv_bipush (v := 116) hx hb dX5_markHere_98 (by decide) ?_
    refine lv_bipush (v := 115) hx hb dX5_markHere_100 (by decide) ?_
    obtain ⟨x40, g41, h⟩ := bd_ex h
    refine c_V (As := [.int (99 : Int32), .int (111 : Int32), .int (115 : Int32), .int (116 : Int32), .int (115 : Int32)]) (rest := []) (w' := (MC g q d_)) cx hw (c_X5_isFive l g q N (99 : Int32) (111 : Int32) (115 : Int32) (116 : Int32) (115 : Int32) d_ x40 g41) (cl_X5_251 cx.1.2.2.2.2 ⟨Nat.le_of_ble_eq_true rfl, Nat.le_of_ble_eq_true rfl⟩) (x_recv cx hw (ci := 5) rfl 0 rfl) (Ct.all (MC_ll ..)) hl.1 rfl rfl (Nat.le_of_ble_eq_true rfl) dX5_markHere_102 ⟨Nat.le_of_ble_eq_true rfl, Nat.le_of_ble_eq_true rfl⟩ (st1 := [.int x40]) rfl (fun H locs hw => ?_)
    refine lv_if_eq (tgt := 124) hx hb dX5_markHere_105 (by decide) (fun c42 => ?_) (fun c42 => ?_)
    · replace h := ite_t c42 h
      refine lv_iconst (v := 1) hx hb dX5_markHere_124 (by decide) ?_
      exact r_z cx hr hlocks rfl hw (pr1 h) (congrArg (fun z0 => (MC g q z0)) (pr2 h)) dX5_markHere_125
    · replace h := ite_f c42 h
      refine lv_aload_n hx hb dX5_markHere_108 rfl (lv_at hl 0 rfl) ?_
      obtain ⟨d43, g44, h⟩ := bd_ex h
      refine c_V (As := []) (rest := []) (w' := (MC g q d43)) cx hw (c_X5_nextToken l g q N  d_ d43 g44) (cl_X5_238 cx.1.2.2.2.2 ⟨Nat.le_of_ble_eq_true rfl, Nat.le_of_ble_eq_true rfl⟩) (x_recv cx hw (ci := 5) rfl 0 rfl) (Ct.all (MC_ll ..)) hl.1 rfl rfl (Nat.le_of_ble_eq_true rfl) dX5_markHere_109 ⟨Nat.le_of_ble_eq_true rfl, Nat.le_of_ble_eq_true rfl⟩ (st1 := []) rfl (fun H locs hw => ?_)
      refine lv_aload_n hx hb dX5_markHere_112 rfl (lv_at hl 0 rfl) ?_
      refine lv_bipush (v := 12) hx hb dX5_markHere_113 (by decide) ?_
      refine lv_iload_n hx hb dX5_markHere_115 rfl (lv_at hl 1 rfl) ?_
      refine lv_iadd hx hb dX5_markHere_116 ?_
      refine lv_iconst (v := 0) hx hb dX5_markHere_117 (by decide) ?_
      refine lv_bipush (v := 99) hx hb dX5_markHere_118 (by decide) ?_
      obtain ⟨x45, d46, g47, h⟩ := bd2_ex h
      refine c_V (As := [.int ((12 : Int32) + a1), .int (0 : Int32), .int (99 : Int32)]) (rest := []) (w' := (MC g q d46)) cx hw (c_X5_comesTo l g q N ((12 : Int32) + a1) (0 : Int32) (99 : Int32) d43 x45 d46 g47) (cl_X5_248 cx.1.2.2.2.2 ⟨Nat.le_of_ble_eq_true rfl, Nat.le_of_ble_eq_true rfl⟩) (x_recv cx hw (ci := 5) rfl 0 rfl) (Ct.all (MC_ll ..)) hl.1 rfl rfl (Nat.le_of_ble_eq_true rfl) dX5_markHere_120 ⟨Nat.le_of_ble_eq_true rfl, Nat.le_of_ble_eq_true rfl⟩ (st1 := [.int x45]) rfl (fun H locs hw => ?_)
      have i48 := ckz_in h
      replace h := ckz_nx h
      exact r_z cx hr hlocks i48 hw (pr1 h) (congrArg (fun z0 => (MC g q z0)) (pr2 h)) dX5_markHere_123
  unfold f_X5_markHere at h
  refine lv_aload_n hx hb dX5_markHere_0 rfl (lv_at hl 0 rfl) ?_
  obtain ⟨d1, g2, h⟩ := bd_ex h
  refine c_V (As := []) (rest := []) (w' := (MC g q d1)) cx hw (c_X5_nextToken l g q N  d d1 g2) (cl_X5_238 cx.1.2.2.2.2 ⟨Nat.le_of_ble_eq_true rfl, Nat.le_of_ble_eq_true rfl⟩) (x_recv cx hw (ci := 5) rfl 0 rfl) (Ct.all (MC_ll ..)) hl.1 rfl rfl (Nat.le_of_ble_eq_true rfl) dX5_markHere_1 ⟨Nat.le_of_ble_eq_true rfl, Nat.le_of_ble_eq_true rfl⟩ (st1 := []) rfl (fun H locs hw => ?_)
  refine lv_aload_n hx hb dX5_markHere_4 rfl (lv_at hl 0 rfl) ?_
  refine gf_X5_216 cx hw 0 rfl rfl dX5_markHere_5 ?_
  refine lv_iconst (v := 2) hx hb dX5_markHere_8 (by decide) ?_
  refine lv_icmp_ne (tgt := 21) hx hb dX5_markHere_9 (by decide) (fun c3 => ?_) (fun c3 => ?_)
  · replace h := ite_f c3 h
    refine lv_aload_n hx hb dX5_markHere_21 rfl (lv_at hl 0 rfl) ?_
    obtain ⟨x4, d5, g6, h⟩ := bd2_ex h
    refine c_V (As := []) (rest := []) (w' := (MC g q d5)) cx hw (c_X5_fails l g q N  d1 x4 d5 g6) (cl_X5_234 cx.1.2.2.2.2 ⟨Nat.le_of_ble_eq_true rfl, Nat.le_of_ble_eq_true rfl⟩) (x_recv cx hw (ci := 5) rfl 0 rfl) (Ct.all (MC_ll ..)) hl.1 rfl rfl (Nat.le_of_ble_eq_true rfl) dX5_markHere_22 ⟨Nat.le_of_ble_eq_true rfl, Nat.le_of_ble_eq_true rfl⟩ (st1 := [.int x4]) rfl (fun H locs hw => ?_)
    have i7 := ckz_in h
    replace h := ckz_nx h
    exact r_z cx hr hlocks i7 hw (pr1 h) (congrArg (fun z0 => (MC g q z0)) (pr2 h)) dX5_markHere_25
  · replace h := ite_t c3 h
    refine lv_aload_n hx hb dX5_markHere_12 rfl (lv_at hl 0 rfl) ?_
    refine gf_X5_219 cx hw 0 rfl rfl dX5_markHere_13 ?_
    refine lv_bipush (v := 8) hx hb dX5_markHere_16 (by decide) ?_
    refine lv_icmp_le (tgt := 26) hx hb dX5_markHere_18 (by decide) (fun c8 => ?_) (fun c8 => ?_)
    · replace h := ite_t c8 h
      refine lv_aload_n hx hb dX5_markHere_26 rfl (lv_at hl 0 rfl) ?_
      refine gf_X5_219 cx hw 0 rfl rfl dX5_markHere_27 ?_
      refine lv_topi (fun x9 ex9 => ?_)
      replace h := lt_nx ex9 h
      refine lv_istore_n (lv' := [(1, .int x9), (0, .ref (q 0))]) hx hb dX5_markHere_30 rfl hl (by decide) rfl (fun ls hl => ?_)
      refine lv_aload_n hx hb dX5_markHere_31 rfl (lv_at hl 1 rfl) ?_
      obtain ⟨d10, g11, h⟩ := bd_ex h
      refine c_V (As := []) (rest := []) (w' := (MC g q d10)) cx hw (c_X5_nextToken l g q N  d1 d10 g11) (cl_X5_238 cx.1.2.2.2.2 ⟨Nat.le_of_ble_eq_true rfl, Nat.le_of_ble_eq_true rfl⟩) (x_recv cx hw (ci := 5) rfl 0 rfl) (Ct.all (MC_ll ..)) hl.1 rfl rfl (Nat.le_of_ble_eq_true rfl) dX5_markHere_32 ⟨Nat.le_of_ble_eq_true rfl, Nat.le_of_ble_eq_true rfl⟩ (st1 := []) rfl (fun H locs hw => ?_)
      refine lv_aload_n hx hb dX5_markHere_35 rfl (lv_at hl 1 rfl) ?_
      refine lv_bipush (v := 6) hx hb dX5_markHere_36 (by decide) ?_
      obtain ⟨x12, g13, h⟩ := bd_ex h
      refine c_V (As := [.int (6 : Int32)]) (rest := []) (w' := (MC g q d10)) cx hw (c_X5_isWord l g q N (6 : Int32) d10 x12 g13) (cl_X5_227 cx.1.2.2.2.2 ⟨Nat.le_of_ble_eq_true rfl, Nat.le_of_ble_eq_true rfl⟩) (x_recv cx hw (ci := 5) rfl 0 rfl) (Ct.all (MC_ll ..)) hl.1 rfl rfl (Nat.le_of_ble_eq_true rfl) dX5_markHere_38 ⟨Nat.le_of_ble_eq_true rfl, Nat.le_of_ble_eq_true rfl⟩ (st1 := [.int x12]) rfl (fun H locs hw => ?_)
      refine lv_if_eq (tgt := 91) hx hb dX5_markHere_41 (by decide) (fun c14 => ?_) (fun c14 => ?_)
      · replace h := ite_t c14 h
        exact J91 x9 d10 _ _ _ hw (lv_sub hl [1, 0] rfl) h
      · replace h := ite_f c14 h
        refine lv_aload_n hx hb dX5_markHere_44 rfl (lv_at hl 1 rfl) ?_
        refine lv_iconst (v := 0) hx hb dX5_markHere_45 (by decide) ?_
        refine lv_bipush (v := 119) hx hb dX5_markHere_46 (by decide) ?_
        refine lv_bipush (v := 101) hx hb dX5_markHere_48 (by decide) ?_
        refine lv_bipush (v := 105) hx hb dX5_markHere_50 (by decide) ?_
        obtain ⟨x15, g16, h⟩ := bd_ex h
        refine c_V (As := [.int (0 : Int32), .int (119 : Int32), .int (101 : Int32), .int (105 : Int32)]) (rest := []) (w' := (MC g q d10)) cx hw (c_X5_has3 l g q N (0 : Int32) (119 : Int32) (101 : Int32) (105 : Int32) d10 x15 g16) (cl_X5_230 cx.1.2.2.2.2 ⟨Nat.le_of_ble_eq_true rfl, Nat.le_of_ble_eq_true rfl⟩) (x_recv cx hw (ci := 5) rfl 0 rfl) (Ct.all (MC_ll ..)) hl.1 rfl rfl (Nat.le_of_ble_eq_true rfl) dX5_markHere_52 ⟨Nat.le_of_ble_eq_true rfl, Nat.le_of_ble_eq_true rfl⟩ (st1 := [.int x15]) rfl (fun H locs hw => ?_)
        refine lv_if_eq (tgt := 91) hx hb dX5_markHere_55 (by decide) (fun c17 => ?_) (fun c17 => ?_)
        · replace h := ite_t c17 h
          exact J91 x9 d10 _ _ _ hw (lv_sub hl [1, 0] rfl) h
        · replace h := ite_f c17 h
          refine lv_aload_n hx hb dX5_markHere_58 rfl (lv_at hl 1 rfl) ?_
          refine lv_iconst (v := 3) hx hb dX5_markHere_59 (by decide) ?_
          refine lv_bipush (v := 103) hx hb dX5_markHere_60 (by decide) ?_
          refine lv_bipush (v := 104) hx hb dX5_markHere_62 (by decide) ?_
          refine lv_bipush (v := 115) hx hb dX5_markHere_64 (by decide) ?_
          obtain ⟨x18, g19, h⟩ := bd_ex h
          refine c_V (As := [.int (3 : Int32), .int (103 : Int32), .int (104 : Int32), .int (115 : Int32)]) (rest := []) (w' := (MC g q d10)) cx hw (c_X5_has3 l g q N (3 : Int32) (103 : Int32) (104 : Int32) (115 : Int32) d10 x18 g19) (cl_X5_230 cx.1.2.2.2.2 ⟨Nat.le_of_ble_eq_true rfl, Nat.le_of_ble_eq_true rfl⟩) (x_recv cx hw (ci := 5) rfl 0 rfl) (Ct.all (MC_ll ..)) hl.1 rfl rfl (Nat.le_of_ble_eq_true rfl) dX5_markHere_66 ⟨Nat.le_of_ble_eq_true rfl, Nat.le_of_ble_eq_true rfl⟩ (st1 := [.int x18]) rfl (fun H locs hw => ?_)
          refine lv_if_eq (tgt := 91) hx hb dX5_markHere_69 (by decide) (fun c20 => ?_) (fun c20 => ?_)
          · replace h := ite_t c20 h
            exact J91 x9 d10 _ _ _ hw (lv_sub hl [1, 0] rfl) h
          · replace h := ite_f c20 h
            refine lv_aload_n hx hb dX5_markHere_72 rfl (lv_at hl 1 rfl) ?_
            obtain ⟨d21, g22, h⟩ := bd_ex h
            refine c_V (As := []) (rest := []) (w' := (MC g q d21)) cx hw (c_X5_nextToken l g q N  d10 d21 g22) (cl_X5_238 cx.1.2.2.2.2 ⟨Nat.le_of_ble_eq_true rfl, Nat.le_of_ble_eq_true rfl⟩) (x_recv cx hw (ci := 5) rfl 0 rfl) (Ct.all (MC_ll ..)) hl.1 rfl rfl (Nat.le_of_ble_eq_true rfl) dX5_markHere_73 ⟨Nat.le_of_ble_eq_true rfl, Nat.le_of_ble_eq_true rfl⟩ (st1 := []) rfl (fun H locs hw => ?_)
            refine lv_aload_n hx hb dX5_markHere_76 rfl (lv_at hl 1 rfl) ?_
            refine lv_iconst (v := 3) hx hb dX5_markHere_77 (by decide) ?_
            refine lv_iload_n hx hb dX5_markHere_78 rfl (lv_at hl 0 rfl) ?_
            refine lv_iadd hx hb dX5_markHere_79 ?_
            refine lv_iconst (v := 0) hx hb dX5_markHere_80 (by decide) ?_
            refine lv_bipush (v := 9) hx hb dX5_markHere_81 (by decide) ?_
            obtain ⟨x23, d24, g25, h⟩ := bd2_ex h
            refine c_V (As := [.int ((3 : Int32) + x9), .int (0 : Int32), .int (9 : Int32)]) (rest := []) (w' := (MC g q d24)) cx hw (c_X5_comesTo l g q N ((3 : Int32) + x9) (0 : Int32) (9 : Int32) d21 x23 d24 g25) (cl_X5_248 cx.1.2.2.2.2 ⟨Nat.le_of_ble_eq_true rfl, Nat.le_of_ble_eq_true rfl⟩) (x_recv cx hw (ci := 5) rfl 0 rfl) (Ct.all (MC_ll ..)) hl.1 rfl rfl (Nat.le_of_ble_eq_true rfl) dX5_markHere_83 ⟨Nat.le_of_ble_eq_true rfl, Nat.le_of_ble_eq_true rfl⟩ (st1 := [.int x23]) rfl (fun H locs hw => ?_)
            refine lv_if_ne (tgt := 91) hx hb dX5_markHere_86 (by decide) (fun c26 => ?_) (fun c26 => ?_)
            · replace h := ite_f c26 h
              exact J91 x9 d24 _ _ _ hw (lv_sub hl [1, 0] rfl) h
            · replace h := ite_t c26 h
              refine lv_iconst (v := 0) hx hb dX5_markHere_89 (by decide) ?_
              exact r_z cx hr hlocks rfl hw (pr1 h) (congrArg (fun z0 => (MC g q z0)) (pr2 h)) dX5_markHere_90
    · replace h := ite_f c8 h
      refine lv_aload_n hx hb dX5_markHere_21 rfl (lv_at hl 0 rfl) ?_
      obtain ⟨x27, d28, g29, h⟩ := bd2_ex h
      refine c_V (As := []) (rest := []) (w' := (MC g q d28)) cx hw (c_X5_fails l g q N  d1 x27 d28 g29) (cl_X5_234 cx.1.2.2.2.2 ⟨Nat.le_of_ble_eq_true rfl, Nat.le_of_ble_eq_true rfl⟩) (x_recv cx hw (ci := 5) rfl 0 rfl) (Ct.all (MC_ll ..)) hl.1 rfl rfl (Nat.le_of_ble_eq_true rfl) dX5_markHere_22 ⟨Nat.le_of_ble_eq_true rfl, Nat.le_of_ble_eq_true rfl⟩ (st1 := [.int x27]) rfl (fun H locs hw => ?_)
      have i30 := ckz_in h
      replace h := ckz_nx h
      exact r_z cx hr hlocks i30 hw (pr1 h) (congrArg (fun z0 => (MC g q z0)) (pr2 h)) dX5_markHere_25
set_option maxHeartbeats 4000000 in
set_option maxRecDepth 100000 in
theorem c_X5_itemHere (l : Launch) (g : gE) (q : Nat → Nat) (N : Nat)  (d : MD) (r : Int32) (d' : MD) (h : f_X5_itemHere N  d = some (r, d')) : MO l yX5_itemHere (Cond.code yX5_itemHere cX5_itemHere 2 (some .boolean) :: TB) rm_X5_itemHere [.ref (q 0)] g ((MC g q d)) ((MC g q d')) (some (.int r)) 0 0 := by
  refine MO.of (cc := cX5_itemHere) (maxL := 2) (ret := (some .boolean)) (by decide) ?_
  intro p e s m below meth c cx hw hr hlocks _
  have hx := cx.1.1
  have hb := cx.1.2.1
  refine en_go (lv := [(0, .ref (q 0))]) (Nat.le_of_ble_eq_true rfl) rfl (fun ls hl => ?_)
  unfold f_X5_itemHere at h
  refine lv_aload_n hx hb dX5_itemHere_0 rfl (lv_at hl 0 rfl) ?_
  obtain ⟨x1, g2, h⟩ := bd_ex h
  refine c_V (As := []) (rest := []) (w' := (MC g q d)) cx hw (c_X5_kindHere l g q N  d x1 g2) (cl_X5_255 cx.1.2.2.2.2 ⟨Nat.le_of_ble_eq_true rfl, Nat.le_of_ble_eq_true rfl⟩) (x_recv cx hw (ci := 5) rfl 0 rfl) (Ct.all (MC_ll ..)) hl.1 rfl rfl (Nat.le_of_ble_eq_true rfl) dX5_itemHere_1 ⟨Nat.le_of_ble_eq_true rfl, Nat.le_of_ble_eq_true rfl⟩ (st1 := [.int x1]) rfl (fun H locs hw => ?_)
  refine lv_istore_n (lv' := [(1, .int x1), (0, .ref (q 0))]) hx hb dX5_itemHere_4 rfl hl (by decide) rfl (fun ls hl => ?_)
  refine lv_iload_n hx hb dX5_itemHere_5 rfl (lv_at hl 0 rfl) ?_
  refine lv_if_lt (tgt := 15) hx hb dX5_itemHere_6 (by decide) (fun c3 => ?_) (fun c3 => ?_)
  · replace h := ite_t c3 h
    refine lv_aload_n hx hb dX5_itemHere_15 rfl (lv_at hl 1 rfl) ?_
    refine lv_bipush (v := 109) hx hb dX5_itemHere_16 (by decide) ?_
    refine lv_bipush (v := 97) hx hb dX5_itemHere_18 (by decide) ?_
    refine lv_bipush (v := 114) hx hb dX5_itemHere_20 (by decide) ?_
    refine lv_bipush (v := 107) hx hb dX5_itemHere_22 (by decide) ?_
    obtain ⟨x4, g5, h⟩ := bd_ex h
    refine c_V (As := [.int (109 : Int32), .int (97 : Int32), .int (114 : Int32), .int (107 : Int32)]) (rest := []) (w' := (MC g q d)) cx hw (c_X5_isFour l g q N (109 : Int32) (97 : Int32) (114 : Int32) (107 : Int32) d x4 g5) (cl_X5_242 cx.1.2.2.2.2 ⟨Nat.le_of_ble_eq_true rfl, Nat.le_of_ble_eq_true rfl⟩) (x_recv cx hw (ci := 5) rfl 0 rfl) (Ct.all (MC_ll ..)) hl.1 rfl rfl (Nat.le_of_ble_eq_true rfl) dX5_itemHere_24 ⟨Nat.le_of_ble_eq_true rfl, Nat.le_of_ble_eq_true rfl⟩ (st1 := [.int x4]) rfl (fun H locs hw => ?_)
    refine lv_if_eq (tgt := 35) hx hb dX5_itemHere_27 (by decide) (fun c6 => ?_) (fun c6 => ?_)
    · replace h := ite_t c6 h
      refine lv_aload_n hx hb dX5_itemHere_35 rfl (lv_at hl 1 rfl) ?_
      refine lv_iconst (v := 3) hx hb dX5_itemHere_36 (by decide) ?_
      obtain ⟨x7, g8, h⟩ := bd_ex h
      refine c_V (As := [.int (3 : Int32)]) (rest := []) (w' := (MC g q d)) cx hw (c_X5_isWord l g q N (3 : Int32) d x7 g8) (cl_X5_227 cx.1.2.2.2.2 ⟨Nat.le_of_ble_eq_true rfl, Nat.le_of_ble_eq_true rfl⟩) (x_recv cx hw (ci := 5) rfl 0 rfl) (Ct.all (MC_ll ..)) hl.1 rfl rfl (Nat.le_of_ble_eq_true rfl) dX5_itemHere_37 ⟨Nat.le_of_ble_eq_true rfl, Nat.le_of_ble_eq_true rfl⟩ (st1 := [.int x7]) rfl (fun H locs hw => ?_)
      refine lv_if_eq (tgt := 69) hx hb dX5_itemHere_40 (by decide) (fun c9 => ?_) (fun c9 => ?_)
      · replace h := ite_t c9 h
        refine lv_aload_n hx hb dX5_itemHere_69 rfl (lv_at hl 1 rfl) ?_
        obtain ⟨x10, d11, g12, h⟩ := bd2_ex h
        refine c_V (As := []) (rest := []) (w' := (MC g q d11)) cx hw (c_X5_fails l g q N  d x10 d11 g12) (cl_X5_234 cx.1.2.2.2.2 ⟨Nat.le_of_ble_eq_true rfl, Nat.le_of_ble_eq_true rfl⟩) (x_recv cx hw (ci := 5) rfl 0 rfl) (Ct.all (MC_ll ..)) hl.1 rfl rfl (Nat.le_of_ble_eq_true rfl) dX5_itemHere_70 ⟨Nat.le_of_ble_eq_true rfl, Nat.le_of_ble_eq_true rfl⟩ (st1 := [.int x10]) rfl (fun H locs hw => ?_)
        have i13 := ckz_in h
        replace h := ckz_nx h
        exact r_z cx hr hlocks i13 hw (pr1 h) (congrArg (fun z0 => (MC g q z0)) (pr2 h)) dX5_itemHere_73
      · replace h := ite_f c9 h
        refine lv_aload_n hx hb dX5_itemHere_43 rfl (lv_at hl 1 rfl) ?_
        refine lv_iconst (v := 0) hx hb dX5_itemHere_44 (by decide) ?_
        refine lv_bipush (v := 108) hx hb dX5_itemHere_45 (by decide) ?_
        refine lv_bipush (v := 97) hx hb dX5_itemHere_47 (by decide) ?_
        refine lv_bipush (v := 119) hx hb dX5_itemHere_49 (by decide) ?_
        obtain ⟨x14, g15, h⟩ := bd_ex h
        refine c_V (As := [.int (0 : Int32), .int (108 : Int32), .int (97 : Int32), .int (119 : Int32)]) (rest := []) (w' := (MC g q d)) cx hw (c_X5_has3 l g q N (0 : Int32) (108 : Int32) (97 : Int32) (119 : Int32) d x14 g15) (cl_X5_230 cx.1.2.2.2.2 ⟨Nat.le_of_ble_eq_true rfl, Nat.le_of_ble_eq_true rfl⟩) (x_recv cx hw (ci := 5) rfl 0 rfl) (Ct.all (MC_ll ..)) hl.1 rfl rfl (Nat.le_of_ble_eq_true rfl) dX5_itemHere_51 ⟨Nat.le_of_ble_eq_true rfl, Nat.le_of_ble_eq_true rfl⟩ (st1 := [.int x14]) rfl (fun H locs hw => ?_)
        refine lv_if_eq (tgt := 69) hx hb dX5_itemHere_54 (by decide) (fun c16 => ?_) (fun c16 => ?_)
        · replace h := ite_t c16 h
          refine lv_aload_n hx hb dX5_itemHere_69 rfl (lv_at hl 1 rfl) ?_
          obtain ⟨x17, d18, g19, h⟩ := bd2_ex h
          refine c_V (As := []) (rest := []) (w' := (MC g q d18)) cx hw (c_X5_fails l g q N  d x17 d18 g19) (cl_X5_234 cx.1.2.2.2.2 ⟨Nat.le_of_ble_eq_true rfl, Nat.le_of_ble_eq_true rfl⟩) (x_recv cx hw (ci := 5) rfl 0 rfl) (Ct.all (MC_ll ..)) hl.1 rfl rfl (Nat.le_of_ble_eq_true rfl) dX5_itemHere_70 ⟨Nat.le_of_ble_eq_true rfl, Nat.le_of_ble_eq_true rfl⟩ (st1 := [.int x17]) rfl (fun H locs hw => ?_)
          have i20 := ckz_in h
          replace h := ckz_nx h
          exact r_z cx hr hlocks i20 hw (pr1 h) (congrArg (fun z0 => (MC g q z0)) (pr2 h)) dX5_itemHere_73
        · replace h := ite_f c16 h
          refine lv_aload_n hx hb dX5_itemHere_57 rfl (lv_at hl 1 rfl) ?_
          obtain ⟨d21, g22, h⟩ := bd_ex h
          refine c_V (As := []) (rest := []) (w' := (MC g q d21)) cx hw (c_X5_nextToken l g q N  d d21 g22) (cl_X5_238 cx.1.2.2.2.2 ⟨Nat.le_of_ble_eq_true rfl, Nat.le_of_ble_eq_true rfl⟩) (x_recv cx hw (ci := 5) rfl 0 rfl) (Ct.all (MC_ll ..)) hl.1 rfl rfl (Nat.le_of_ble_eq_true rfl) dX5_itemHere_58 ⟨Nat.le_of_ble_eq_true rfl, Nat.le_of_ble_eq_true rfl⟩ (st1 := []) rfl (fun H locs hw => ?_)
          refine lv_aload_n hx hb dX5_itemHere_61 rfl (lv_at hl 1 rfl) ?_
          refine lv_iconst (v := 2) hx hb dX5_itemHere_62 (by decide) ?_
          refine lv_iconst (v := 0) hx hb dX5_itemHere_63 (by decide) ?_
          refine lv_iconst (v := 2) hx hb dX5_itemHere_64 (by decide) ?_
          obtain ⟨x23, d24, g25, h⟩ := bd2_ex h
          refine c_V (As := [.int (2 : Int32), .int (0 : Int32), .int (2 : Int32)]) (rest := []) (w' := (MC g q d24)) cx hw (c_X5_comesTo l g q N (2 : Int32) (0 : Int32) (2 : Int32) d21 x23 d24 g25) (cl_X5_248 cx.1.2.2.2.2 ⟨Nat.le_of_ble_eq_true rfl, Nat.le_of_ble_eq_true rfl⟩) (x_recv cx hw (ci := 5) rfl 0 rfl) (Ct.all (MC_ll ..)) hl.1 rfl rfl (Nat.le_of_ble_eq_true rfl) dX5_itemHere_65 ⟨Nat.le_of_ble_eq_true rfl, Nat.le_of_ble_eq_true rfl⟩ (st1 := [.int x23]) rfl (fun H locs hw => ?_)
          have i26 := ckz_in h
          replace h := ckz_nx h
          exact r_z cx hr hlocks i26 hw (pr1 h) (congrArg (fun z0 => (MC g q z0)) (pr2 h)) dX5_itemHere_68
    · replace h := ite_f c6 h
      refine lv_aload_n hx hb dX5_itemHere_30 rfl (lv_at hl 1 rfl) ?_
      obtain ⟨x27, d28, g29, h⟩ := bd2_ex h
      refine c_V (As := []) (rest := []) (w' := (MC g q d28)) cx hw (c_X5_markHere l g q N  d x27 d28 g29) (cl_X5_261 cx.1.2.2.2.2 ⟨Nat.le_of_ble_eq_true rfl, Nat.le_of_ble_eq_true rfl⟩) (x_recv cx hw (ci := 5) rfl 0 rfl) (Ct.all (MC_ll ..)) hl.1 rfl rfl (Nat.le_of_ble_eq_true rfl) dX5_itemHere_31 ⟨Nat.le_of_ble_eq_true rfl, Nat.le_of_ble_eq_true rfl⟩ (st1 := [.int x27]) rfl (fun H locs hw => ?_)
      have i30 := ckz_in h
      replace h := ckz_nx h
      exact r_z cx hr hlocks i30 hw (pr1 h) (congrArg (fun z0 => (MC g q z0)) (pr2 h)) dX5_itemHere_34
  · replace h := ite_f c3 h
    refine lv_aload_n hx hb dX5_itemHere_9 rfl (lv_at hl 1 rfl) ?_
    refine lv_iload_n hx hb dX5_itemHere_10 rfl (lv_at hl 0 rfl) ?_
    obtain ⟨x31, d32, g33, h⟩ := bd2_ex h
    refine c_V (As := [.int x1]) (rest := []) (w' := (MC g q d32)) cx hw (c_X5_personHere l g q N x1 d x31 d32 g33) (cl_X5_258 cx.1.2.2.2.2 ⟨Nat.le_of_ble_eq_true rfl, Nat.le_of_ble_eq_true rfl⟩) (x_recv cx hw (ci := 5) rfl 0 rfl) (Ct.all (MC_ll ..)) hl.1 rfl rfl (Nat.le_of_ble_eq_true rfl) dX5_itemHere_11 ⟨Nat.le_of_ble_eq_true rfl, Nat.le_of_ble_eq_true rfl⟩ (st1 := [.int x31]) rfl (fun H locs hw => ?_)
    have i34 := ckz_in h
    replace h := ckz_nx h
    exact r_z cx hr hlocks i34 hw (pr1 h) (congrArg (fun z0 => (MC g q z0)) (pr2 h)) dX5_itemHere_14
set_option maxHeartbeats 4000000 in
set_option maxRecDepth 100000 in
theorem c_X5_valley (l : Launch) (g : gE) (q : Nat → Nat) (N : Nat)  (d : MD) (r : Int32) (d' : MD) (h : f_X5_valley N  d = some (r, d')) : MO l yX5_valley (Cond.code yX5_valley cX5_valley 3 (some .int) :: TB) rm_X5_valley [.ref (q 0)] g ((MC g q d)) ((MC g q d')) (some (.int r)) 0 0 := by
  refine MO.of (cc := cX5_valley) (maxL := 3) (ret := (some .int)) (by decide) ?_
  intro p e s m below meth c cx hw hr hlocks _
  have hx := cx.1.1
  have hb := cx.1.2.1
  refine en_go (lv := [(0, .ref (q 0))]) (Nat.le_of_ble_eq_true rfl) rfl (fun ls hl => ?_)
  have J98 : ∀ (a1 : Int32) (a2 : Int32) (d_ : MD) (H : Heap) (locs : List Loc) (ls : Array Slot), Wd g (va_A ((MC g q d)) s.heap.size) ((MC g q d_)) s H locs → lv_has ls 3 [(0, .ref (q 0)), (1, .int a1), (2, .int a2)] → f_X5_valley_J98 N   a1 a2 d_ = some (r, d') → W p l e rm_X5_valley s m ([.ref (q 0)] : List Value).toArray below meth c H locs 0 0 (MQ below (QO (some (.int r)) g ((MC g q d')) (va_A ((MC g q d)) s.heap.size)) ([.ref (q 0)] : List Value).toArray s 0 0 (va_A ((MC g q d)) s.heap.size)) (F0 m 98 ls []) := by
    intro a1 a2 d_ H locs ls hw hl h
    unfold f_X5_valley_J98 at h
    refine lv_iload_n hx hb dX5_valley_98 rfl (lv_at hl 2 rfl) ?_
    refine lv_if_eq (tgt := 106) hx hb dX5_valley_99 (by decide) (fun c30 => ?_) (fun c30 => ?_)
    · replace h := ite_t c30 h
      refine lv_iconst (v := -1) hx hb dX5_valley_106 (by decide) ?_
      refine lv_aload_n hx hb dX5_valley_107 rfl (lv_at hl 0 rfl) ?_
      refine gf_X5_224 cx hw 0 rfl rfl dX5_valley_108 ?_
      refine lv_isub hx hb dX5_valley_111 ?_
      exact r_i cx hr hlocks hw (pr1 h) (congrArg (fun z0 => (MC g q z0)) (pr2 h)) dX5_valley_112
    · replace h := ite_f c30 h
      refine lv_iload_n hx hb dX5_valley_102 rfl (lv_at hl 1 rfl) ?_
      refine lv_goto (tgt := 112) hx hb dX5_valley_103 (by decide) ?_
      exact r_i cx hr hlocks hw (pr1 h) (congrArg (fun z0 => (MC g q z0)) (pr2 h)) dX5_valley_112
  have J77 : ∀ (a1 : Int32) (t0 : Int32) (d_ : MD) (H : Heap) (locs : List Loc) (ls : Array Slot), Wd g (va_A ((MC g q d)) s.heap.size) ((MC g q d_)) s H locs → lv_has ls 3 [(0, .ref (q 0)), (1, .int a1)] → f_X5_valley_J77 N   a1 t0 d_ = some (r, d') → W p l e rm_X5_valley s m ([.ref (q 0)] : List Value).toArray below meth c H locs 0 0 (MQ below (QO (some (.int r)) g ((MC g q d')) (va_A ((MC g q d)) s.heap.size)) ([.ref (q 0)] : List Value).toArray s 0 0 (va_A ((MC g q d)) s.heap.size)) (F0 m 77 ls [.int t0]) := by
    intro a1 t0 d_ H locs ls hw hl h
    unfold f_X5_valley_J77 at h
    refine lv_istore_n (lv' := [(2, .int t0), (0, .ref (q 0)), (1, .int a1)]) hx hb dX5_valley_77 rfl hl (by decide) rfl (fun ls hl => ?_)
    refine lv_aload_n hx hb dX5_valley_78 rfl (lv_at hl 1 rfl) ?_
    refine lv_iconst (v := 0) hx hb dX5_valley_79 (by decide) ?_
    refine pf_X5_198 cx hw 0 rfl rfl rfl (Nat.le_of_ble_eq_true rfl) dX5_valley_80 (fun H locs hw => ?_)
    obtain ⟨d31, ed31, h⟩ := lt_ex h
    have hw : Wd g (va_A ((MC g q d)) s.heap.size) ((MC g q d31)) s H locs := by rw [ed31]; exact hw
    refine lv_iload_n hx hb dX5_valley_83 rfl (lv_at hl 0 rfl) ?_
    refine lv_if_ne (tgt := 98) hx hb dX5_valley_84 (by decide) (fun c32 => ?_) (fun c32 => ?_)
    · replace h := ite_f c32 h
      exact J98 a1 t0 d31 _ _ _ hw (lv_sub hl [1, 2, 0] rfl) h
    · replace h := ite_t c32 h
      refine lv_aload_n hx hb dX5_valley_87 rfl (lv_at hl 1 rfl) ?_
      refine gf_X5_19 cx hw 0 rfl rfl dX5_valley_88 ?_
      refine lv_aload_n hx hb dX5_valley_91 rfl (lv_at hl 1 rfl) ?_
      refine gf_X5_7 cx hw 0 rfl rfl dX5_valley_92 ?_
      obtain ⟨f33, g34, h⟩ := bd_ex h
      refine c_S (As := [.ref (q 4), .ref (q 1)]) (rest := []) (w' := (MC g q (m_set_s d31 f33))) cx hw (c_X5_copyRow l g (q 4) (q 1) N  (m_before d31) (m_s d31) f33 g34) (cl_X5_166 cx.1.2.2.2.2 ⟨Nat.le_of_ble_eq_true rfl, Nat.le_of_ble_eq_true rfl⟩) (ct_M__4_1__A_A_1 g q d31 f33) hl.1 rfl rfl (Nat.le_of_ble_eq_true rfl) dX5_valley_95 ⟨Nat.le_of_ble_eq_true rfl, Nat.le_of_ble_eq_true rfl⟩ (st1 := []) rfl (fun H locs hw => ?_)
      obtain ⟨d35, ed35, h⟩ := lt_ex h
      have hw : Wd g (va_A ((MC g q d)) s.heap.size) ((MC g q d35)) s H locs := by rw [ed35]; exact hw
      exact J98 a1 t0 d35 _ _ _ hw (lv_sub hl [1, 2, 0] rfl) h
  have J76 : ∀ (a1 : Int32) (d_ : MD) (H : Heap) (locs : List Loc) (ls : Array Slot), Wd g (va_A ((MC g q d)) s.heap.size) ((MC g q d_)) s H locs → lv_has ls 3 [(0, .ref (q 0)), (1, .int a1)] → f_X5_valley_J76 N   a1 d_ = some (r, d') → W p l e rm_X5_valley s m ([.ref (q 0)] : List Value).toArray below meth c H locs 0 0 (MQ below (QO (some (.int r)) g ((MC g q d')) (va_A ((MC g q d)) s.heap.size)) ([.ref (q 0)] : List Value).toArray s 0 0 (va_A ((MC g q d)) s.heap.size)) (F0 m 76 ls []) := by
    intro a1 d_ H locs ls hw hl h
    unfold f_X5_valley_J76 at h
    refine lv_iconst (v := 0) hx hb dX5_valley_76 (by decide) ?_
    exact J77 a1 (0 : Int32) d_ _ _ _ hw (lv_sub hl [0, 1] rfl) h
  have J72 : ∀ (a1 : Int32) (d_ : MD) (H : Heap) (locs : List Loc) (ls : Array Slot), Wd g (va_A ((MC g q d)) s.heap.size) ((MC g q d_)) s H locs → lv_has ls 3 [(0, .ref (q 0)), (1, .int a1)] → f_X5_valley_J72 N   a1 d_ = some (r, d') → W p l e rm_X5_valley s m ([.ref (q 0)] : List Value).toArray below meth c H locs 0 0 (MQ below (QO (some (.int r)) g ((MC g q d')) (va_A ((MC g q d)) s.heap.size)) ([.ref (q 0)] : List Value).toArray s 0 0 (va_A ((MC g q d)) s.heap.size)) (F0 m 72 ls []) := by
    intro a1 d_ H locs ls hw hl h
    unfold f_X5_valley_J72 at h
    refine lv_iconst (v := 1) hx hb dX5_valley_72 (by decide) ?_
    refine lv_goto (tgt := 77) hx hb dX5_valley_73 (by decide) ?_
    exact J77 a1 (1 : Int32) d_ _ _ _ hw (lv_sub hl [0, 1] rfl) h
  have J54 : ∀ (a1 : Int32) (a2 : Int32) (d_ : MD) (H : Heap) (locs : List Loc) (ls : Array Slot), Wd g (va_A ((MC g q d)) s.heap.size) ((MC g q d_)) s H locs → lv_has ls 3 [(0, .ref (q 0)), (1, .int a1), (2, .int a2)] → f_X5_valley_J54 N   a1 a2 d_ = some (r, d') → W p l e rm_X5_valley s m ([.ref (q 0)] : List Value).toArray below meth c H locs 0 0 (MQ below (QO (some (.int r)) g ((MC g q d')) (va_A ((MC g q d)) s.heap.size)) ([.ref (q 0)] : List Value).toArray s 0 0 (va_A ((MC g q d)) s.heap.size)) (F0 m 54 ls []) := by
    intro a1 a2 d_ H locs ls hw hl h
    unfold f_X5_valley_J54 at h
    refine lv_iload_n hx hb dX5_valley_54 rfl (lv_at hl 2 rfl) ?_
    refine lv_if_eq (tgt := 76) hx hb dX5_valley_55 (by decide) (fun c36 => ?_) (fun c36 => ?_)
    · replace h := ite_t c36 h
      exact J76 a1 d_ _ _ _ hw (lv_sub hl [0, 1] rfl) h
    · replace h := ite_f c36 h
      refine lv_aload_n hx hb dX5_valley_58 rfl (lv_at hl 0 rfl) ?_
      refine gf_X5_216 cx hw 0 rfl rfl dX5_valley_59 ?_
      refine lv_if_eq (tgt := 72) hx hb dX5_valley_62 (by decide) (fun c37 => ?_) (fun c37 => ?_)
      · replace h := ite_t c37 h
        exact J72 a1 d_ _ _ _ hw (lv_sub hl [0, 1] rfl) h
      · replace h := ite_f c37 h
        refine lv_aload_n hx hb dX5_valley_65 rfl (lv_at hl 0 rfl) ?_
        obtain ⟨x38, d39, g40, h⟩ := bd2_ex h
        refine c_V (As := []) (rest := []) (w' := (MC g q d39)) cx hw (c_X5_fails l g q N  d_ x38 d39 g40) (cl_X5_234 cx.1.2.2.2.2 ⟨Nat.le_of_ble_eq_true rfl, Nat.le_of_ble_eq_true rfl⟩) (x_recv cx hw (ci := 5) rfl 0 rfl) (Ct.all (MC_ll ..)) hl.1 rfl rfl (Nat.le_of_ble_eq_true rfl) dX5_valley_66 ⟨Nat.le_of_ble_eq_true rfl, Nat.le_of_ble_eq_true rfl⟩ (st1 := [.int x38]) rfl (fun H locs hw => ?_)
        refine lv_if_eq (tgt := 76) hx hb dX5_valley_69 (by decide) (fun c41 => ?_) (fun c41 => ?_)
        · replace h := ite_t c41 h
          exact J76 a1 d39 _ _ _ hw (lv_sub hl [0, 1] rfl) h
        · replace h := ite_f c41 h
          exact J72 a1 d39 _ _ _ hw (lv_sub hl [0, 1] rfl) h
  have L27 : ∀ (n27 : Nat) (a1 : Int32) (a2 : Int32) (d_ : MD) (H : Heap) (locs : List Loc) (ls : Array Slot), Wd g (va_A ((MC g q d)) s.heap.size) ((MC g q d_)) s H locs → lv_has ls 3 [(0, .ref (q 0)), (1, .int a1), (2, .int a2)] → f_X5_valley_L27 N   n27 a1 a2 d_ = some (r, d') → W p l e rm_X5_valley s m ([.ref (q 0)] : List Value).toArray below meth c H locs 0 0 (MQ below (QO (some (.int r)) g ((MC g q d')) (va_A ((MC g q d)) s.heap.size)) ([.ref (q 0)] : List Value).toArray s 0 0 (va_A ((MC g q d)) s.heap.size)) (F0 m 27 ls []) := by
    intro n27
    induction n27 with
    | zero => intro a1 a2 d_ H locs ls hw hl h; exact (Option.some_ne_none _ h.symm).elim
    | succ n27 ih27 =>
      intro a1 a2 d_ H locs ls hw hl h
      rw [f_X5_valley_L27] at h
      refine lv_iload_n hx hb dX5_valley_27 rfl (lv_at hl 2 rfl) ?_
      refine lv_if_eq (tgt := 54) hx hb dX5_valley_28 (by decide) (fun c42 => ?_) (fun c42 => ?_)
      · replace h := ite_t c42 h
        exact J54 a1 a2 d_ _ _ _ hw (lv_sub hl [0, 1, 2] rfl) h
      · replace h := ite_f c42 h
        refine lv_aload_n hx hb dX5_valley_31 rfl (lv_at hl 0 rfl) ?_
        refine gf_X5_216 cx hw 0 rfl rfl dX5_valley_32 ?_
        refine lv_iconst (v := 3) hx hb dX5_valley_35 (by decide) ?_
        refine lv_icmp_ne (tgt := 54) hx hb dX5_valley_36 (by decide) (fun c43 => ?_) (fun c43 => ?_)
        · replace h := ite_f c43 h
          exact J54 a1 a2 d_ _ _ _ hw (lv_sub hl [0, 1, 2] rfl) h
        · replace h := ite_t c43 h
          refine lv_aload_n hx hb dX5_valley_39 rfl (lv_at hl 0 rfl) ?_
          obtain ⟨d44, g45, h⟩ := bd_ex h
          refine c_V (As := []) (rest := []) (w' := (MC g q d44)) cx hw (c_X5_nextToken l g q N  d_ d44 g45) (cl_X5_238 cx.1.2.2.2.2 ⟨Nat.le_of_ble_eq_true rfl, Nat.le_of_ble_eq_true rfl⟩) (x_recv cx hw (ci := 5) rfl 0 rfl) (Ct.all (MC_ll ..)) hl.1 rfl rfl (Nat.le_of_ble_eq_true rfl) dX5_valley_40 ⟨Nat.le_of_ble_eq_true rfl, Nat.le_of_ble_eq_true rfl⟩ (st1 := []) rfl (fun H locs hw => ?_)
          refine lv_aload_n hx hb dX5_valley_43 rfl (lv_at hl 0 rfl) ?_
          obtain ⟨x46, d47, g48, h⟩ := bd2_ex h
          refine c_V (As := []) (rest := []) (w' := (MC g q d47)) cx hw (c_X5_itemHere l g q N  d44 x46 d47 g48) (cl_X5_264 cx.1.2.2.2.2 ⟨Nat.le_of_ble_eq_true rfl, Nat.le_of_ble_eq_true rfl⟩) (x_recv cx hw (ci := 5) rfl 0 rfl) (Ct.all (MC_ll ..)) hl.1 rfl rfl (Nat.le_of_ble_eq_true rfl) dX5_valley_44 ⟨Nat.le_of_ble_eq_true rfl, Nat.le_of_ble_eq_true rfl⟩ (st1 := [.int x46]) rfl (fun H locs hw => ?_)
          refine lv_istore_n (lv' := [(2, .int x46), (0, .ref (q 0)), (1, .int a1)]) hx hb dX5_valley_47 rfl hl (by decide) rfl (fun ls hl => ?_)
          obtain ⟨x49, ex49⟩ : ∃ y : Int32, y = (a1 + 1) := ⟨_, rfl⟩
          replace h := lt_nx ex49 h
          refine lv_iinc (v := x49) (lv' := [(1, .int x49), (2, .int x46), (0, .ref (q 0))]) hx hb dX5_valley_48 hl (k := 2) rfl (by rw [ex49]; rfl) (by decide) rfl (fun ls hl => ?_)
          refine lv_goto (tgt := 27) hx hb dX5_valley_51 (by decide) ?_
          exact ih27 x49 x46 d47 _ _ _ hw (lv_sub hl [2, 0, 1] rfl) h
  unfold f_X5_valley at h
  refine lv_aload_n hx hb dX5_valley_0 rfl (lv_at hl 0 rfl) ?_
  refine gf_X5_7 cx hw 0 rfl rfl dX5_valley_1 ?_
  refine lv_aload_n hx hb dX5_valley_4 rfl (lv_at hl 0 rfl) ?_
  refine gf_X5_19 cx hw 0 rfl rfl dX5_valley_5 ?_
  obtain ⟨f1, g2, h⟩ := bd_ex h
  refine c_S (As := [.ref (q 1), .ref (q 4)]) (rest := []) (w' := (MC g q (m_set_before d f1))) cx hw (c_X5_copyRow l g (q 1) (q 4) N  (m_s d) (m_before d) f1 g2) (cl_X5_166 cx.1.2.2.2.2 ⟨Nat.le_of_ble_eq_true rfl, Nat.le_of_ble_eq_true rfl⟩) (ct_M__1_4__A_A_1 g q d f1) hl.1 rfl rfl (Nat.le_of_ble_eq_true rfl) dX5_valley_8 ⟨Nat.le_of_ble_eq_true rfl, Nat.le_of_ble_eq_true rfl⟩ (st1 := []) rfl (fun H locs hw => ?_)
  obtain ⟨d3, ed3, h⟩ := lt_ex h
  have hw : Wd g (va_A ((MC g q d)) s.heap.size) ((MC g q d3)) s H locs := by rw [ed3]; exact hw
  refine lv_aload_n hx hb dX5_valley_11 rfl (lv_at hl 0 rfl) ?_
  refine lv_iconst (v := 0) hx hb dX5_valley_12 (by decide) ?_
  refine pf_X5_201 cx hw 0 rfl rfl rfl (Nat.le_of_ble_eq_true rfl) dX5_valley_13 (fun H locs hw => ?_)
  obtain ⟨d4, ed4, h⟩ := lt_ex h
  have hw : Wd g (va_A ((MC g q d)) s.heap.size) ((MC g q d4)) s H locs := by rw [ed4]; exact hw
  refine lv_aload_n hx hb dX5_valley_16 rfl (lv_at hl 0 rfl) ?_
  obtain ⟨d5, g6, h⟩ := bd_ex h
  refine c_V (As := []) (rest := []) (w' := (MC g q d5)) cx hw (c_X5_nextToken l g q N  d4 d5 g6) (cl_X5_238 cx.1.2.2.2.2 ⟨Nat.le_of_ble_eq_true rfl, Nat.le_of_ble_eq_true rfl⟩) (x_recv cx hw (ci := 5) rfl 0 rfl) (Ct.all (MC_ll ..)) hl.1 rfl rfl (Nat.le_of_ble_eq_true rfl) dX5_valley_17 ⟨Nat.le_of_ble_eq_true rfl, Nat.le_of_ble_eq_true rfl⟩ (st1 := []) rfl (fun H locs hw => ?_)
  refine lv_iconst (v := 1) hx hb dX5_valley_20 (by decide) ?_
  refine lv_istore_n (lv' := [(1, .int (1 : Int32)), (0, .ref (q 0))]) hx hb dX5_valley_21 rfl hl (by decide) rfl (fun ls hl => ?_)
  refine lv_aload_n hx hb dX5_valley_22 rfl (lv_at hl 1 rfl) ?_
  obtain ⟨x7, d8, g9, h⟩ := bd2_ex h
  refine c_V (As := []) (rest := []) (w' := (MC g q d8)) cx hw (c_X5_itemHere l g q N  d5 x7 d8 g9) (cl_X5_264 cx.1.2.2.2.2 ⟨Nat.le_of_ble_eq_true rfl, Nat.le_of_ble_eq_true rfl⟩) (x_recv cx hw (ci := 5) rfl 0 rfl) (Ct.all (MC_ll ..)) hl.1 rfl rfl (Nat.le_of_ble_eq_true rfl) dX5_valley_23 ⟨Nat.le_of_ble_eq_true rfl, Nat.le_of_ble_eq_true rfl⟩ (st1 := [.int x7]) rfl (fun H locs hw => ?_)
  refine lv_istore_n (lv' := [(2, .int x7), (1, .int (1 : Int32)), (0, .ref (q 0))]) hx hb dX5_valley_26 rfl hl (by decide) rfl (fun ls hl => ?_)
  exact L27 N (1 : Int32) x7 d8 _ _ _ hw (lv_sub hl [2, 1, 0] rfl) h
set_option maxHeartbeats 4000000 in
set_option maxRecDepth 100000 in
theorem c_X5_isSheet (l : Launch) (g : gE)  (N : Nat) (p0 : Int32)  (r : Int32) (h : f_X5_isSheet N  p0 = some r) : MO l yX5_isSheet (Cond.code yX5_isSheet cX5_isSheet 1 (some .boolean) :: TB) rm_X5_isSheet [.int p0] g (([] : va_W)) (([] : va_W)) (some (.int r)) 0 0 := by
  refine MO.of (cc := cX5_isSheet) (maxL := 1) (ret := (some .boolean)) (by decide) ?_
  intro p e s m below meth c cx hw hr hlocks _
  have hx := cx.1.1
  have hb := cx.1.2.1
  refine en_go (lv := [(0, .int p0)]) (Nat.le_of_ble_eq_true rfl) rfl (fun ls hl => ?_)
  unfold f_X5_isSheet at h
  refine lv_iload_n hx hb dX5_isSheet_0 rfl (lv_at hl 0 rfl) ?_
  refine lv_if_lt (tgt := 13) hx hb dX5_isSheet_1 (by decide) (fun c1 => ?_) (fun c1 => ?_)
  · replace h := ite_t c1 h
    refine lv_iconst (v := 0) hx hb dX5_isSheet_13 (by decide) ?_
    exact r_z cx hr hlocks rfl hw (sm_eq h) rfl dX5_isSheet_14
  · replace h := ite_f c1 h
    refine lv_iload_n hx hb dX5_isSheet_4 rfl (lv_at hl 0 rfl) ?_
    refine lv_iconst (v := 4) hx hb dX5_isSheet_5 (by decide) ?_
    refine lv_icmp_ge (tgt := 13) hx hb dX5_isSheet_6 (by decide) (fun c2 => ?_) (fun c2 => ?_)
    · replace h := ite_t c2 h
      refine lv_iconst (v := 0) hx hb dX5_isSheet_13 (by decide) ?_
      exact r_z cx hr hlocks rfl hw (sm_eq h) rfl dX5_isSheet_14
    · replace h := ite_f c2 h
      refine lv_iconst (v := 1) hx hb dX5_isSheet_9 (by decide) ?_
      refine lv_goto (tgt := 14) hx hb dX5_isSheet_10 (by decide) ?_
      exact r_z cx hr hlocks rfl hw (sm_eq h) rfl dX5_isSheet_14
set_option maxHeartbeats 4000000 in
set_option maxRecDepth 100000 in
theorem c_X5_narrow (l : Launch) (g : gE)  (N : Nat) (p0 : Int32) (p1 : Int64)  (r : Int64) (h : f_X5_narrow N  p0 p1 = some r) : MO l yX5_narrow (Cond.code yX5_narrow cX5_narrow 3 (some .long) :: TB) rm_X5_narrow [.int p0, .long p1] g (([] : va_W)) (([] : va_W)) (some (.long r)) 0 0 := by
  refine MO.of (cc := cX5_narrow) (maxL := 3) (ret := (some .long)) (by decide) ?_
  intro p e s m below meth c cx hw hr hlocks _
  have hx := cx.1.1
  have hb := cx.1.2.1
  refine en_go (lv := [(0, .int p0), (1, .long p1)]) (Nat.le_of_ble_eq_true rfl) rfl (fun ls hl => ?_)
  unfold f_X5_narrow at h
  refine lv_iload_n hx hb dX5_narrow_0 rfl (lv_at hl 0 rfl) ?_
  refine lv_bipush (v := 8) hx hb dX5_narrow_1 (by decide) ?_
  refine lv_icmp_ne (tgt := 13) hx hb dX5_narrow_3 (by decide) (fun c1 => ?_) (fun c1 => ?_)
  · replace h := ite_f c1 h
    refine lv_iload_n hx hb dX5_narrow_13 rfl (lv_at hl 0 rfl) ?_
    refine lv_bipush (v := 16) hx hb dX5_narrow_14 (by decide) ?_
    refine lv_icmp_ne (tgt := 26) hx hb dX5_narrow_16 (by decide) (fun c2 => ?_) (fun c2 => ?_)
    · replace h := ite_f c2 h
      refine lv_lload_n hx hb dX5_narrow_26 rfl (lv_at hl 1 rfl) ?_
      exact r_l cx hr hlocks hw (sm_eq h) rfl dX5_narrow_27
    · replace h := ite_t c2 h
      refine lv_lload_n hx hb dX5_narrow_19 rfl (lv_at hl 1 rfl) ?_
      refine lv_l2i hx hb dX5_narrow_20 rfl ?_
      refine lv_i2s hx hb dX5_narrow_21 rfl ?_
      refine lv_i2l hx hb dX5_narrow_22 rfl ?_
      refine lv_goto (tgt := 27) hx hb dX5_narrow_23 (by decide) ?_
      exact r_l cx hr hlocks hw (sm_eq h) rfl dX5_narrow_27
  · replace h := ite_t c1 h
    refine lv_lload_n hx hb dX5_narrow_6 rfl (lv_at hl 1 rfl) ?_
    refine lv_l2i hx hb dX5_narrow_7 rfl ?_
    refine lv_i2b hx hb dX5_narrow_8 rfl ?_
    refine lv_i2l hx hb dX5_narrow_9 rfl ?_
    refine lv_goto (tgt := 27) hx hb dX5_narrow_10 (by decide) ?_
    exact r_l cx hr hlocks hw (sm_eq h) rfl dX5_narrow_27
set_option maxHeartbeats 4000000 in
set_option maxRecDepth 100000 in
theorem c_X5_sheet (l : Launch) (g : gE) (q : Nat → Nat) (N : Nat) (p1 : Int32) (p2 : Int32) (p3 : Int32) (d : MD) (r : Int32) (d' : MD) (h : f_X5_sheet N  p1 p2 p3 d = some (r, d')) : MO l yX5_sheet (Cond.code yX5_sheet cX5_sheet 5 (some .int) :: TB) rm_X5_sheet [.ref (q 0), .int p1, .int p2, .int p3] g ((MC g q d)) ((MC g q d')) (some (.int r)) 0 0 := by
  refine MO.of (cc := cX5_sheet) (maxL := 5) (ret := (some .int)) (by decide) ?_
  intro p e s m below meth c cx hw hr hlocks _
  have hx := cx.1.1
  have hb := cx.1.2.1
  refine en_go (lv := [(0, .ref (q 0)), (1, .int p1), (2, .int p2), (3, .int p3)]) (Nat.le_of_ble_eq_true rfl) rfl (fun ls hl => ?_)
  have L94 : ∀ (n94 : Nat) (a1 : Int32) (a4 : Int32) (d_ : MD) (H : Heap) (locs : List Loc) (ls : Array Slot), Wd g (va_A ((MC g q d)) s.heap.size) ((MC g q d_)) s H locs → lv_has ls 5 [(0, .ref (q 0)), (1, .int a1), (4, .int a4)] → f_X5_sheet_L94 N   n94 a1 a4 d_ = some (r, d') → W p l e rm_X5_sheet s m ([.ref (q 0), .int p1, .int p2, .int p3] : List Value).toArray below meth c H locs 0 0 (MQ below (QO (some (.int r)) g ((MC g q d')) (va_A ((MC g q d)) s.heap.size)) ([.ref (q 0), .int p1, .int p2, .int p3] : List Value).toArray s 0 0 (va_A ((MC g q d)) s.heap.size)) (F0 m 94 ls []) := by
    intro n94
    induction n94 with
    | zero => intro a1 a4 d_ H locs ls hw hl h; exact (Option.some_ne_none _ h.symm).elim
    | succ n94 ih94 =>
      intro a1 a4 d_ H locs ls hw hl h
      rw [f_X5_sheet_L94] at h
      refine lv_iload hx hb dX5_sheet_94 (lv_at hl 2 rfl) ?_
      refine lv_bipush (v := 40) hx hb dX5_sheet_96 (by decide) ?_
      refine lv_icmp_ge (tgt := 120) hx hb dX5_sheet_98 (by decide) (fun c35 => ?_) (fun c35 => ?_)
      · replace h := ite_t c35 h
        refine lv_aload_n hx hb dX5_sheet_120 rfl (lv_at hl 0 rfl) ?_
        refine gf_X5_31 cx hw 0 rfl rfl dX5_sheet_121 ?_
        refine lv_iload_n hx hb dX5_sheet_124 rfl (lv_at hl 1 rfl) ?_
        have ix36 := rd_in h
        refine x_iald cx hw 8 rfl ix36 dX5_sheet_125 ?_
        refine lv_topi (fun x36 ex36 => ?_)
        replace h := rd_nx ex36 h
        exact r_i cx hr hlocks hw (pr1 h) (congrArg (fun z0 => (MC g q z0)) (pr2 h)) dX5_sheet_126
      · replace h := ite_f c35 h
        refine lv_aload_n hx hb dX5_sheet_101 rfl (lv_at hl 0 rfl) ?_
        refine gf_X5_34 cx hw 0 rfl rfl dX5_sheet_102 ?_
        refine lv_bipush (v := 40) hx hb dX5_sheet_105 (by decide) ?_
        refine lv_iload_n hx hb dX5_sheet_107 rfl (lv_at hl 1 rfl) ?_
        refine lv_imul hx hb dX5_sheet_108 ?_
        refine lv_iload hx hb dX5_sheet_109 (lv_at hl 2 rfl) ?_
        refine lv_iadd hx hb dX5_sheet_111 ?_
        refine lv_lconst (v := 0) hx hb dX5_sheet_112 (by decide) ?_
        have i37 := ck_in h
        replace h := ck_nx h
        refine x_last cx hw 9 rfl i37 dX5_sheet_113 (fun H locs hw => ?_)
        obtain ⟨d38, ed38, h⟩ := lt_ex h
        have hw : Wd g (va_A ((MC g q d)) s.heap.size) ((MC g q d38)) s H locs := by rw [ed38]; exact hw
        obtain ⟨x39, ex39⟩ : ∃ y : Int32, y = (a4 + 1) := ⟨_, rfl⟩
        replace h := lt_nx ex39 h
        refine lv_iinc (v := x39) (lv' := [(4, .int x39), (0, .ref (q 0)), (1, .int a1)]) hx hb dX5_sheet_114 hl (k := 2) rfl (by rw [ex39]; rfl) (by decide) rfl (fun ls hl => ?_)
        refine lv_goto (tgt := 94) hx hb dX5_sheet_117 (by decide) ?_
        exact ih94 a1 x39 d38 _ _ _ hw (lv_sub hl [1, 2, 0] rfl) h
  have J75 : ∀ (a1 : Int32) (a2 : Int32) (a3 : Int32) (t1 : Int32) (t2 : Int32) (d_ : MD) (H : Heap) (locs : List Loc) (ls : Array Slot), Wd g (va_A ((MC g q d)) s.heap.size) ((MC g q d_)) s H locs → lv_has ls 5 [(0, .ref (q 0)), (1, .int a1), (2, .int a2), (3, .int a3)] → f_X5_sheet_J75 N   a1 a2 a3 t1 t2 d_ = some (r, d') → W p l e rm_X5_sheet s m ([.ref (q 0), .int p1, .int p2, .int p3] : List Value).toArray below meth c H locs 0 0 (MQ below (QO (some (.int r)) g ((MC g q d')) (va_A ((MC g q d)) s.heap.size)) ([.ref (q 0), .int p1, .int p2, .int p3] : List Value).toArray s 0 0 (va_A ((MC g q d)) s.heap.size)) (F0 m 75 ls [.int t2, .int t1, .ref (q 7)]) := by
    intro a1 a2 a3 t1 t2 d_ H locs ls hw hl h
    unfold f_X5_sheet_J75 at h
    have i40 := ck_in h
    replace h := ck_nx h
    refine x_iast cx hw 7 rfl i40 dX5_sheet_75 (fun H locs hw => ?_)
    obtain ⟨d41, ed41, h⟩ := lt_ex h
    have hw : Wd g (va_A ((MC g q d)) s.heap.size) ((MC g q d41)) s H locs := by rw [ed41]; exact hw
    refine lv_aload_n hx hb dX5_sheet_76 rfl (lv_at hl 0 rfl) ?_
    refine gf_X5_31 cx hw 0 rfl rfl dX5_sheet_77 ?_
    refine lv_iload_n hx hb dX5_sheet_80 rfl (lv_at hl 1 rfl) ?_
    refine lv_iload_n hx hb dX5_sheet_81 rfl (lv_at hl 2 rfl) ?_
    refine lv_if_ne (tgt := 89) hx hb dX5_sheet_82 (by decide) (fun c42 => ?_) (fun c42 => ?_)
    · replace h := ite_f c42 h
      refine lv_iload_n hx hb dX5_sheet_89 rfl (lv_at hl 3 rfl) ?_
      have i43 := ck_in h
      replace h := ck_nx h
      refine x_iast cx hw 8 rfl i43 dX5_sheet_90 (fun H locs hw => ?_)
      obtain ⟨d44, ed44, h⟩ := lt_ex h
      have hw : Wd g (va_A ((MC g q d)) s.heap.size) ((MC g q d44)) s H locs := by rw [ed44]; exact hw
      refine lv_iconst (v := 0) hx hb dX5_sheet_91 (by decide) ?_
      refine lv_istore (lv' := [(4, .int (0 : Int32)), (0, .ref (q 0)), (1, .int a1), (2, .int a2), (3, .int a3)]) hx hb dX5_sheet_92 hl (by decide) rfl (fun ls hl => ?_)
      exact L94 N a1 (0 : Int32) d44 _ _ _ hw (lv_sub hl [1, 2, 0] rfl) h
    · replace h := ite_t c42 h
      refine lv_iconst (v := 0) hx hb dX5_sheet_85 (by decide) ?_
      refine lv_goto (tgt := 90) hx hb dX5_sheet_86 (by decide) ?_
      have i45 := ck_in h
      replace h := ck_nx h
      refine x_iast cx hw 8 rfl i45 dX5_sheet_90 (fun H locs hw => ?_)
      obtain ⟨d46, ed46, h⟩ := lt_ex h
      have hw : Wd g (va_A ((MC g q d)) s.heap.size) ((MC g q d46)) s H locs := by rw [ed46]; exact hw
      refine lv_iconst (v := 0) hx hb dX5_sheet_91 (by decide) ?_
      refine lv_istore (lv' := [(4, .int (0 : Int32)), (0, .ref (q 0)), (1, .int a1), (2, .int a2), (3, .int a3)]) hx hb dX5_sheet_92 hl (by decide) rfl (fun ls hl => ?_)
      exact L94 N a1 (0 : Int32) d46 _ _ _ hw (lv_sub hl [1, 2, 0] rfl) h
  have J36 : ∀ (a1 : Int32) (a2 : Int32) (a3 : Int32) (d_ : MD) (H : Heap) (locs : List Loc) (ls : Array Slot), Wd g (va_A ((MC g q d)) s.heap.size) ((MC g q d_)) s H locs → lv_has ls 5 [(0, .ref (q 0)), (1, .int a1), (2, .int a2), (3, .int a3)] → f_X5_sheet_J36 N   a1 a2 a3 d_ = some (r, d') → W p l e rm_X5_sheet s m ([.ref (q 0), .int p1, .int p2, .int p3] : List Value).toArray below meth c H locs 0 0 (MQ below (QO (some (.int r)) g ((MC g q d')) (va_A ((MC g q d)) s.heap.size)) ([.ref (q 0), .int p1, .int p2, .int p3] : List Value).toArray s 0 0 (va_A ((MC g q d)) s.heap.size)) (F0 m 36 ls []) := by
    intro a1 a2 a3 d_ H locs ls hw hl h
    unfold f_X5_sheet_J36 at h
    refine lv_iload_n hx hb dX5_sheet_36 rfl (lv_at hl 3 rfl) ?_
    refine lv_if_ge (tgt := 48) hx hb dX5_sheet_37 (by decide) (fun c47 => ?_) (fun c47 => ?_)
    · replace h := ite_t c47 h
      refine lv_iload_n hx hb dX5_sheet_48 rfl (lv_at hl 3 rfl) ?_
      refine lv_bipush (v := 40) hx hb dX5_sheet_49 (by decide) ?_
      refine lv_icmp_le (tgt := 61) hx hb dX5_sheet_51 (by decide) (fun c48 => ?_) (fun c48 => ?_)
      · replace h := ite_t c48 h
        refine lv_aload_n hx hb dX5_sheet_61 rfl (lv_at hl 0 rfl) ?_
        refine gf_X5_28 cx hw 0 rfl rfl dX5_sheet_62 ?_
        refine lv_iload_n hx hb dX5_sheet_65 rfl (lv_at hl 1 rfl) ?_
        refine lv_iload_n hx hb dX5_sheet_66 rfl (lv_at hl 2 rfl) ?_
        refine lv_if_ne (tgt := 74) hx hb dX5_sheet_67 (by decide) (fun c49 => ?_) (fun c49 => ?_)
        · replace h := ite_f c49 h
          refine lv_iload_n hx hb dX5_sheet_74 rfl (lv_at hl 2 rfl) ?_
          exact J75 a1 a2 a3 a1 a2 d_ _ _ _ hw (lv_sub hl [0, 1, 2, 3] rfl) h
        · replace h := ite_t c49 h
          refine lv_iconst (v := -1) hx hb dX5_sheet_70 (by decide) ?_
          refine lv_goto (tgt := 75) hx hb dX5_sheet_71 (by decide) ?_
          exact J75 a1 a2 a3 a1 (-1 : Int32) d_ _ _ _ hw (lv_sub hl [0, 1, 2, 3] rfl) h
      · replace h := ite_f c48 h
        refine lv_aload_n hx hb dX5_sheet_54 rfl (lv_at hl 0 rfl) ?_
        refine lv_ldc hx hb cx.1.2.2.2.1 (cx.1.2.2.2.2 _ tw_4_79) dX5_sheet_55 ?_
        obtain ⟨x50, d51, g52, h⟩ := bd2_ex h
        refine c_V (As := [.int (-1000000001 : Int32)]) (rest := []) (w' := (MC g q d51)) cx hw (c_X5_finds l g q N (-1000000001 : Int32) d_ x50 d51 g52) (cl_X5_62 cx.1.2.2.2.2 ⟨Nat.le_of_ble_eq_true rfl, Nat.le_of_ble_eq_true rfl⟩) (x_recv cx hw (ci := 5) rfl 0 rfl) (Ct.all (MC_ll ..)) hl.1 rfl rfl (Nat.le_of_ble_eq_true rfl) dX5_sheet_57 ⟨Nat.le_of_ble_eq_true rfl, Nat.le_of_ble_eq_true rfl⟩ (st1 := [.int x50]) rfl (fun H locs hw => ?_)
        exact r_i cx hr hlocks hw (pr1 h) (congrArg (fun z0 => (MC g q z0)) (pr2 h)) dX5_sheet_60
    · replace h := ite_f c47 h
      refine lv_aload_n hx hb dX5_sheet_40 rfl (lv_at hl 0 rfl) ?_
      refine lv_ldcw hx hb cx.1.2.2.2.1 (cx.1.2.2.2.2 _ tw_5_191) dX5_sheet_41 ?_
      obtain ⟨x53, d54, g55, h⟩ := bd2_ex h
      refine c_V (As := [.int (-1000000007 : Int32)]) (rest := []) (w' := (MC g q d54)) cx hw (c_X5_finds l g q N (-1000000007 : Int32) d_ x53 d54 g55) (cl_X5_62 cx.1.2.2.2.2 ⟨Nat.le_of_ble_eq_true rfl, Nat.le_of_ble_eq_true rfl⟩) (x_recv cx hw (ci := 5) rfl 0 rfl) (Ct.all (MC_ll ..)) hl.1 rfl rfl (Nat.le_of_ble_eq_true rfl) dX5_sheet_44 ⟨Nat.le_of_ble_eq_true rfl, Nat.le_of_ble_eq_true rfl⟩ (st1 := [.int x53]) rfl (fun H locs hw => ?_)
      exact r_i cx hr hlocks hw (pr1 h) (congrArg (fun z0 => (MC g q z0)) (pr2 h)) dX5_sheet_47
  unfold f_X5_sheet at h
  refine lv_iload_n hx hb dX5_sheet_0 rfl (lv_at hl 1 rfl) ?_
  obtain ⟨x1, g2, h⟩ := bd_ex h
  refine c_S (As := [.int p1]) (rest := []) (w' := (MC g q d)) cx hw (c_X5_isSheet l g  N p1  x1 g2) (cl_X5_267 cx.1.2.2.2.2 ⟨Nat.le_of_ble_eq_true rfl, Nat.le_of_ble_eq_true rfl⟩) Ct.nil hl.1 rfl rfl (Nat.le_of_ble_eq_true rfl) dX5_sheet_1 ⟨Nat.le_of_ble_eq_true rfl, Nat.le_of_ble_eq_true rfl⟩ (st1 := [.int x1]) rfl (fun H locs hw => ?_)
  refine lv_if_eq (tgt := 29) hx hb dX5_sheet_4 (by decide) (fun c3 => ?_) (fun c3 => ?_)
  · replace h := ite_t c3 h
    refine lv_aload_n hx hb dX5_sheet_29 rfl (lv_at hl 0 rfl) ?_
    refine lv_ldc hx hb cx.1.2.2.2.1 (cx.1.2.2.2.2 _ tw_4_79) dX5_sheet_30 ?_
    obtain ⟨x4, d5, g6, h⟩ := bd2_ex h
    refine c_V (As := [.int (-1000000001 : Int32)]) (rest := []) (w' := (MC g q d5)) cx hw (c_X5_finds l g q N (-1000000001 : Int32) d x4 d5 g6) (cl_X5_62 cx.1.2.2.2.2 ⟨Nat.le_of_ble_eq_true rfl, Nat.le_of_ble_eq_true rfl⟩) (x_recv cx hw (ci := 5) rfl 0 rfl) (Ct.all (MC_ll ..)) hl.1 rfl rfl (Nat.le_of_ble_eq_true rfl) dX5_sheet_32 ⟨Nat.le_of_ble_eq_true rfl, Nat.le_of_ble_eq_true rfl⟩ (st1 := [.int x4]) rfl (fun H locs hw => ?_)
    exact r_i cx hr hlocks hw (pr1 h) (congrArg (fun z0 => (MC g q z0)) (pr2 h)) dX5_sheet_35
  · replace h := ite_f c3 h
    refine lv_iload_n hx hb dX5_sheet_7 rfl (lv_at hl 2 rfl) ?_
    refine lv_if_eq (tgt := 36) hx hb dX5_sheet_8 (by decide) (fun c7 => ?_) (fun c7 => ?_)
    · replace h := ite_t c7 h
      exact J36 p1 p2 p3 d _ _ _ hw (lv_sub hl [0, 1, 2, 3] rfl) h
    · replace h := ite_f c7 h
      refine lv_iload_n hx hb dX5_sheet_11 rfl (lv_at hl 2 rfl) ?_
      refine lv_bipush (v := 8) hx hb dX5_sheet_12 (by decide) ?_
      refine lv_icmp_eq (tgt := 36) hx hb dX5_sheet_14 (by decide) (fun c8 => ?_) (fun c8 => ?_)
      · replace h := ite_t c8 h
        exact J36 p1 p2 p3 d _ _ _ hw (lv_sub hl [0, 1, 2, 3] rfl) h
      · replace h := ite_f c8 h
        refine lv_iload_n hx hb dX5_sheet_17 rfl (lv_at hl 2 rfl) ?_
        refine lv_bipush (v := 16) hx hb dX5_sheet_18 (by decide) ?_
        refine lv_icmp_eq (tgt := 36) hx hb dX5_sheet_20 (by decide) (fun c9 => ?_) (fun c9 => ?_)
        · replace h := ite_t c9 h
          exact J36 p1 p2 p3 d _ _ _ hw (lv_sub hl [0, 1, 2, 3] rfl) h
        · replace h := ite_f c9 h
          refine lv_iload_n hx hb dX5_sheet_23 rfl (lv_at hl 2 rfl) ?_
          refine lv_bipush (v := 64) hx hb dX5_sheet_24 (by decide) ?_
          refine lv_icmp_eq (tgt := 36) hx hb dX5_sheet_26 (by decide) (fun c10 => ?_) (fun c10 => ?_)
          · replace h := ite_t c10 h
            exact J36 p1 p2 p3 d _ _ _ hw (lv_sub hl [0, 1, 2, 3] rfl) h
          · replace h := ite_f c10 h
            refine lv_aload_n hx hb dX5_sheet_29 rfl (lv_at hl 0 rfl) ?_
            refine lv_ldc hx hb cx.1.2.2.2.1 (cx.1.2.2.2.2 _ tw_4_79) dX5_sheet_30 ?_
            obtain ⟨x11, d12, g13, h⟩ := bd2_ex h
            refine c_V (As := [.int (-1000000001 : Int32)]) (rest := []) (w' := (MC g q d12)) cx hw (c_X5_finds l g q N (-1000000001 : Int32) d x11 d12 g13) (cl_X5_62 cx.1.2.2.2.2 ⟨Nat.le_of_ble_eq_true rfl, Nat.le_of_ble_eq_true rfl⟩) (x_recv cx hw (ci := 5) rfl 0 rfl) (Ct.all (MC_ll ..)) hl.1 rfl rfl (Nat.le_of_ble_eq_true rfl) dX5_sheet_32 ⟨Nat.le_of_ble_eq_true rfl, Nat.le_of_ble_eq_true rfl⟩ (st1 := [.int x11]) rfl (fun H locs hw => ?_)
            exact r_i cx hr hlocks hw (pr1 h) (congrArg (fun z0 => (MC g q z0)) (pr2 h)) dX5_sheet_35
set_option maxHeartbeats 4000000 in
set_option maxRecDepth 100000 in
theorem c_X5_write (l : Launch) (g : gE) (q : Nat → Nat) (N : Nat) (p1 : Int32) (p2 : Int32) (p3 : Int64) (d : MD) (r : Int64) (d' : MD) (h : f_X5_write N  p1 p2 p3 d = some (r, d')) : MO l yX5_write (Cond.code yX5_write cX5_write 7 (some .long) :: TB) rm_X5_write [.ref (q 0), .int p1, .int p2, .long p3] g ((MC g q d)) ((MC g q d')) (some (.long r)) 0 0 := by
  refine MO.of (cc := cX5_write) (maxL := 7) (ret := (some .long)) (by decide) ?_
  intro p e s m below meth c cx hw hr hlocks _
  have hx := cx.1.1
  have hb := cx.1.2.1
  refine en_go (lv := [(0, .ref (q 0)), (1, .int p1), (2, .int p2), (3, .long p3)]) (Nat.le_of_ble_eq_true rfl) rfl (fun ls hl => ?_)
  unfold f_X5_write at h
  refine lv_iload_n hx hb dX5_write_0 rfl (lv_at hl 1 rfl) ?_
  obtain ⟨x1, g2, h⟩ := bd_ex h
  refine c_S (As := [.int p1]) (rest := []) (w' := (MC g q d)) cx hw (c_X5_isSheet l g  N p1  x1 g2) (cl_X5_267 cx.1.2.2.2.2 ⟨Nat.le_of_ble_eq_true rfl, Nat.le_of_ble_eq_true rfl⟩) Ct.nil hl.1 rfl rfl (Nat.le_of_ble_eq_true rfl) dX5_write_1 ⟨Nat.le_of_ble_eq_true rfl, Nat.le_of_ble_eq_true rfl⟩ (st1 := [.int x1]) rfl (fun H locs hw => ?_)
  refine lv_if_ne (tgt := 15) hx hb dX5_write_4 (by decide) (fun c3 => ?_) (fun c3 => ?_)
  · replace h := ite_f c3 h
    refine lv_aload_n hx hb dX5_write_15 rfl (lv_at hl 0 rfl) ?_
    refine gf_X5_28 cx hw 0 rfl rfl dX5_write_16 ?_
    refine lv_iload_n hx hb dX5_write_19 rfl (lv_at hl 1 rfl) ?_
    have ix4 := rd_in h
    refine x_iald cx hw 7 rfl ix4 dX5_write_20 ?_
    refine lv_topi (fun x4 ex4 => ?_)
    replace h := rd_nx ex4 h
    refine lv_if_ge (tgt := 33) hx hb dX5_write_21 (by decide) (fun c5 => ?_) (fun c5 => ?_)
    · replace h := ite_t c5 h
      refine lv_iload_n hx hb dX5_write_33 rfl (lv_at hl 2 rfl) ?_
      refine lv_i2l hx hb dX5_write_34 rfl ?_
      refine lv_lconst (v := 0) hx hb dX5_write_35 (by decide) ?_
      refine lv_aload_n hx hb dX5_write_36 rfl (lv_at hl 0 rfl) ?_
      refine gf_X5_31 cx hw 0 rfl rfl dX5_write_37 ?_
      refine lv_iload_n hx hb dX5_write_40 rfl (lv_at hl 1 rfl) ?_
      have ix6 := rd_in h
      refine x_iald cx hw 8 rfl ix6 dX5_write_41 ?_
      refine lv_topi (fun x6 ex6 => ?_)
      replace h := rd_nx ex6 h
      refine lv_iconst (v := 1) hx hb dX5_write_42 (by decide) ?_
      refine lv_isub hx hb dX5_write_43 ?_
      refine lv_i2l hx hb dX5_write_44 rfl ?_
      obtain ⟨x7, g8, h⟩ := bd_ex h
      refine c_S (As := [.long ((p2).toInt64), .long (0 : Int64), .long (((x6 - (1 : Int32))).toInt64)]) (rest := []) (w' := (MC g q d)) cx hw (c_X5_isIn l g  N ((p2).toInt64) (0 : Int64) (((x6 - (1 : Int32))).toInt64)  x7 g8) (cl_X5_54 cx.1.2.2.2.2 ⟨Nat.le_of_ble_eq_true rfl, Nat.le_of_ble_eq_true rfl⟩) Ct.nil hl.1 rfl rfl (Nat.le_of_ble_eq_true rfl) dX5_write_45 ⟨Nat.le_of_ble_eq_true rfl, Nat.le_of_ble_eq_true rfl⟩ (st1 := [.int x7]) rfl (fun H locs hw => ?_)
      refine lv_if_ne (tgt := 59) hx hb dX5_write_48 (by decide) (fun c9 => ?_) (fun c9 => ?_)
      · replace h := ite_f c9 h
        refine lv_aload_n hx hb dX5_write_59 rfl (lv_at hl 0 rfl) ?_
        refine gf_X5_34 cx hw 0 rfl rfl dX5_write_60 ?_
        refine lv_bipush (v := 40) hx hb dX5_write_63 (by decide) ?_
        refine lv_iload_n hx hb dX5_write_65 rfl (lv_at hl 1 rfl) ?_
        refine lv_imul hx hb dX5_write_66 ?_
        refine lv_iload_n hx hb dX5_write_67 rfl (lv_at hl 2 rfl) ?_
        refine lv_iadd hx hb dX5_write_68 ?_
        have ix10 := rdL_in h
        refine x_lald cx hw 9 rfl ix10 dX5_write_69 ?_
        refine lv_topl (fun x10 ex10 => ?_)
        replace h := rdL_nx ex10 h
        refine lv_lstore (lv' := [(5, .long x10), (0, .ref (q 0)), (1, .int p1), (2, .int p2), (3, .long p3)]) hx hb dX5_write_70 hl (by decide) rfl (fun ls hl => ?_)
        refine lv_aload_n hx hb dX5_write_72 rfl (lv_at hl 1 rfl) ?_
        refine gf_X5_34 cx hw 0 rfl rfl dX5_write_73 ?_
        refine lv_bipush (v := 40) hx hb dX5_write_76 (by decide) ?_
        refine lv_iload_n hx hb dX5_write_78 rfl (lv_at hl 2 rfl) ?_
        refine lv_imul hx hb dX5_write_79 ?_
        refine lv_iload_n hx hb dX5_write_80 rfl (lv_at hl 3 rfl) ?_
        refine lv_iadd hx hb dX5_write_81 ?_
        refine lv_aload_n hx hb dX5_write_82 rfl (lv_at hl 1 rfl) ?_
        refine gf_X5_28 cx hw 0 rfl rfl dX5_write_83 ?_
        refine lv_iload_n hx hb dX5_write_86 rfl (lv_at hl 2 rfl) ?_
        have ix11 := rd_in h
        refine x_iald cx hw 7 rfl ix11 dX5_write_87 ?_
        refine lv_topi (fun x11 ex11 => ?_)
        replace h := rd_nx ex11 h
        refine lv_lload_n hx hb dX5_write_88 rfl (lv_at hl 4 rfl) ?_
        obtain ⟨x12, g13, h⟩ := bd_ex h
        refine c_S (As := [.int x11, .long p3]) (rest := [.int (((40 : Int32) * p1) + p2), .ref (q 9)]) (w' := (MC g q d)) cx hw (c_X5_narrow l g  N x11 p3  x12 g13) (cl_X5_272 cx.1.2.2.2.2 ⟨Nat.le_of_ble_eq_true rfl, Nat.le_of_ble_eq_true rfl⟩) Ct.nil hl.1 rfl rfl (Nat.le_of_ble_eq_true rfl) dX5_write_89 ⟨Nat.le_of_ble_eq_true rfl, Nat.le_of_ble_eq_true rfl⟩ (st1 := [.long x12, .int (((40 : Int32) * p1) + p2), .ref (q 9)]) rfl (fun H locs hw => ?_)
        have i14 := ck_in h
        replace h := ck_nx h
        refine x_last cx hw 9 rfl i14 dX5_write_92 (fun H locs hw => ?_)
        obtain ⟨d15, ed15, h⟩ := lt_ex h
        have hw : Wd g (va_A ((MC g q d)) s.heap.size) ((MC g q d15)) s H locs := by rw [ed15]; exact hw
        refine lv_lload hx hb dX5_write_93 (lv_at hl 0 rfl) ?_
        exact r_l cx hr hlocks hw (pr1 h) (congrArg (fun z0 => (MC g q z0)) (pr2 h)) dX5_write_95
      · replace h := ite_t c9 h
        refine lv_aload_n hx hb dX5_write_51 rfl (lv_at hl 0 rfl) ?_
        refine lv_ldc hx hb cx.1.2.2.2.1 (cx.1.2.2.2.2 _ tw_4_79) dX5_write_52 ?_
        obtain ⟨x16, d17, g18, h⟩ := bd2_ex h
        refine c_V (As := [.int (-1000000001 : Int32)]) (rest := []) (w' := (MC g q d17)) cx hw (c_X5_finds l g q N (-1000000001 : Int32) d x16 d17 g18) (cl_X5_62 cx.1.2.2.2.2 ⟨Nat.le_of_ble_eq_true rfl, Nat.le_of_ble_eq_true rfl⟩) (x_recv cx hw (ci := 5) rfl 0 rfl) (Ct.all (MC_ll ..)) hl.1 rfl rfl (Nat.le_of_ble_eq_true rfl) dX5_write_54 ⟨Nat.le_of_ble_eq_true rfl, Nat.le_of_ble_eq_true rfl⟩ (st1 := [.int x16]) rfl (fun H locs hw => ?_)
        refine lv_i2l hx hb dX5_write_57 rfl ?_
        exact r_l cx hr hlocks hw (pr1 h) (congrArg (fun z0 => (MC g q z0)) (pr2 h)) dX5_write_58
    · replace h := ite_f c5 h
      refine lv_aload_n hx hb dX5_write_24 rfl (lv_at hl 0 rfl) ?_
      refine lv_ldcw hx hb cx.1.2.2.2.1 (cx.1.2.2.2.2 _ tw_5_196) dX5_write_25 ?_
      obtain ⟨x19, d20, g21, h⟩ := bd2_ex h
      refine c_V (As := [.int (-1000000006 : Int32)]) (rest := []) (w' := (MC g q d20)) cx hw (c_X5_finds l g q N (-1000000006 : Int32) d x19 d20 g21) (cl_X5_62 cx.1.2.2.2.2 ⟨Nat.le_of_ble_eq_true rfl, Nat.le_of_ble_eq_true rfl⟩) (x_recv cx hw (ci := 5) rfl 0 rfl) (Ct.all (MC_ll ..)) hl.1 rfl rfl (Nat.le_of_ble_eq_true rfl) dX5_write_28 ⟨Nat.le_of_ble_eq_true rfl, Nat.le_of_ble_eq_true rfl⟩ (st1 := [.int x19]) rfl (fun H locs hw => ?_)
      refine lv_i2l hx hb dX5_write_31 rfl ?_
      exact r_l cx hr hlocks hw (pr1 h) (congrArg (fun z0 => (MC g q z0)) (pr2 h)) dX5_write_32
  · replace h := ite_t c3 h
    refine lv_aload_n hx hb dX5_write_7 rfl (lv_at hl 0 rfl) ?_
    refine lv_ldc hx hb cx.1.2.2.2.1 (cx.1.2.2.2.2 _ tw_4_79) dX5_write_8 ?_
    obtain ⟨x22, d23, g24, h⟩ := bd2_ex h
    refine c_V (As := [.int (-1000000001 : Int32)]) (rest := []) (w' := (MC g q d23)) cx hw (c_X5_finds l g q N (-1000000001 : Int32) d x22 d23 g24) (cl_X5_62 cx.1.2.2.2.2 ⟨Nat.le_of_ble_eq_true rfl, Nat.le_of_ble_eq_true rfl⟩) (x_recv cx hw (ci := 5) rfl 0 rfl) (Ct.all (MC_ll ..)) hl.1 rfl rfl (Nat.le_of_ble_eq_true rfl) dX5_write_10 ⟨Nat.le_of_ble_eq_true rfl, Nat.le_of_ble_eq_true rfl⟩ (st1 := [.int x22]) rfl (fun H locs hw => ?_)
    refine lv_i2l hx hb dX5_write_13 rfl ?_
    exact r_l cx hr hlocks hw (pr1 h) (congrArg (fun z0 => (MC g q z0)) (pr2 h)) dX5_write_14
set_option maxHeartbeats 4000000 in
set_option maxRecDepth 100000 in
theorem c_X5_copy (l : Launch) (g : gE) (q : Nat → Nat) (N : Nat) (p1 : Int32) (p2 : Int32) (p3 : Int32) (p4 : Int32) (p5 : Int32) (d : MD) (r : Int32) (d' : MD) (h : f_X5_copy N  p1 p2 p3 p4 p5 d = some (r, d')) : MO l yX5_copy (Cond.code yX5_copy cX5_copy 10 (some .int) :: TB) rm_X5_copy [.ref (q 0), .int p1, .int p2, .int p3, .int p4, .int p5] g ((MC g q d)) ((MC g q d')) (some (.int r)) 0 0 := by
  refine MO.of (cc := cX5_copy) (maxL := 10) (ret := (some .int)) (by decide) ?_
  intro p e s m below meth c cx hw hr hlocks _
  have hx := cx.1.1
  have hb := cx.1.2.1
  refine en_go (lv := [(0, .ref (q 0)), (1, .int p1), (2, .int p2), (3, .int p3), (4, .int p4), (5, .int p5)]) (Nat.le_of_ble_eq_true rfl) rfl (fun ls hl => ?_)
  have L137 : ∀ (n137 : Nat) (a5 : Int32) (a6 : Int32) (a7 : Int32) (a8 : Int32) (d_ : MD) (H : Heap) (locs : List Loc) (ls : Array Slot), Wd g (va_A ((MC g q d)) s.heap.size) ((MC g q d_)) s H locs → lv_has ls 10 [(0, .ref (q 0)), (5, .int a5), (6, .int a6), (7, .int a7), (8, .int a8)] → f_X5_copy_L137 N   n137 a5 a6 a7 a8 d_ = some (r, d') → W p l e rm_X5_copy s m ([.ref (q 0), .int p1, .int p2, .int p3, .int p4, .int p5] : List Value).toArray below meth c H locs 0 0 (MQ below (QO (some (.int r)) g ((MC g q d')) (va_A ((MC g q d)) s.heap.size)) ([.ref (q 0), .int p1, .int p2, .int p3, .int p4, .int p5] : List Value).toArray s 0 0 (va_A ((MC g q d)) s.heap.size)) (F0 m 137 ls []) := by
    intro n137
    induction n137 with
    | zero => intro a5 a6 a7 a8 d_ H locs ls hw hl h; exact (Option.some_ne_none _ h.symm).elim
    | succ n137 ih137 =>
      have J163 : ∀ (a5 : Int32) (a6 : Int32) (a7 : Int32) (a8 : Int32) (t0 : Int32) (d_ : MD) (H : Heap) (locs : List Loc) (ls : Array Slot), Wd g (va_A ((MC g q d)) s.heap.size) ((MC g q d_)) s H locs → lv_has ls 10 [(0, .ref (q 0)), (5, .int a5), (6, .int a6), (7, .int a7), (8, .int a8)] → f_X5_copy_J163 N  (f_X5_copy_L137 N   n137) a5 a6 a7 a8 t0 d_ = some (r, d') → W p l e rm_X5_copy s m ([.ref (q 0), .int p1, .int p2, .int p3, .int p4, .int p5] : List Value).toArray below meth c H locs 0 0 (MQ below (QO (some (.int r)) g ((MC g q d')) (va_A ((MC g q d)) s.heap.size)) ([.ref (q 0), .int p1, .int p2, .int p3, .int p4, .int p5] : List Value).toArray s 0 0 (va_A ((MC g q d)) s.heap.size)) (F0 m 163 ls [.int t0]) := by
        intro a5 a6 a7 a8 t0 d_ H locs ls hw hl h
        unfold f_X5_copy_J163 at h
        refine lv_istore (lv' := [(9, .int t0), (0, .ref (q 0)), (5, .int a5), (6, .int a6), (7, .int a7), (8, .int a8)]) hx hb dX5_copy_163 hl (by decide) rfl (fun ls hl => ?_)
        refine lv_aload_n hx hb dX5_copy_165 rfl (lv_at hl 1 rfl) ?_
        refine gf_X5_34 cx hw 0 rfl rfl dX5_copy_166 ?_
        refine lv_iload hx hb dX5_copy_169 (lv_at hl 4 rfl) ?_
        refine lv_iload hx hb dX5_copy_171 (lv_at hl 0 rfl) ?_
        refine lv_iadd hx hb dX5_copy_173 ?_
        refine lv_aload_n hx hb dX5_copy_174 rfl (lv_at hl 1 rfl) ?_
        refine gf_X5_34 cx hw 0 rfl rfl dX5_copy_175 ?_
        refine lv_iload hx hb dX5_copy_178 (lv_at hl 3 rfl) ?_
        refine lv_iload hx hb dX5_copy_180 (lv_at hl 0 rfl) ?_
        refine lv_iadd hx hb dX5_copy_182 ?_
        have ix59 := rdL_in h
        refine x_lald cx hw 9 rfl ix59 dX5_copy_183 ?_
        refine lv_topl (fun x59 ex59 => ?_)
        replace h := rdL_nx ex59 h
        have i60 := ck_in h
        replace h := ck_nx h
        refine x_last cx hw 9 rfl i60 dX5_copy_184 (fun H locs hw => ?_)
        obtain ⟨d61, ed61, h⟩ := lt_ex h
        have hw : Wd g (va_A ((MC g q d)) s.heap.size) ((MC g q d61)) s H locs := by rw [ed61]; exact hw
        obtain ⟨x62, ex62⟩ : ∃ y : Int32, y = (a8 + 1) := ⟨_, rfl⟩
        replace h := lt_nx ex62 h
        refine lv_iinc (v := x62) (lv' := [(8, .int x62), (9, .int t0), (0, .ref (q 0)), (5, .int a5), (6, .int a6), (7, .int a7)]) hx hb dX5_copy_185 hl (k := 5) rfl (by rw [ex62]; rfl) (by decide) rfl (fun ls hl => ?_)
        refine lv_goto (tgt := 137) hx hb dX5_copy_188 (by decide) ?_
        exact ih137 a5 a6 a7 x62 d61 _ _ _ hw (lv_sub hl [2, 3, 4, 5, 0] rfl) h
      intro a5 a6 a7 a8 d_ H locs ls hw hl h
      rw [f_X5_copy_L137] at h
      refine lv_iload hx hb dX5_copy_137 (lv_at hl 4 rfl) ?_
      refine lv_iload hx hb dX5_copy_139 (lv_at hl 1 rfl) ?_
      refine lv_icmp_ge (tgt := 191) hx hb dX5_copy_141 (by decide) (fun c63 => ?_) (fun c63 => ?_)
      · replace h := ite_t c63 h
        refine lv_iload hx hb dX5_copy_191 (lv_at hl 1 rfl) ?_
        exact r_i cx hr hlocks hw (pr1 h) (congrArg (fun z0 => (MC g q z0)) (pr2 h)) dX5_copy_193
      · replace h := ite_f c63 h
        refine lv_iload hx hb dX5_copy_144 (lv_at hl 2 rfl) ?_
        refine lv_iload hx hb dX5_copy_146 (lv_at hl 3 rfl) ?_
        refine lv_icmp_ge (tgt := 161) hx hb dX5_copy_148 (by decide) (fun c64 => ?_) (fun c64 => ?_)
        · replace h := ite_t c64 h
          refine lv_iload hx hb dX5_copy_161 (lv_at hl 4 rfl) ?_
          exact J163 a5 a6 a7 a8 a8 d_ _ _ _ hw (lv_sub hl [0, 1, 2, 3, 4] rfl) h
        · replace h := ite_f c64 h
          refine lv_iload hx hb dX5_copy_151 (lv_at hl 1 rfl) ?_
          refine lv_iconst (v := 1) hx hb dX5_copy_153 (by decide) ?_
          refine lv_isub hx hb dX5_copy_154 ?_
          refine lv_iload hx hb dX5_copy_155 (lv_at hl 4 rfl) ?_
          refine lv_isub hx hb dX5_copy_157 ?_
          refine lv_goto (tgt := 163) hx hb dX5_copy_158 (by decide) ?_
          exact J163 a5 a6 a7 a8 ((a5 - (1 : Int32)) - a8) d_ _ _ _ hw (lv_sub hl [0, 1, 2, 3, 4] rfl) h
  unfold f_X5_copy at h
  refine lv_iload_n hx hb dX5_copy_0 rfl (lv_at hl 1 rfl) ?_
  obtain ⟨x1, g2, h⟩ := bd_ex h
  refine c_S (As := [.int p1]) (rest := []) (w' := (MC g q d)) cx hw (c_X5_isSheet l g  N p1  x1 g2) (cl_X5_267 cx.1.2.2.2.2 ⟨Nat.le_of_ble_eq_true rfl, Nat.le_of_ble_eq_true rfl⟩) Ct.nil hl.1 rfl rfl (Nat.le_of_ble_eq_true rfl) dX5_copy_1 ⟨Nat.le_of_ble_eq_true rfl, Nat.le_of_ble_eq_true rfl⟩ (st1 := [.int x1]) rfl (fun H locs hw => ?_)
  refine lv_if_eq (tgt := 14) hx hb dX5_copy_4 (by decide) (fun c3 => ?_) (fun c3 => ?_)
  · replace h := ite_t c3 h
    refine lv_aload_n hx hb dX5_copy_14 rfl (lv_at hl 0 rfl) ?_
    refine lv_ldc hx hb cx.1.2.2.2.1 (cx.1.2.2.2.2 _ tw_4_79) dX5_copy_15 ?_
    obtain ⟨x4, d5, g6, h⟩ := bd2_ex h
    refine c_V (As := [.int (-1000000001 : Int32)]) (rest := []) (w' := (MC g q d5)) cx hw (c_X5_finds l g q N (-1000000001 : Int32) d x4 d5 g6) (cl_X5_62 cx.1.2.2.2.2 ⟨Nat.le_of_ble_eq_true rfl, Nat.le_of_ble_eq_true rfl⟩) (x_recv cx hw (ci := 5) rfl 0 rfl) (Ct.all (MC_ll ..)) hl.1 rfl rfl (Nat.le_of_ble_eq_true rfl) dX5_copy_17 ⟨Nat.le_of_ble_eq_true rfl, Nat.le_of_ble_eq_true rfl⟩ (st1 := [.int x4]) rfl (fun H locs hw => ?_)
    exact r_i cx hr hlocks hw (pr1 h) (congrArg (fun z0 => (MC g q z0)) (pr2 h)) dX5_copy_20
  · replace h := ite_f c3 h
    refine lv_iload_n hx hb dX5_copy_7 rfl (lv_at hl 3 rfl) ?_
    obtain ⟨x7, g8, h⟩ := bd_ex h
    refine c_S (As := [.int p3]) (rest := []) (w' := (MC g q d)) cx hw (c_X5_isSheet l g  N p3  x7 g8) (cl_X5_267 cx.1.2.2.2.2 ⟨Nat.le_of_ble_eq_true rfl, Nat.le_of_ble_eq_true rfl⟩) Ct.nil hl.1 rfl rfl (Nat.le_of_ble_eq_true rfl) dX5_copy_8 ⟨Nat.le_of_ble_eq_true rfl, Nat.le_of_ble_eq_true rfl⟩ (st1 := [.int x7]) rfl (fun H locs hw => ?_)
    refine lv_if_ne (tgt := 21) hx hb dX5_copy_11 (by decide) (fun c9 => ?_) (fun c9 => ?_)
    · replace h := ite_f c9 h
      refine lv_aload_n hx hb dX5_copy_21 rfl (lv_at hl 0 rfl) ?_
      refine gf_X5_28 cx hw 0 rfl rfl dX5_copy_22 ?_
      refine lv_iload_n hx hb dX5_copy_25 rfl (lv_at hl 1 rfl) ?_
      have ix10 := rd_in h
      refine x_iald cx hw 7 rfl ix10 dX5_copy_26 ?_
      refine lv_topi (fun x10 ex10 => ?_)
      replace h := rd_nx ex10 h
      refine lv_if_lt (tgt := 39) hx hb dX5_copy_27 (by decide) (fun c11 => ?_) (fun c11 => ?_)
      · replace h := ite_t c11 h
        refine lv_aload_n hx hb dX5_copy_39 rfl (lv_at hl 0 rfl) ?_
        refine lv_ldcw hx hb cx.1.2.2.2.1 (cx.1.2.2.2.2 _ tw_5_196) dX5_copy_40 ?_
        obtain ⟨x12, d13, g14, h⟩ := bd2_ex h
        refine c_V (As := [.int (-1000000006 : Int32)]) (rest := []) (w' := (MC g q d13)) cx hw (c_X5_finds l g q N (-1000000006 : Int32) d x12 d13 g14) (cl_X5_62 cx.1.2.2.2.2 ⟨Nat.le_of_ble_eq_true rfl, Nat.le_of_ble_eq_true rfl⟩) (x_recv cx hw (ci := 5) rfl 0 rfl) (Ct.all (MC_ll ..)) hl.1 rfl rfl (Nat.le_of_ble_eq_true rfl) dX5_copy_43 ⟨Nat.le_of_ble_eq_true rfl, Nat.le_of_ble_eq_true rfl⟩ (st1 := [.int x12]) rfl (fun H locs hw => ?_)
        exact r_i cx hr hlocks hw (pr1 h) (congrArg (fun z0 => (MC g q z0)) (pr2 h)) dX5_copy_46
      · replace h := ite_f c11 h
        refine lv_aload_n hx hb dX5_copy_30 rfl (lv_at hl 0 rfl) ?_
        refine gf_X5_28 cx hw 0 rfl rfl dX5_copy_31 ?_
        refine lv_iload_n hx hb dX5_copy_34 rfl (lv_at hl 3 rfl) ?_
        have ix15 := rd_in h
        refine x_iald cx hw 7 rfl ix15 dX5_copy_35 ?_
        refine lv_topi (fun x15 ex15 => ?_)
        replace h := rd_nx ex15 h
        refine lv_if_ge (tgt := 47) hx hb dX5_copy_36 (by decide) (fun c16 => ?_) (fun c16 => ?_)
        · replace h := ite_t c16 h
          refine lv_aload_n hx hb dX5_copy_47 rfl (lv_at hl 0 rfl) ?_
          refine gf_X5_28 cx hw 0 rfl rfl dX5_copy_48 ?_
          refine lv_iload_n hx hb dX5_copy_51 rfl (lv_at hl 1 rfl) ?_
          have ix17 := rd_in h
          refine x_iald cx hw 7 rfl ix17 dX5_copy_52 ?_
          refine lv_topi (fun x17 ex17 => ?_)
          replace h := rd_nx ex17 h
          refine lv_aload_n hx hb dX5_copy_53 rfl (lv_at hl 0 rfl) ?_
          refine gf_X5_28 cx hw 0 rfl rfl dX5_copy_54 ?_
          refine lv_iload_n hx hb dX5_copy_57 rfl (lv_at hl 3 rfl) ?_
          have ix18 := rd_in h
          refine x_iald cx hw 7 rfl ix18 dX5_copy_58 ?_
          refine lv_topi (fun x18 ex18 => ?_)
          replace h := rd_nx ex18 h
          refine lv_icmp_eq (tgt := 69) hx hb dX5_copy_59 (by decide) (fun c19 => ?_) (fun c19 => ?_)
          · replace h := ite_t c19 h
            refine lv_iload_n hx hb dX5_copy_69 rfl (lv_at hl 2 rfl) ?_
            refine lv_if_lt (tgt := 110) hx hb dX5_copy_70 (by decide) (fun c20 => ?_) (fun c20 => ?_)
            · replace h := ite_t c20 h
              refine lv_aload_n hx hb dX5_copy_110 rfl (lv_at hl 0 rfl) ?_
              refine lv_ldc hx hb cx.1.2.2.2.1 (cx.1.2.2.2.2 _ tw_4_79) dX5_copy_111 ?_
              obtain ⟨x21, d22, g23, h⟩ := bd2_ex h
              refine c_V (As := [.int (-1000000001 : Int32)]) (rest := []) (w' := (MC g q d22)) cx hw (c_X5_finds l g q N (-1000000001 : Int32) d x21 d22 g23) (cl_X5_62 cx.1.2.2.2.2 ⟨Nat.le_of_ble_eq_true rfl, Nat.le_of_ble_eq_true rfl⟩) (x_recv cx hw (ci := 5) rfl 0 rfl) (Ct.all (MC_ll ..)) hl.1 rfl rfl (Nat.le_of_ble_eq_true rfl) dX5_copy_113 ⟨Nat.le_of_ble_eq_true rfl, Nat.le_of_ble_eq_true rfl⟩ (st1 := [.int x21]) rfl (fun H locs hw => ?_)
              exact r_i cx hr hlocks hw (pr1 h) (congrArg (fun z0 => (MC g q z0)) (pr2 h)) dX5_copy_116
            · replace h := ite_f c20 h
              refine lv_iload hx hb dX5_copy_73 (lv_at hl 4 rfl) ?_
              refine lv_if_lt (tgt := 110) hx hb dX5_copy_75 (by decide) (fun c24 => ?_) (fun c24 => ?_)
              · replace h := ite_t c24 h
                refine lv_aload_n hx hb dX5_copy_110 rfl (lv_at hl 0 rfl) ?_
                refine lv_ldc hx hb cx.1.2.2.2.1 (cx.1.2.2.2.2 _ tw_4_79) dX5_copy_111 ?_
                obtain ⟨x25, d26, g27, h⟩ := bd2_ex h
                refine c_V (As := [.int (-1000000001 : Int32)]) (rest := []) (w' := (MC g q d26)) cx hw (c_X5_finds l g q N (-1000000001 : Int32) d x25 d26 g27) (cl_X5_62 cx.1.2.2.2.2 ⟨Nat.le_of_ble_eq_true rfl, Nat.le_of_ble_eq_true rfl⟩) (x_recv cx hw (ci := 5) rfl 0 rfl) (Ct.all (MC_ll ..)) hl.1 rfl rfl (Nat.le_of_ble_eq_true rfl) dX5_copy_113 ⟨Nat.le_of_ble_eq_true rfl, Nat.le_of_ble_eq_true rfl⟩ (st1 := [.int x25]) rfl (fun H locs hw => ?_)
                exact r_i cx hr hlocks hw (pr1 h) (congrArg (fun z0 => (MC g q z0)) (pr2 h)) dX5_copy_116
              · replace h := ite_f c24 h
                refine lv_iload hx hb dX5_copy_78 (lv_at hl 5 rfl) ?_
                refine lv_if_lt (tgt := 110) hx hb dX5_copy_80 (by decide) (fun c28 => ?_) (fun c28 => ?_)
                · replace h := ite_t c28 h
                  refine lv_aload_n hx hb dX5_copy_110 rfl (lv_at hl 0 rfl) ?_
                  refine lv_ldc hx hb cx.1.2.2.2.1 (cx.1.2.2.2.2 _ tw_4_79) dX5_copy_111 ?_
                  obtain ⟨x29, d30, g31, h⟩ := bd2_ex h
                  refine c_V (As := [.int (-1000000001 : Int32)]) (rest := []) (w' := (MC g q d30)) cx hw (c_X5_finds l g q N (-1000000001 : Int32) d x29 d30 g31) (cl_X5_62 cx.1.2.2.2.2 ⟨Nat.le_of_ble_eq_true rfl, Nat.le_of_ble_eq_true rfl⟩) (x_recv cx hw (ci := 5) rfl 0 rfl) (Ct.all (MC_ll ..)) hl.1 rfl rfl (Nat.le_of_ble_eq_true rfl) dX5_copy_113 ⟨Nat.le_of_ble_eq_true rfl, Nat.le_of_ble_eq_true rfl⟩ (st1 := [.int x29]) rfl (fun H locs hw => ?_)
                  exact r_i cx hr hlocks hw (pr1 h) (congrArg (fun z0 => (MC g q z0)) (pr2 h)) dX5_copy_116
                · replace h := ite_f c28 h
                  refine lv_iload hx hb dX5_copy_83 (lv_at hl 5 rfl) ?_
                  refine lv_aload_n hx hb dX5_copy_85 rfl (lv_at hl 0 rfl) ?_
                  refine gf_X5_31 cx hw 0 rfl rfl dX5_copy_86 ?_
                  refine lv_iload_n hx hb dX5_copy_89 rfl (lv_at hl 1 rfl) ?_
                  have ix32 := rd_in h
                  refine x_iald cx hw 8 rfl ix32 dX5_copy_90 ?_
                  refine lv_topi (fun x32 ex32 => ?_)
                  replace h := rd_nx ex32 h
                  refine lv_iload_n hx hb dX5_copy_91 rfl (lv_at hl 2 rfl) ?_
                  refine lv_isub hx hb dX5_copy_92 ?_
                  refine lv_icmp_gt (tgt := 110) hx hb dX5_copy_93 (by decide) (fun c33 => ?_) (fun c33 => ?_)
                  · replace h := ite_t c33 h
                    refine lv_aload_n hx hb dX5_copy_110 rfl (lv_at hl 0 rfl) ?_
                    refine lv_ldc hx hb cx.1.2.2.2.1 (cx.1.2.2.2.2 _ tw_4_79) dX5_copy_111 ?_
                    obtain ⟨x34, d35, g36, h⟩ := bd2_ex h
                    refine c_V (As := [.int (-1000000001 : Int32)]) (rest := []) (w' := (MC g q d35)) cx hw (c_X5_finds l g q N (-1000000001 : Int32) d x34 d35 g36) (cl_X5_62 cx.1.2.2.2.2 ⟨Nat.le_of_ble_eq_true rfl, Nat.le_of_ble_eq_true rfl⟩) (x_recv cx hw (ci := 5) rfl 0 rfl) (Ct.all (MC_ll ..)) hl.1 rfl rfl (Nat.le_of_ble_eq_true rfl) dX5_copy_113 ⟨Nat.le_of_ble_eq_true rfl, Nat.le_of_ble_eq_true rfl⟩ (st1 := [.int x34]) rfl (fun H locs hw => ?_)
                    exact r_i cx hr hlocks hw (pr1 h) (congrArg (fun z0 => (MC g q z0)) (pr2 h)) dX5_copy_116
                  · replace h := ite_f c33 h
                    refine lv_iload hx hb dX5_copy_96 (lv_at hl 5 rfl) ?_
                    refine lv_aload_n hx hb dX5_copy_98 rfl (lv_at hl 0 rfl) ?_
                    refine gf_X5_31 cx hw 0 rfl rfl dX5_copy_99 ?_
                    refine lv_iload_n hx hb dX5_copy_102 rfl (lv_at hl 3 rfl) ?_
                    have ix37 := rd_in h
                    refine x_iald cx hw 8 rfl ix37 dX5_copy_103 ?_
                    refine lv_topi (fun x37 ex37 => ?_)
                    replace h := rd_nx ex37 h
                    refine lv_iload hx hb dX5_copy_104 (lv_at hl 4 rfl) ?_
                    refine lv_isub hx hb dX5_copy_106 ?_
                    refine lv_icmp_le (tgt := 117) hx hb dX5_copy_107 (by decide) (fun c38 => ?_) (fun c38 => ?_)
                    · replace h := ite_t c38 h
                      refine lv_bipush (v := 40) hx hb dX5_copy_117 (by decide) ?_
                      refine lv_iload_n hx hb dX5_copy_119 rfl (lv_at hl 1 rfl) ?_
                      refine lv_imul hx hb dX5_copy_120 ?_
                      refine lv_iload_n hx hb dX5_copy_121 rfl (lv_at hl 2 rfl) ?_
                      refine lv_iadd hx hb dX5_copy_122 ?_
                      refine lv_topi (fun x39 ex39 => ?_)
                      replace h := lt_nx ex39 h
                      refine lv_istore (lv' := [(6, .int x39), (0, .ref (q 0)), (1, .int p1), (2, .int p2), (3, .int p3), (4, .int p4), (5, .int p5)]) hx hb dX5_copy_123 hl (by decide) rfl (fun ls hl => ?_)
                      refine lv_bipush (v := 40) hx hb dX5_copy_125 (by decide) ?_
                      refine lv_iload_n hx hb dX5_copy_127 rfl (lv_at hl 4 rfl) ?_
                      refine lv_imul hx hb dX5_copy_128 ?_
                      refine lv_iload hx hb dX5_copy_129 (lv_at hl 5 rfl) ?_
                      refine lv_iadd hx hb dX5_copy_131 ?_
                      refine lv_topi (fun x40 ex40 => ?_)
                      replace h := lt_nx ex40 h
                      refine lv_istore (lv' := [(7, .int x40), (6, .int x39), (0, .ref (q 0)), (1, .int p1), (2, .int p2), (3, .int p3), (4, .int p4), (5, .int p5)]) hx hb dX5_copy_132 hl (by decide) rfl (fun ls hl => ?_)
                      refine lv_iconst (v := 0) hx hb dX5_copy_134 (by decide) ?_
                      refine lv_istore (lv' := [(8, .int (0 : Int32)), (7, .int x40), (6, .int x39), (0, .ref (q 0)), (1, .int p1), (2, .int p2), (3, .int p3), (4, .int p4), (5, .int p5)]) hx hb dX5_copy_135 hl (by decide) rfl (fun ls hl => ?_)
                      exact L137 N p5 x39 x40 (0 : Int32) d _ _ _ hw (lv_sub hl [3, 8, 2, 1, 0] rfl) h
                    · replace h := ite_f c38 h
                      refine lv_aload_n hx hb dX5_copy_110 rfl (lv_at hl 0 rfl) ?_
                      refine lv_ldc hx hb cx.1.2.2.2.1 (cx.1.2.2.2.2 _ tw_4_79) dX5_copy_111 ?_
                      obtain ⟨x41, d42, g43, h⟩ := bd2_ex h
                      refine c_V (As := [.int (-1000000001 : Int32)]) (rest := []) (w' := (MC g q d42)) cx hw (c_X5_finds l g q N (-1000000001 : Int32) d x41 d42 g43) (cl_X5_62 cx.1.2.2.2.2 ⟨Nat.le_of_ble_eq_true rfl, Nat.le_of_ble_eq_true rfl⟩) (x_recv cx hw (ci := 5) rfl 0 rfl) (Ct.all (MC_ll ..)) hl.1 rfl rfl (Nat.le_of_ble_eq_true rfl) dX5_copy_113 ⟨Nat.le_of_ble_eq_true rfl, Nat.le_of_ble_eq_true rfl⟩ (st1 := [.int x41]) rfl (fun H locs hw => ?_)
                      exact r_i cx hr hlocks hw (pr1 h) (congrArg (fun z0 => (MC g q z0)) (pr2 h)) dX5_copy_116
          · replace h := ite_f c19 h
            refine lv_aload_n hx hb dX5_copy_62 rfl (lv_at hl 0 rfl) ?_
            refine lv_ldc hx hb cx.1.2.2.2.1 (cx.1.2.2.2.2 _ tw_4_182) dX5_copy_63 ?_
            obtain ⟨x44, d45, g46, h⟩ := bd2_ex h
            refine c_V (As := [.int (-1000000003 : Int32)]) (rest := []) (w' := (MC g q d45)) cx hw (c_X5_finds l g q N (-1000000003 : Int32) d x44 d45 g46) (cl_X5_62 cx.1.2.2.2.2 ⟨Nat.le_of_ble_eq_true rfl, Nat.le_of_ble_eq_true rfl⟩) (x_recv cx hw (ci := 5) rfl 0 rfl) (Ct.all (MC_ll ..)) hl.1 rfl rfl (Nat.le_of_ble_eq_true rfl) dX5_copy_65 ⟨Nat.le_of_ble_eq_true rfl, Nat.le_of_ble_eq_true rfl⟩ (st1 := [.int x44]) rfl (fun H locs hw => ?_)
            exact r_i cx hr hlocks hw (pr1 h) (congrArg (fun z0 => (MC g q z0)) (pr2 h)) dX5_copy_68
        · replace h := ite_f c16 h
          refine lv_aload_n hx hb dX5_copy_39 rfl (lv_at hl 0 rfl) ?_
          refine lv_ldcw hx hb cx.1.2.2.2.1 (cx.1.2.2.2.2 _ tw_5_196) dX5_copy_40 ?_
          obtain ⟨x47, d48, g49, h⟩ := bd2_ex h
          refine c_V (As := [.int (-1000000006 : Int32)]) (rest := []) (w' := (MC g q d48)) cx hw (c_X5_finds l g q N (-1000000006 : Int32) d x47 d48 g49) (cl_X5_62 cx.1.2.2.2.2 ⟨Nat.le_of_ble_eq_true rfl, Nat.le_of_ble_eq_true rfl⟩) (x_recv cx hw (ci := 5) rfl 0 rfl) (Ct.all (MC_ll ..)) hl.1 rfl rfl (Nat.le_of_ble_eq_true rfl) dX5_copy_43 ⟨Nat.le_of_ble_eq_true rfl, Nat.le_of_ble_eq_true rfl⟩ (st1 := [.int x47]) rfl (fun H locs hw => ?_)
          exact r_i cx hr hlocks hw (pr1 h) (congrArg (fun z0 => (MC g q z0)) (pr2 h)) dX5_copy_46
    · replace h := ite_t c9 h
      refine lv_aload_n hx hb dX5_copy_14 rfl (lv_at hl 0 rfl) ?_
      refine lv_ldc hx hb cx.1.2.2.2.1 (cx.1.2.2.2.2 _ tw_4_79) dX5_copy_15 ?_
      obtain ⟨x50, d51, g52, h⟩ := bd2_ex h
      refine c_V (As := [.int (-1000000001 : Int32)]) (rest := []) (w' := (MC g q d51)) cx hw (c_X5_finds l g q N (-1000000001 : Int32) d x50 d51 g52) (cl_X5_62 cx.1.2.2.2.2 ⟨Nat.le_of_ble_eq_true rfl, Nat.le_of_ble_eq_true rfl⟩) (x_recv cx hw (ci := 5) rfl 0 rfl) (Ct.all (MC_ll ..)) hl.1 rfl rfl (Nat.le_of_ble_eq_true rfl) dX5_copy_17 ⟨Nat.le_of_ble_eq_true rfl, Nat.le_of_ble_eq_true rfl⟩ (st1 := [.int x50]) rfl (fun H locs hw => ?_)
      exact r_i cx hr hlocks hw (pr1 h) (congrArg (fun z0 => (MC g q z0)) (pr2 h)) dX5_copy_20
set_option maxHeartbeats 4000000 in
set_option maxRecDepth 100000 in
theorem c_X5_wants (l : Launch) (g : gE) (q : Nat → Nat) (N : Nat) (p1 : Int32) (d : MD) (r : Int32) (h : f_X5_wants N  p1 d = some r) : MO l yX5_wants (Cond.code yX5_wants cX5_wants 2 (some .int) :: TB) rm_X5_wants [.ref (q 0), .int p1] g ((MC g q d)) ((MC g q d)) (some (.int r)) 0 0 := by
  refine MO.of (cc := cX5_wants) (maxL := 2) (ret := (some .int)) (by decide) ?_
  intro p e s m below meth c cx hw hr hlocks _
  have hx := cx.1.1
  have hb := cx.1.2.1
  refine en_go (lv := [(0, .ref (q 0)), (1, .int p1)]) (Nat.le_of_ble_eq_true rfl) rfl (fun ls hl => ?_)
  unfold f_X5_wants at h
  refine lv_iload_n hx hb dX5_wants_0 rfl (lv_at hl 1 rfl) ?_
  obtain ⟨x1, g2, h⟩ := bd_ex h
  refine c_S (As := [.int p1]) (rest := []) (w' := (MC g q d)) cx hw (c_X5_isSheet l g  N p1  x1 g2) (cl_X5_267 cx.1.2.2.2.2 ⟨Nat.le_of_ble_eq_true rfl, Nat.le_of_ble_eq_true rfl⟩) Ct.nil hl.1 rfl rfl (Nat.le_of_ble_eq_true rfl) dX5_wants_1 ⟨Nat.le_of_ble_eq_true rfl, Nat.le_of_ble_eq_true rfl⟩ (st1 := [.int x1]) rfl (fun H locs hw => ?_)
  refine lv_if_ne (tgt := 12) hx hb dX5_wants_4 (by decide) (fun c3 => ?_) (fun c3 => ?_)
  · replace h := ite_f c3 h
    refine lv_aload_n hx hb dX5_wants_12 rfl (lv_at hl 0 rfl) ?_
    refine gf_X5_28 cx hw 0 rfl rfl dX5_wants_13 ?_
    refine lv_iload_n hx hb dX5_wants_16 rfl (lv_at hl 1 rfl) ?_
    have ix4 := rd_in h
    refine x_iald cx hw 7 rfl ix4 dX5_wants_17 ?_
    refine lv_topi (fun x4 ex4 => ?_)
    replace h := rd_nx ex4 h
    refine lv_if_ge (tgt := 27) hx hb dX5_wants_18 (by decide) (fun c5 => ?_) (fun c5 => ?_)
    · replace h := ite_t c5 h
      refine lv_iconst (v := 0) hx hb dX5_wants_27 (by decide) ?_
      exact r_i cx hr hlocks hw (sm_eq h) rfl dX5_wants_28
    · replace h := ite_f c5 h
      refine lv_ldcw hx hb cx.1.2.2.2.1 (cx.1.2.2.2.2 _ tw_5_196) dX5_wants_21 ?_
      refine lv_goto (tgt := 28) hx hb dX5_wants_24 (by decide) ?_
      exact r_i cx hr hlocks hw (sm_eq h) rfl dX5_wants_28
  · replace h := ite_t c3 h
    refine lv_ldc hx hb cx.1.2.2.2.1 (cx.1.2.2.2.2 _ tw_4_79) dX5_wants_7 ?_
    refine lv_goto (tgt := 28) hx hb dX5_wants_9 (by decide) ?_
    exact r_i cx hr hlocks hw (sm_eq h) rfl dX5_wants_28
set_option maxHeartbeats 4000000 in
set_option maxRecDepth 100000 in
theorem c_X5_lays (l : Launch) (g : gE) (q : Nat → Nat) (N : Nat) (p1 : Int32) (p2 : Int32) (d : MD) (r : Int32) (d' : MD) (h : f_X5_lays N  p1 p2 d = some (r, d')) : MO l yX5_lays (Cond.code yX5_lays cX5_lays 8 (some .int) :: TB) rm_X5_lays [.ref (q 0), .int p1, .int p2] g ((MC g q d)) ((MC g q d')) (some (.int r)) 0 0 := by
  refine MO.of (cc := cX5_lays) (maxL := 8) (ret := (some .int)) (by decide) ?_
  intro p e s m below meth c cx hw hr hlocks _
  have hx := cx.1.1
  have hb := cx.1.2.1
  refine en_go (lv := [(0, .ref (q 0)), (1, .int p1), (2, .int p2)]) (Nat.le_of_ble_eq_true rfl) rfl (fun ls hl => ?_)
  have L47 : ∀ (n47 : Nat) (a1 : Int32) (a2 : Int32) (a4 : Int32) (a5 : Int32) (d_ : MD) (H : Heap) (locs : List Loc) (ls : Array Slot), Wd g (va_A ((MC g q d)) s.heap.size) ((MC g q d_)) s H locs → lv_has ls 8 [(0, .ref (q 0)), (1, .int a1), (2, .int a2), (4, .int a4), (5, .int a5)] → f_X5_lays_L47 N   n47 a1 a2 a4 a5 d_ = some (r, d') → W p l e rm_X5_lays s m ([.ref (q 0), .int p1, .int p2] : List Value).toArray below meth c H locs 0 0 (MQ below (QO (some (.int r)) g ((MC g q d')) (va_A ((MC g q d)) s.heap.size)) ([.ref (q 0), .int p1, .int p2] : List Value).toArray s 0 0 (va_A ((MC g q d)) s.heap.size)) (F0 m 47 ls []) := by
    intro n47
    induction n47 with
    | zero => intro a1 a2 a4 a5 d_ H locs ls hw hl h; exact (Option.some_ne_none _ h.symm).elim
    | succ n47 ih47 =>
      intro a1 a2 a4 a5 d_ H locs ls hw hl h
      rw [f_X5_lays_L47] at h
      refine lv_iload hx hb dX5_lays_47 (lv_at hl 4 rfl) ?_
      refine lv_aload_n hx hb dX5_lays_49 rfl (lv_at hl 0 rfl) ?_
      refine gf_X5_31 cx hw 0 rfl rfl dX5_lays_50 ?_
      refine lv_iload_n hx hb dX5_lays_53 rfl (lv_at hl 1 rfl) ?_
      have ix25 := rd_in h
      refine x_iald cx hw 8 rfl ix25 dX5_lays_54 ?_
      refine lv_topi (fun x25 ex25 => ?_)
      replace h := rd_nx ex25 h
      refine lv_icmp_ge (tgt := 113) hx hb dX5_lays_55 (by decide) (fun c26 => ?_) (fun c26 => ?_)
      · replace h := ite_t c26 h
        refine lv_iload hx hb dX5_lays_113 (lv_at hl 3 rfl) ?_
        exact r_i cx hr hlocks hw (pr1 h) (congrArg (fun z0 => (MC g q z0)) (pr2 h)) dX5_lays_115
      · replace h := ite_f c26 h
        refine lv_iload hx hb dX5_lays_58 (lv_at hl 4 rfl) ?_
        refine lv_bipush (v := 9) hx hb dX5_lays_60 (by decide) ?_
        refine lv_icmp_ge (tgt := 113) hx hb dX5_lays_62 (by decide) (fun c27 => ?_) (fun c27 => ?_)
        · replace h := ite_t c27 h
          refine lv_iload hx hb dX5_lays_113 (lv_at hl 3 rfl) ?_
          exact r_i cx hr hlocks hw (pr1 h) (congrArg (fun z0 => (MC g q z0)) (pr2 h)) dX5_lays_115
        · replace h := ite_f c27 h
          refine lv_aload_n hx hb dX5_lays_65 rfl (lv_at hl 0 rfl) ?_
          refine gf_X5_34 cx hw 0 rfl rfl dX5_lays_66 ?_
          refine lv_bipush (v := 40) hx hb dX5_lays_69 (by decide) ?_
          refine lv_iload_n hx hb dX5_lays_71 rfl (lv_at hl 1 rfl) ?_
          refine lv_imul hx hb dX5_lays_72 ?_
          refine lv_iload hx hb dX5_lays_73 (lv_at hl 4 rfl) ?_
          refine lv_iadd hx hb dX5_lays_75 ?_
          have ix28 := rdL_in h
          refine x_lald cx hw 9 rfl ix28 dX5_lays_76 ?_
          refine lv_topl (fun x28 ex28 => ?_)
          replace h := rdL_nx ex28 h
          refine lv_lstore (lv' := [(6, .long x28), (0, .ref (q 0)), (1, .int a1), (2, .int a2), (4, .int a4), (5, .int a5)]) hx hb dX5_lays_77 hl (by decide) rfl (fun ls hl => ?_)
          refine lv_lload hx hb dX5_lays_79 (lv_at hl 0 rfl) ?_
          refine lv_lconst (v := 0) hx hb dX5_lays_81 (by decide) ?_
          refine lv_ldc2 hx hb cx.1.2.2.2.1 (cx.1.2.2.2.2 _ tw_4_170) dX5_lays_82 ?_
          obtain ⟨x29, g30, h⟩ := bd_ex h
          refine c_S (As := [.long x28, .long (0 : Int64), .long (3 : Int64)]) (rest := []) (w' := (MC g q d_)) cx hw (c_X5_isIn l g  N x28 (0 : Int64) (3 : Int64)  x29 g30) (cl_X5_54 cx.1.2.2.2.2 ⟨Nat.le_of_ble_eq_true rfl, Nat.le_of_ble_eq_true rfl⟩) Ct.nil hl.1 rfl rfl (Nat.le_of_ble_eq_true rfl) dX5_lays_85 ⟨Nat.le_of_ble_eq_true rfl, Nat.le_of_ble_eq_true rfl⟩ (st1 := [.int x29]) rfl (fun H locs hw => ?_)
          refine lv_if_eq (tgt := 107) hx hb dX5_lays_88 (by decide) (fun c31 => ?_) (fun c31 => ?_)
          · replace h := ite_t c31 h
            obtain ⟨x32, ex32⟩ : ∃ y : Int32, y = (a5 + 1) := ⟨_, rfl⟩
            replace h := lt_nx ex32 h
            refine lv_iinc (v := x32) (lv' := [(5, .int x32), (6, .long x28), (0, .ref (q 0)), (1, .int a1), (2, .int a2), (4, .int a4)]) hx hb dX5_lays_107 hl (k := 5) rfl (by rw [ex32]; rfl) (by decide) rfl (fun ls hl => ?_)
            refine lv_goto (tgt := 47) hx hb dX5_lays_110 (by decide) ?_
            exact ih47 a1 a2 a4 x32 d_ _ _ _ hw (lv_sub hl [2, 3, 4, 5, 0] rfl) h
          · replace h := ite_f c31 h
            refine lv_aload_n hx hb dX5_lays_91 rfl (lv_at hl 1 rfl) ?_
            refine lv_iload_n hx hb dX5_lays_92 rfl (lv_at hl 3 rfl) ?_
            refine lv_bipush (v := 6) hx hb dX5_lays_93 (by decide) ?_
            refine lv_iload hx hb dX5_lays_95 (lv_at hl 5 rfl) ?_
            refine lv_iadd hx hb dX5_lays_97 ?_
            refine lv_lload hx hb dX5_lays_98 (lv_at hl 0 rfl) ?_
            refine lv_l2i hx hb dX5_lays_100 rfl ?_
            obtain ⟨d33, g34, h⟩ := bd_ex h
            refine c_V (As := [.int a2, .int ((6 : Int32) + a5), .int ((x28).toInt32)]) (rest := []) (w' := (MC g q d33)) cx hw (c_X5_puts l g q N a2 ((6 : Int32) + a5) ((x28).toInt32) d_ d33 g34) (cl_X5_71 cx.1.2.2.2.2 ⟨Nat.le_of_ble_eq_true rfl, Nat.le_of_ble_eq_true rfl⟩) (x_recv cx hw (ci := 5) rfl 0 rfl) (Ct.all (MC_ll ..)) hl.1 rfl rfl (Nat.le_of_ble_eq_true rfl) dX5_lays_101 ⟨Nat.le_of_ble_eq_true rfl, Nat.le_of_ble_eq_true rfl⟩ (st1 := []) rfl (fun H locs hw => ?_)
            obtain ⟨x35, ex35⟩ : ∃ y : Int32, y = (a4 + 1) := ⟨_, rfl⟩
            replace h := lt_nx ex35 h
            refine lv_iinc (v := x35) (lv' := [(4, .int x35), (6, .long x28), (0, .ref (q 0)), (1, .int a1), (2, .int a2), (5, .int a5)]) hx hb dX5_lays_104 hl (k := 4) rfl (by rw [ex35]; rfl) (by decide) rfl (fun ls hl => ?_)
            obtain ⟨x36, ex36⟩ : ∃ y : Int32, y = (a5 + 1) := ⟨_, rfl⟩
            replace h := lt_nx ex36 h
            refine lv_iinc (v := x36) (lv' := [(5, .int x36), (4, .int x35), (6, .long x28), (0, .ref (q 0)), (1, .int a1), (2, .int a2)]) hx hb dX5_lays_107 hl (k := 5) rfl (by rw [ex36]; rfl) (by decide) rfl (fun ls hl => ?_)
            refine lv_goto (tgt := 47) hx hb dX5_lays_110 (by decide) ?_
            exact ih47 a1 a2 x35 x36 d33 _ _ _ hw (lv_sub hl [3, 4, 5, 1, 0] rfl) h
  have J30 : ∀ (a1 : Int32) (a2 : Int32) (t0 : Int32) (d_ : MD) (H : Heap) (locs : List Loc) (ls : Array Slot), Wd g (va_A ((MC g q d)) s.heap.size) ((MC g q d_)) s H locs → lv_has ls 8 [(0, .ref (q 0)), (1, .int a1), (2, .int a2)] → f_X5_lays_J30 N   a1 a2 t0 d_ = some (r, d') → W p l e rm_X5_lays s m ([.ref (q 0), .int p1, .int p2] : List Value).toArray below meth c H locs 0 0 (MQ below (QO (some (.int r)) g ((MC g q d')) (va_A ((MC g q d)) s.heap.size)) ([.ref (q 0), .int p1, .int p2] : List Value).toArray s 0 0 (va_A ((MC g q d)) s.heap.size)) (F0 m 30 ls [.int t0]) := by
    intro a1 a2 t0 d_ H locs ls hw hl h
    unfold f_X5_lays_J30 at h
    refine lv_istore_n (lv' := [(3, .int t0), (0, .ref (q 0)), (1, .int a1), (2, .int a2)]) hx hb dX5_lays_30 rfl hl (by decide) rfl (fun ls hl => ?_)
    refine lv_iload_n hx hb dX5_lays_31 rfl (lv_at hl 0 rfl) ?_
    refine lv_if_eq (tgt := 41) hx hb dX5_lays_32 (by decide) (fun c37 => ?_) (fun c37 => ?_)
    · replace h := ite_t c37 h
      refine lv_iconst (v := 0) hx hb dX5_lays_41 (by decide) ?_
      refine lv_istore (lv' := [(4, .int (0 : Int32)), (3, .int t0), (0, .ref (q 0)), (1, .int a1), (2, .int a2)]) hx hb dX5_lays_42 hl (by decide) rfl (fun ls hl => ?_)
      refine lv_iconst (v := 0) hx hb dX5_lays_44 (by decide) ?_
      refine lv_istore (lv' := [(5, .int (0 : Int32)), (4, .int (0 : Int32)), (3, .int t0), (0, .ref (q 0)), (1, .int a1), (2, .int a2)]) hx hb dX5_lays_45 hl (by decide) rfl (fun ls hl => ?_)
      exact L47 N a1 a2 (0 : Int32) (0 : Int32) d_ _ _ _ hw (lv_sub hl [3, 4, 5, 1, 0] rfl) h
    · replace h := ite_f c37 h
      refine lv_aload_n hx hb dX5_lays_35 rfl (lv_at hl 1 rfl) ?_
      refine lv_iload_n hx hb dX5_lays_36 rfl (lv_at hl 0 rfl) ?_
      obtain ⟨x38, d39, g40, h⟩ := bd2_ex h
      refine c_V (As := [.int t0]) (rest := []) (w' := (MC g q d39)) cx hw (c_X5_finds l g q N t0 d_ x38 d39 g40) (cl_X5_62 cx.1.2.2.2.2 ⟨Nat.le_of_ble_eq_true rfl, Nat.le_of_ble_eq_true rfl⟩) (x_recv cx hw (ci := 5) rfl 0 rfl) (Ct.all (MC_ll ..)) hl.1 rfl rfl (Nat.le_of_ble_eq_true rfl) dX5_lays_37 ⟨Nat.le_of_ble_eq_true rfl, Nat.le_of_ble_eq_true rfl⟩ (st1 := [.int x38]) rfl (fun H locs hw => ?_)
      exact r_i cx hr hlocks hw (pr1 h) (congrArg (fun z0 => (MC g q z0)) (pr2 h)) dX5_lays_40
  unfold f_X5_lays at h
  refine lv_aload_n hx hb dX5_lays_0 rfl (lv_at hl 0 rfl) ?_
  refine lv_iload_n hx hb dX5_lays_1 rfl (lv_at hl 1 rfl) ?_
  obtain ⟨x1, g2, h⟩ := bd_ex h
  refine c_V (As := [.int p1]) (rest := []) (w' := (MC g q d)) cx hw (c_X5_wants l g q N p1 d x1 g2) (cl_X5_276 cx.1.2.2.2.2 ⟨Nat.le_of_ble_eq_true rfl, Nat.le_of_ble_eq_true rfl⟩) (x_recv cx hw (ci := 5) rfl 0 rfl) (Ct.all (MC_ll ..)) hl.1 rfl rfl (Nat.le_of_ble_eq_true rfl) dX5_lays_2 ⟨Nat.le_of_ble_eq_true rfl, Nat.le_of_ble_eq_true rfl⟩ (st1 := [.int x1]) rfl (fun H locs hw => ?_)
  refine lv_if_eq (tgt := 16) hx hb dX5_lays_5 (by decide) (fun c3 => ?_) (fun c3 => ?_)
  · replace h := ite_t c3 h
    refine lv_aload_n hx hb dX5_lays_16 rfl (lv_at hl 0 rfl) ?_
    refine lv_iload_n hx hb dX5_lays_17 rfl (lv_at hl 2 rfl) ?_
    obtain ⟨x4, g5, h⟩ := bd_ex h
    refine c_V (As := [.int p2]) (rest := []) (w' := (MC g q d)) cx hw (c_X5_isOne l g q N p2 d x4 g5) (cl_X5_43 cx.1.2.2.2.2 ⟨Nat.le_of_ble_eq_true rfl, Nat.le_of_ble_eq_true rfl⟩) (x_recv cx hw (ci := 5) rfl 0 rfl) (Ct.all (MC_ll ..)) hl.1 rfl rfl (Nat.le_of_ble_eq_true rfl) dX5_lays_18 ⟨Nat.le_of_ble_eq_true rfl, Nat.le_of_ble_eq_true rfl⟩ (st1 := [.int x4]) rfl (fun H locs hw => ?_)
    refine lv_if_eq (tgt := 28) hx hb dX5_lays_21 (by decide) (fun c6 => ?_) (fun c6 => ?_)
    · replace h := ite_t c6 h
      refine lv_ldc hx hb cx.1.2.2.2.1 (cx.1.2.2.2.2 _ tw_4_79) dX5_lays_28 ?_
      exact J30 p1 p2 (-1000000001 : Int32) d _ _ _ hw (lv_sub hl [0, 1, 2] rfl) h
    · replace h := ite_f c6 h
      refine lv_iconst (v := 0) hx hb dX5_lays_24 (by decide) ?_
      refine lv_goto (tgt := 30) hx hb dX5_lays_25 (by decide) ?_
      exact J30 p1 p2 (0 : Int32) d _ _ _ hw (lv_sub hl [0, 1, 2] rfl) h
  · replace h := ite_f c3 h
    refine lv_aload_n hx hb dX5_lays_8 rfl (lv_at hl 0 rfl) ?_
    refine lv_iload_n hx hb dX5_lays_9 rfl (lv_at hl 1 rfl) ?_
    obtain ⟨x7, g8, h⟩ := bd_ex h
    refine c_V (As := [.int p1]) (rest := []) (w' := (MC g q d)) cx hw (c_X5_wants l g q N p1 d x7 g8) (cl_X5_276 cx.1.2.2.2.2 ⟨Nat.le_of_ble_eq_true rfl, Nat.le_of_ble_eq_true rfl⟩) (x_recv cx hw (ci := 5) rfl 0 rfl) (Ct.all (MC_ll ..)) hl.1 rfl rfl (Nat.le_of_ble_eq_true rfl) dX5_lays_10 ⟨Nat.le_of_ble_eq_true rfl, Nat.le_of_ble_eq_true rfl⟩ (st1 := [.int x7]) rfl (fun H locs hw => ?_)
    refine lv_goto (tgt := 30) hx hb dX5_lays_13 (by decide) ?_
    exact J30 p1 p2 x7 d _ _ _ hw (lv_sub hl [0, 1, 2] rfl) h
set_option maxHeartbeats 4000000 in
set_option maxRecDepth 100000 in
theorem c_X5_book (l : Launch) (g : gE) (q : Nat → Nat) (N : Nat) (p1 : Int32) (p2 : Int32) (d : MD) (r : Int32) (d' : MD) (h : f_X5_book N  p1 p2 d = some (r, d')) : MO l yX5_book (Cond.code yX5_book cX5_book 7 (some .int) :: TB) rm_X5_book [.ref (q 0), .int p1, .int p2] g ((MC g q d)) ((MC g q d')) (some (.int r)) 0 0 := by
  refine MO.of (cc := cX5_book) (maxL := 7) (ret := (some .int)) (by decide) ?_
  intro p e s m below meth c cx hw hr hlocks _
  have hx := cx.1.1
  have hb := cx.1.2.1
  refine en_go (lv := [(0, .ref (q 0)), (1, .int p1), (2, .int p2)]) (Nat.le_of_ble_eq_true rfl) rfl (fun ls hl => ?_)
  have L49 : ∀ (n49 : Nat) (a1 : Int32) (a5 : Int32) (a6 : Int32) (d_ : MD) (H : Heap) (locs : List Loc) (ls : Array Slot), Wd g (va_A ((MC g q d)) s.heap.size) ((MC g q d_)) s H locs → lv_has ls 7 [(0, .ref (q 0)), (1, .int a1), (5, .int a5), (6, .int a6)] → f_X5_book_L49 N   n49 a1 a5 a6 d_ = some (r, d') → W p l e rm_X5_book s m ([.ref (q 0), .int p1, .int p2] : List Value).toArray below meth c H locs 0 0 (MQ below (QO (some (.int r)) g ((MC g q d')) (va_A ((MC g q d)) s.heap.size)) ([.ref (q 0), .int p1, .int p2] : List Value).toArray s 0 0 (va_A ((MC g q d)) s.heap.size)) (F0 m 49 ls []) := by
    intro n49
    induction n49 with
    | zero => intro a1 a5 a6 d_ H locs ls hw hl h; exact (Option.some_ne_none _ h.symm).elim
    | succ n49 ih49 =>
      intro a1 a5 a6 d_ H locs ls hw hl h
      rw [f_X5_book_L49] at h
      refine lv_iload hx hb dX5_book_49 (lv_at hl 3 rfl) ?_
      refine lv_aload_n hx hb dX5_book_51 rfl (lv_at hl 0 rfl) ?_
      refine gf_X5_31 cx hw 0 rfl rfl dX5_book_52 ?_
      refine lv_iload_n hx hb dX5_book_55 rfl (lv_at hl 1 rfl) ?_
      have ix34 := rd_in h
      refine x_iald cx hw 8 rfl ix34 dX5_book_56 ?_
      refine lv_topi (fun x34 ex34 => ?_)
      replace h := rd_nx ex34 h
      refine lv_icmp_ge (tgt := 108) hx hb dX5_book_57 (by decide) (fun c35 => ?_) (fun c35 => ?_)
      · replace h := ite_t c35 h
        refine lv_aload_n hx hb dX5_book_108 rfl (lv_at hl 0 rfl) ?_
        obtain ⟨d36, g37, h⟩ := bd_ex h
        refine c_V (As := []) (rest := []) (w' := (MC g q d36)) cx hw (c_X5_laysBack l g q N  d_ d36 g37) (cl_X5_176 cx.1.2.2.2.2 ⟨Nat.le_of_ble_eq_true rfl, Nat.le_of_ble_eq_true rfl⟩) (x_recv cx hw (ci := 5) rfl 0 rfl) (Ct.all (MC_ll ..)) hl.1 rfl rfl (Nat.le_of_ble_eq_true rfl) dX5_book_109 ⟨Nat.le_of_ble_eq_true rfl, Nat.le_of_ble_eq_true rfl⟩ (st1 := []) rfl (fun H locs hw => ?_)
        refine lv_iload hx hb dX5_book_112 (lv_at hl 2 rfl) ?_
        exact r_i cx hr hlocks hw (pr1 h) (congrArg (fun z0 => (MC g q z0)) (pr2 h)) dX5_book_114
      · replace h := ite_f c35 h
        refine lv_iload hx hb dX5_book_60 (lv_at hl 3 rfl) ?_
        refine lv_aload_n hx hb dX5_book_62 rfl (lv_at hl 0 rfl) ?_
        refine gf_X5_7 cx hw 0 rfl rfl dX5_book_63 ?_
        refine lv_iconst (v := 0) hx hb dX5_book_66 (by decide) ?_
        have ix38 := rd_in h
        refine x_iald cx hw 1 rfl ix38 dX5_book_67 ?_
        refine lv_topi (fun x38 ex38 => ?_)
        replace h := rd_nx ex38 h
        refine lv_icmp_ge (tgt := 108) hx hb dX5_book_68 (by decide) (fun c39 => ?_) (fun c39 => ?_)
        · replace h := ite_t c39 h
          refine lv_aload_n hx hb dX5_book_108 rfl (lv_at hl 0 rfl) ?_
          obtain ⟨d40, g41, h⟩ := bd_ex h
          refine c_V (As := []) (rest := []) (w' := (MC g q d40)) cx hw (c_X5_laysBack l g q N  d_ d40 g41) (cl_X5_176 cx.1.2.2.2.2 ⟨Nat.le_of_ble_eq_true rfl, Nat.le_of_ble_eq_true rfl⟩) (x_recv cx hw (ci := 5) rfl 0 rfl) (Ct.all (MC_ll ..)) hl.1 rfl rfl (Nat.le_of_ble_eq_true rfl) dX5_book_109 ⟨Nat.le_of_ble_eq_true rfl, Nat.le_of_ble_eq_true rfl⟩ (st1 := []) rfl (fun H locs hw => ?_)
          refine lv_iload hx hb dX5_book_112 (lv_at hl 2 rfl) ?_
          exact r_i cx hr hlocks hw (pr1 h) (congrArg (fun z0 => (MC g q z0)) (pr2 h)) dX5_book_114
        · replace h := ite_f c39 h
          refine lv_aload_n hx hb dX5_book_71 rfl (lv_at hl 0 rfl) ?_
          refine gf_X5_34 cx hw 0 rfl rfl dX5_book_72 ?_
          refine lv_bipush (v := 40) hx hb dX5_book_75 (by decide) ?_
          refine lv_iload_n hx hb dX5_book_77 rfl (lv_at hl 1 rfl) ?_
          refine lv_imul hx hb dX5_book_78 ?_
          refine lv_iload hx hb dX5_book_79 (lv_at hl 3 rfl) ?_
          refine lv_iadd hx hb dX5_book_81 ?_
          refine lv_aload_n hx hb dX5_book_82 rfl (lv_at hl 0 rfl) ?_
          refine gf_X5_28 cx hw 0 rfl rfl dX5_book_83 ?_
          refine lv_iload_n hx hb dX5_book_86 rfl (lv_at hl 1 rfl) ?_
          have ix42 := rd_in h
          refine x_iald cx hw 7 rfl ix42 dX5_book_87 ?_
          refine lv_topi (fun x42 ex42 => ?_)
          replace h := rd_nx ex42 h
          refine lv_aload_n hx hb dX5_book_88 rfl (lv_at hl 0 rfl) ?_
          refine lv_iload hx hb dX5_book_89 (lv_at hl 3 rfl) ?_
          obtain ⟨x43, g44, h⟩ := bd_ex h
          refine c_V (As := [.int a6]) (rest := [.int x42, .int (((40 : Int32) * a1) + a6), .ref (q 9)]) (w' := (MC g q d_)) cx hw (c_X5_heirFor l g q N a6 d_ x43 g44) (cl_X5_113 cx.1.2.2.2.2 ⟨Nat.le_of_ble_eq_true rfl, Nat.le_of_ble_eq_true rfl⟩) (x_recv cx hw (ci := 5) rfl 0 rfl) (Ct.all (MC_ll ..)) hl.1 rfl rfl (Nat.le_of_ble_eq_true rfl) dX5_book_91 ⟨Nat.le_of_ble_eq_true rfl, Nat.le_of_ble_eq_true rfl⟩ (st1 := [.int x43, .int x42, .int (((40 : Int32) * a1) + a6), .ref (q 9)]) rfl (fun H locs hw => ?_)
          refine lv_i2l hx hb dX5_book_94 rfl ?_
          obtain ⟨x45, g46, h⟩ := bd_ex h
          refine c_S (As := [.int x42, .long ((x43).toInt64)]) (rest := [.int (((40 : Int32) * a1) + a6), .ref (q 9)]) (w' := (MC g q d_)) cx hw (c_X5_narrow l g  N x42 ((x43).toInt64)  x45 g46) (cl_X5_272 cx.1.2.2.2.2 ⟨Nat.le_of_ble_eq_true rfl, Nat.le_of_ble_eq_true rfl⟩) Ct.nil hl.1 rfl rfl (Nat.le_of_ble_eq_true rfl) dX5_book_95 ⟨Nat.le_of_ble_eq_true rfl, Nat.le_of_ble_eq_true rfl⟩ (st1 := [.long x45, .int (((40 : Int32) * a1) + a6), .ref (q 9)]) rfl (fun H locs hw => ?_)
          have i47 := ck_in h
          replace h := ck_nx h
          refine x_last cx hw 9 rfl i47 dX5_book_98 (fun H locs hw => ?_)
          obtain ⟨d48, ed48, h⟩ := lt_ex h
          have hw : Wd g (va_A ((MC g q d)) s.heap.size) ((MC g q d48)) s H locs := by rw [ed48]; exact hw
          obtain ⟨x49, ex49⟩ : ∃ y : Int32, y = (a5 + 1) := ⟨_, rfl⟩
          replace h := lt_nx ex49 h
          refine lv_iinc (v := x49) (lv' := [(5, .int x49), (0, .ref (q 0)), (1, .int a1), (6, .int a6)]) hx hb dX5_book_99 hl (k := 2) rfl (by rw [ex49]; rfl) (by decide) rfl (fun ls hl => ?_)
          obtain ⟨x50, ex50⟩ : ∃ y : Int32, y = (a6 + 1) := ⟨_, rfl⟩
          replace h := lt_nx ex50 h
          refine lv_iinc (v := x50) (lv' := [(6, .int x50), (5, .int x49), (0, .ref (q 0)), (1, .int a1)]) hx hb dX5_book_102 hl (k := 3) rfl (by rw [ex50]; rfl) (by decide) rfl (fun ls hl => ?_)
          refine lv_goto (tgt := 49) hx hb dX5_book_105 (by decide) ?_
          exact ih49 a1 x49 x50 d48 _ _ _ hw (lv_sub hl [2, 3, 1, 0] rfl) h
  have J21 : ∀ (a1 : Int32) (a2 : Int32) (t0 : Int32) (d_ : MD) (H : Heap) (locs : List Loc) (ls : Array Slot), Wd g (va_A ((MC g q d)) s.heap.size) ((MC g q d_)) s H locs → lv_has ls 7 [(0, .ref (q 0)), (1, .int a1), (2, .int a2)] → f_X5_book_J21 N   a1 a2 t0 d_ = some (r, d') → W p l e rm_X5_book s m ([.ref (q 0), .int p1, .int p2] : List Value).toArray below meth c H locs 0 0 (MQ below (QO (some (.int r)) g ((MC g q d')) (va_A ((MC g q d)) s.heap.size)) ([.ref (q 0), .int p1, .int p2] : List Value).toArray s 0 0 (va_A ((MC g q d)) s.heap.size)) (F0 m 21 ls [.int t0]) := by
    intro a1 a2 t0 d_ H locs ls hw hl h
    unfold f_X5_book_J21 at h
    refine lv_istore_n (lv' := [(3, .int t0), (0, .ref (q 0)), (1, .int a1), (2, .int a2)]) hx hb dX5_book_21 rfl hl (by decide) rfl (fun ls hl => ?_)
    refine lv_iload_n hx hb dX5_book_22 rfl (lv_at hl 0 rfl) ?_
    refine lv_if_eq (tgt := 32) hx hb dX5_book_23 (by decide) (fun c51 => ?_) (fun c51 => ?_)
    · replace h := ite_t c51 h
      refine lv_aload_n hx hb dX5_book_32 rfl (lv_at hl 1 rfl) ?_
      obtain ⟨d52, g53, h⟩ := bd_ex h
      refine c_V (As := []) (rest := []) (w' := (MC g q d52)) cx hw (c_X5_laysBy l g q N  d_ d52 g53) (cl_X5_173 cx.1.2.2.2.2 ⟨Nat.le_of_ble_eq_true rfl, Nat.le_of_ble_eq_true rfl⟩) (x_recv cx hw (ci := 5) rfl 0 rfl) (Ct.all (MC_ll ..)) hl.1 rfl rfl (Nat.le_of_ble_eq_true rfl) dX5_book_33 ⟨Nat.le_of_ble_eq_true rfl, Nat.le_of_ble_eq_true rfl⟩ (st1 := []) rfl (fun H locs hw => ?_)
      refine lv_aload_n hx hb dX5_book_36 rfl (lv_at hl 1 rfl) ?_
      refine lv_iload_n hx hb dX5_book_37 rfl (lv_at hl 3 rfl) ?_
      obtain ⟨x54, d55, g56, h⟩ := bd2_ex h
      refine c_V (As := [.int a2]) (rest := []) (w' := (MC g q d55)) cx hw (c_X5_goesOnMany l g q N a2 d52 x54 d55 g56) (cl_X5_160 cx.1.2.2.2.2 ⟨Nat.le_of_ble_eq_true rfl, Nat.le_of_ble_eq_true rfl⟩) (x_recv cx hw (ci := 5) rfl 0 rfl) (Ct.all (MC_ll ..)) hl.1 rfl rfl (Nat.le_of_ble_eq_true rfl) dX5_book_38 ⟨Nat.le_of_ble_eq_true rfl, Nat.le_of_ble_eq_true rfl⟩ (st1 := [.int x54]) rfl (fun H locs hw => ?_)
      refine lv_istore (lv' := [(4, .int x54), (3, .int t0), (0, .ref (q 0)), (1, .int a1), (2, .int a2)]) hx hb dX5_book_41 hl (by decide) rfl (fun ls hl => ?_)
      refine lv_iconst (v := 0) hx hb dX5_book_43 (by decide) ?_
      refine lv_istore (lv' := [(5, .int (0 : Int32)), (4, .int x54), (3, .int t0), (0, .ref (q 0)), (1, .int a1), (2, .int a2)]) hx hb dX5_book_44 hl (by decide) rfl (fun ls hl => ?_)
      refine lv_iconst (v := 0) hx hb dX5_book_46 (by decide) ?_
      refine lv_istore (lv' := [(6, .int (0 : Int32)), (5, .int (0 : Int32)), (4, .int x54), (3, .int t0), (0, .ref (q 0)), (1, .int a1), (2, .int a2)]) hx hb dX5_book_47 hl (by decide) rfl (fun ls hl => ?_)
      exact L49 N a1 (0 : Int32) (0 : Int32) d55 _ _ _ hw (lv_sub hl [4, 5, 1, 0] rfl) h
    · replace h := ite_f c51 h
      refine lv_aload_n hx hb dX5_book_26 rfl (lv_at hl 1 rfl) ?_
      refine lv_iload_n hx hb dX5_book_27 rfl (lv_at hl 0 rfl) ?_
      obtain ⟨x57, d58, g59, h⟩ := bd2_ex h
      refine c_V (As := [.int t0]) (rest := []) (w' := (MC g q d58)) cx hw (c_X5_finds l g q N t0 d_ x57 d58 g59) (cl_X5_62 cx.1.2.2.2.2 ⟨Nat.le_of_ble_eq_true rfl, Nat.le_of_ble_eq_true rfl⟩) (x_recv cx hw (ci := 5) rfl 0 rfl) (Ct.all (MC_ll ..)) hl.1 rfl rfl (Nat.le_of_ble_eq_true rfl) dX5_book_28 ⟨Nat.le_of_ble_eq_true rfl, Nat.le_of_ble_eq_true rfl⟩ (st1 := [.int x57]) rfl (fun H locs hw => ?_)
      exact r_i cx hr hlocks hw (pr1 h) (congrArg (fun z0 => (MC g q z0)) (pr2 h)) dX5_book_31
  unfold f_X5_book at h
  refine lv_aload_n hx hb dX5_book_0 rfl (lv_at hl 0 rfl) ?_
  refine lv_iload_n hx hb dX5_book_1 rfl (lv_at hl 1 rfl) ?_
  obtain ⟨x1, g2, h⟩ := bd_ex h
  refine c_V (As := [.int p1]) (rest := []) (w' := (MC g q d)) cx hw (c_X5_wants l g q N p1 d x1 g2) (cl_X5_276 cx.1.2.2.2.2 ⟨Nat.le_of_ble_eq_true rfl, Nat.le_of_ble_eq_true rfl⟩) (x_recv cx hw (ci := 5) rfl 0 rfl) (Ct.all (MC_ll ..)) hl.1 rfl rfl (Nat.le_of_ble_eq_true rfl) dX5_book_2 ⟨Nat.le_of_ble_eq_true rfl, Nat.le_of_ble_eq_true rfl⟩ (st1 := [.int x1]) rfl (fun H locs hw => ?_)
  refine lv_if_eq (tgt := 16) hx hb dX5_book_5 (by decide) (fun c3 => ?_) (fun c3 => ?_)
  · replace h := ite_t c3 h
    refine lv_aload_n hx hb dX5_book_16 rfl (lv_at hl 0 rfl) ?_
    refine lv_iload_n hx hb dX5_book_17 rfl (lv_at hl 2 rfl) ?_
    obtain ⟨x4, g5, h⟩ := bd_ex h
    refine c_V (As := [.int p2]) (rest := []) (w' := (MC g q d)) cx hw (c_X5_barsOn l g q N p2 d x4 g5) (cl_X5_170 cx.1.2.2.2.2 ⟨Nat.le_of_ble_eq_true rfl, Nat.le_of_ble_eq_true rfl⟩) (x_recv cx hw (ci := 5) rfl 0 rfl) (Ct.all (MC_ll ..)) hl.1 rfl rfl (Nat.le_of_ble_eq_true rfl) dX5_book_18 ⟨Nat.le_of_ble_eq_true rfl, Nat.le_of_ble_eq_true rfl⟩ (st1 := [.int x4]) rfl (fun H locs hw => ?_)
    exact J21 p1 p2 x4 d _ _ _ hw (lv_sub hl [0, 1, 2] rfl) h
  · replace h := ite_f c3 h
    refine lv_aload_n hx hb dX5_book_8 rfl (lv_at hl 0 rfl) ?_
    refine lv_iload_n hx hb dX5_book_9 rfl (lv_at hl 1 rfl) ?_
    obtain ⟨x6, g7, h⟩ := bd_ex h
    refine c_V (As := [.int p1]) (rest := []) (w' := (MC g q d)) cx hw (c_X5_wants l g q N p1 d x6 g7) (cl_X5_276 cx.1.2.2.2.2 ⟨Nat.le_of_ble_eq_true rfl, Nat.le_of_ble_eq_true rfl⟩) (x_recv cx hw (ci := 5) rfl 0 rfl) (Ct.all (MC_ll ..)) hl.1 rfl rfl (Nat.le_of_ble_eq_true rfl) dX5_book_10 ⟨Nat.le_of_ble_eq_true rfl, Nat.le_of_ble_eq_true rfl⟩ (st1 := [.int x6]) rfl (fun H locs hw => ?_)
    refine lv_goto (tgt := 21) hx hb dX5_book_13 (by decide) ?_
    exact J21 p1 p2 x6 d _ _ _ hw (lv_sub hl [0, 1, 2] rfl) h
set_option maxHeartbeats 4000000 in
set_option maxRecDepth 100000 in
theorem c_X5_likeStranger (l : Launch) (g : gE) (q : Nat → Nat) (N : Nat) (p1 : Int32) (p2 : Int32) (d : MD) (r : Int32) (h : f_X5_likeStranger N  p1 p2 d = some r) : MO l yX5_likeStranger (Cond.code yX5_likeStranger cX5_likeStranger 8 (some .int) :: TB) rm_X5_likeStranger [.ref (q 0), .int p1, .int p2] g ((MC g q d)) ((MC g q d)) (some (.int r)) 0 0 := by
  refine MO.of (cc := cX5_likeStranger) (maxL := 8) (ret := (some .int)) (by decide) ?_
  intro p e s m below meth c cx hw hr hlocks _
  have hx := cx.1.1
  have hb := cx.1.2.1
  refine en_go (lv := [(0, .ref (q 0)), (1, .int p1), (2, .int p2)]) (Nat.le_of_ble_eq_true rfl) rfl (fun ls hl => ?_)
  have L5 : ∀ (n5 : Nat) (a1 : Int32) (a2 : Int32) (a3 : Int32) (a4 : Int32) (H : Heap) (locs : List Loc) (ls : Array Slot), Wd g (va_A ((MC g q d)) s.heap.size) ((MC g q d)) s H locs → lv_has ls 8 [(0, .ref (q 0)), (1, .int a1), (2, .int a2), (3, .int a3), (4, .int a4)] → f_X5_likeStranger_L5 N d  n5 a1 a2 a3 a4 = some r → W p l e rm_X5_likeStranger s m ([.ref (q 0), .int p1, .int p2] : List Value).toArray below meth c H locs 0 0 (MQ below (QO (some (.int r)) g ((MC g q d)) (va_A ((MC g q d)) s.heap.size)) ([.ref (q 0), .int p1, .int p2] : List Value).toArray s 0 0 (va_A ((MC g q d)) s.heap.size)) (F0 m 5 ls []) := by
    intro n5
    induction n5 with
    | zero => intro a1 a2 a3 a4 H locs ls hw hl h; exact (Option.some_ne_none _ h.symm).elim
    | succ n5 ih5 =>
      have J76 : ∀ (a1 : Int32) (a2 : Int32) (a3 : Int32) (a4 : Int32) (a5 : Int64) (t0 : Int32) (H : Heap) (locs : List Loc) (ls : Array Slot), Wd g (va_A ((MC g q d)) s.heap.size) ((MC g q d)) s H locs → lv_has ls 8 [(0, .ref (q 0)), (1, .int a1), (2, .int a2), (3, .int a3), (4, .int a4), (5, .long a5)] → f_X5_likeStranger_J76 N d (f_X5_likeStranger_L5 N d  n5) a1 a2 a3 a4 a5 t0 = some r → W p l e rm_X5_likeStranger s m ([.ref (q 0), .int p1, .int p2] : List Value).toArray below meth c H locs 0 0 (MQ below (QO (some (.int r)) g ((MC g q d)) (va_A ((MC g q d)) s.heap.size)) ([.ref (q 0), .int p1, .int p2] : List Value).toArray s 0 0 (va_A ((MC g q d)) s.heap.size)) (F0 m 76 ls [.int t0]) := by
        intro a1 a2 a3 a4 a5 t0 H locs ls hw hl h
        unfold f_X5_likeStranger_J76 at h
        refine lv_istore (lv' := [(7, .int t0), (0, .ref (q 0)), (1, .int a1), (2, .int a2), (3, .int a3), (4, .int a4), (5, .long a5)]) hx hb dX5_likeStranger_76 hl (by decide) rfl (fun ls hl => ?_)
        refine lv_iload_n hx hb dX5_likeStranger_78 rfl (lv_at hl 4 rfl) ?_
        refine lv_lload hx hb dX5_likeStranger_79 (lv_at hl 6 rfl) ?_
        refine lv_lconst (v := 0) hx hb dX5_likeStranger_81 (by decide) ?_
        refine lv_ldc2 hx hb cx.1.2.2.2.1 (cx.1.2.2.2.2 _ tw_4_170) dX5_likeStranger_82 ?_
        obtain ⟨x23, g24, h⟩ := bd_ex h
        refine c_S (As := [.long a5, .long (0 : Int64), .long (3 : Int64)]) (rest := [.int a3]) (w' := (MC g q d)) cx hw (c_X5_isIn l g  N a5 (0 : Int64) (3 : Int64)  x23 g24) (cl_X5_54 cx.1.2.2.2.2 ⟨Nat.le_of_ble_eq_true rfl, Nat.le_of_ble_eq_true rfl⟩) Ct.nil hl.1 rfl rfl (Nat.le_of_ble_eq_true rfl) dX5_likeStranger_85 ⟨Nat.le_of_ble_eq_true rfl, Nat.le_of_ble_eq_true rfl⟩ (st1 := [.int x23, .int a3]) rfl (fun H locs hw => ?_)
        refine lv_if_eq (tgt := 108) hx hb dX5_likeStranger_88 (by decide) (fun c25 => ?_) (fun c25 => ?_)
        · replace h := ite_t c25 h
          refine lv_iconst (v := 0) hx hb dX5_likeStranger_108 (by decide) ?_
          refine lv_iadd hx hb dX5_likeStranger_109 ?_
          refine lv_topi (fun x26 ex26 => ?_)
          replace h := lt_nx ex26 h
          refine lv_istore_n (lv' := [(3, .int x26), (7, .int t0), (0, .ref (q 0)), (1, .int a1), (2, .int a2), (4, .int a4), (5, .long a5)]) hx hb dX5_likeStranger_110 rfl hl (by decide) rfl (fun ls hl => ?_)
          obtain ⟨x27, ex27⟩ : ∃ y : Int32, y = (a4 + 1) := ⟨_, rfl⟩
          replace h := lt_nx ex27 h
          refine lv_iinc (v := x27) (lv' := [(4, .int x27), (3, .int x26), (7, .int t0), (0, .ref (q 0)), (1, .int a1), (2, .int a2), (5, .long a5)]) hx hb dX5_likeStranger_111 hl (k := 5) rfl (by rw [ex27]; rfl) (by decide) rfl (fun ls hl => ?_)
          refine lv_goto (tgt := 5) hx hb dX5_likeStranger_114 (by decide) ?_
          exact ih5 a1 a2 x26 x27 _ _ _ hw (lv_sub hl [3, 4, 5, 1, 0] rfl) h
        · replace h := ite_f c25 h
          refine lv_iload hx hb dX5_likeStranger_91 (lv_at hl 0 rfl) ?_
          refine lv_if_eq (tgt := 108) hx hb dX5_likeStranger_93 (by decide) (fun c28 => ?_) (fun c28 => ?_)
          · replace h := ite_t c28 h
            refine lv_iconst (v := 0) hx hb dX5_likeStranger_108 (by decide) ?_
            refine lv_iadd hx hb dX5_likeStranger_109 ?_
            refine lv_topi (fun x29 ex29 => ?_)
            replace h := lt_nx ex29 h
            refine lv_istore_n (lv' := [(3, .int x29), (7, .int t0), (0, .ref (q 0)), (1, .int a1), (2, .int a2), (4, .int a4), (5, .long a5)]) hx hb dX5_likeStranger_110 rfl hl (by decide) rfl (fun ls hl => ?_)
            obtain ⟨x30, ex30⟩ : ∃ y : Int32, y = (a4 + 1) := ⟨_, rfl⟩
            replace h := lt_nx ex30 h
            refine lv_iinc (v := x30) (lv' := [(4, .int x30), (3, .int x29), (7, .int t0), (0, .ref (q 0)), (1, .int a1), (2, .int a2), (5, .long a5)]) hx hb dX5_likeStranger_111 hl (k := 5) rfl (by rw [ex30]; rfl) (by decide) rfl (fun ls hl => ?_)
            refine lv_goto (tgt := 5) hx hb dX5_likeStranger_114 (by decide) ?_
            exact ih5 a1 a2 x29 x30 _ _ _ hw (lv_sub hl [3, 4, 5, 1, 0] rfl) h
          · replace h := ite_f c28 h
            refine lv_aload_n hx hb dX5_likeStranger_96 rfl (lv_at hl 1 rfl) ?_
            refine gf_X5_7 cx hw 0 rfl rfl dX5_likeStranger_97 ?_
            refine lv_iconst (v := 3) hx hb dX5_likeStranger_100 (by decide) ?_
            refine lv_iload hx hb dX5_likeStranger_101 (lv_at hl 5 rfl) ?_
            refine lv_iadd hx hb dX5_likeStranger_103 ?_
            have ix31 := rd_in h
            refine x_iald cx hw 1 rfl ix31 dX5_likeStranger_104 ?_
            refine lv_topi (fun x31 ex31 => ?_)
            replace h := rd_nx ex31 h
            refine lv_goto (tgt := 109) hx hb dX5_likeStranger_105 (by decide) ?_
            refine lv_iadd hx hb dX5_likeStranger_109 ?_
            refine lv_topi (fun x32 ex32 => ?_)
            replace h := lt_nx ex32 h
            refine lv_istore_n (lv' := [(3, .int x32), (7, .int t0), (0, .ref (q 0)), (1, .int a1), (2, .int a2), (4, .int a4), (5, .long a5)]) hx hb dX5_likeStranger_110 rfl hl (by decide) rfl (fun ls hl => ?_)
            obtain ⟨x33, ex33⟩ : ∃ y : Int32, y = (a4 + 1) := ⟨_, rfl⟩
            replace h := lt_nx ex33 h
            refine lv_iinc (v := x33) (lv' := [(4, .int x33), (3, .int x32), (7, .int t0), (0, .ref (q 0)), (1, .int a1), (2, .int a2), (5, .long a5)]) hx hb dX5_likeStranger_111 hl (k := 5) rfl (by rw [ex33]; rfl) (by decide) rfl (fun ls hl => ?_)
            refine lv_goto (tgt := 5) hx hb dX5_likeStranger_114 (by decide) ?_
            exact ih5 a1 a2 x32 x33 _ _ _ hw (lv_sub hl [3, 4, 5, 1, 0] rfl) h
      have J75 : ∀ (a1 : Int32) (a2 : Int32) (a3 : Int32) (a4 : Int32) (a5 : Int64) (H : Heap) (locs : List Loc) (ls : Array Slot), Wd g (va_A ((MC g q d)) s.heap.size) ((MC g q d)) s H locs → lv_has ls 8 [(0, .ref (q 0)), (1, .int a1), (2, .int a2), (3, .int a3), (4, .int a4), (5, .long a5)] → f_X5_likeStranger_J75 N d (f_X5_likeStranger_L5 N d  n5) a1 a2 a3 a4 a5 = some r → W p l e rm_X5_likeStranger s m ([.ref (q 0), .int p1, .int p2] : List Value).toArray below meth c H locs 0 0 (MQ below (QO (some (.int r)) g ((MC g q d)) (va_A ((MC g q d)) s.heap.size)) ([.ref (q 0), .int p1, .int p2] : List Value).toArray s 0 0 (va_A ((MC g q d)) s.heap.size)) (F0 m 75 ls []) := by
        intro a1 a2 a3 a4 a5 H locs ls hw hl h
        unfold f_X5_likeStranger_J75 at h
        refine lv_iconst (v := 0) hx hb dX5_likeStranger_75 (by decide) ?_
        exact J76 a1 a2 a3 a4 a5 (0 : Int32) _ _ _ hw (lv_sub hl [0, 1, 2, 3, 4, 5] rfl) h
      have J71 : ∀ (a1 : Int32) (a2 : Int32) (a3 : Int32) (a4 : Int32) (a5 : Int64) (H : Heap) (locs : List Loc) (ls : Array Slot), Wd g (va_A ((MC g q d)) s.heap.size) ((MC g q d)) s H locs → lv_has ls 8 [(0, .ref (q 0)), (1, .int a1), (2, .int a2), (3, .int a3), (4, .int a4), (5, .long a5)] → f_X5_likeStranger_J71 N d (f_X5_likeStranger_L5 N d  n5) a1 a2 a3 a4 a5 = some r → W p l e rm_X5_likeStranger s m ([.ref (q 0), .int p1, .int p2] : List Value).toArray below meth c H locs 0 0 (MQ below (QO (some (.int r)) g ((MC g q d)) (va_A ((MC g q d)) s.heap.size)) ([.ref (q 0), .int p1, .int p2] : List Value).toArray s 0 0 (va_A ((MC g q d)) s.heap.size)) (F0 m 71 ls []) := by
        intro a1 a2 a3 a4 a5 H locs ls hw hl h
        unfold f_X5_likeStranger_J71 at h
        refine lv_iconst (v := 1) hx hb dX5_likeStranger_71 (by decide) ?_
        refine lv_goto (tgt := 76) hx hb dX5_likeStranger_72 (by decide) ?_
        exact J76 a1 a2 a3 a4 a5 (1 : Int32) _ _ _ hw (lv_sub hl [0, 1, 2, 3, 4, 5] rfl) h
      intro a1 a2 a3 a4 H locs ls hw hl h
      rw [f_X5_likeStranger_L5] at h
      refine lv_iload hx hb dX5_likeStranger_5 (lv_at hl 4 rfl) ?_
      refine lv_bipush (v := 9) hx hb dX5_likeStranger_7 (by decide) ?_
      refine lv_icmp_ge (tgt := 117) hx hb dX5_likeStranger_9 (by decide) (fun c34 => ?_) (fun c34 => ?_)
      · replace h := ite_t c34 h
        refine lv_iload_n hx hb dX5_likeStranger_117 rfl (lv_at hl 3 rfl) ?_
        exact r_i cx hr hlocks hw (sm_eq h) rfl dX5_likeStranger_118
      · replace h := ite_f c34 h
        refine lv_iload hx hb dX5_likeStranger_12 (lv_at hl 4 rfl) ?_
        refine lv_aload_n hx hb dX5_likeStranger_14 rfl (lv_at hl 0 rfl) ?_
        refine gf_X5_31 cx hw 0 rfl rfl dX5_likeStranger_15 ?_
        refine lv_iload_n hx hb dX5_likeStranger_18 rfl (lv_at hl 1 rfl) ?_
        have ix35 := rd_in h
        refine x_iald cx hw 8 rfl ix35 dX5_likeStranger_19 ?_
        refine lv_topi (fun x35 ex35 => ?_)
        replace h := rd_nx ex35 h
        refine lv_icmp_ge (tgt := 117) hx hb dX5_likeStranger_20 (by decide) (fun c36 => ?_) (fun c36 => ?_)
        · replace h := ite_t c36 h
          refine lv_iload_n hx hb dX5_likeStranger_117 rfl (lv_at hl 3 rfl) ?_
          exact r_i cx hr hlocks hw (sm_eq h) rfl dX5_likeStranger_118
        · replace h := ite_f c36 h
          refine lv_aload_n hx hb dX5_likeStranger_23 rfl (lv_at hl 0 rfl) ?_
          refine gf_X5_34 cx hw 0 rfl rfl dX5_likeStranger_24 ?_
          refine lv_bipush (v := 40) hx hb dX5_likeStranger_27 (by decide) ?_
          refine lv_iload_n hx hb dX5_likeStranger_29 rfl (lv_at hl 1 rfl) ?_
          refine lv_imul hx hb dX5_likeStranger_30 ?_
          refine lv_iload hx hb dX5_likeStranger_31 (lv_at hl 4 rfl) ?_
          refine lv_iadd hx hb dX5_likeStranger_33 ?_
          have ix37 := rdL_in h
          refine x_lald cx hw 9 rfl ix37 dX5_likeStranger_34 ?_
          refine lv_topl (fun x37 ex37 => ?_)
          replace h := rdL_nx ex37 h
          refine lv_lstore (lv' := [(5, .long x37), (0, .ref (q 0)), (1, .int a1), (2, .int a2), (3, .int a3), (4, .int a4)]) hx hb dX5_likeStranger_35 hl (by decide) rfl (fun ls hl => ?_)
          refine lv_lload hx hb dX5_likeStranger_37 (lv_at hl 0 rfl) ?_
          refine lv_aload_n hx hb dX5_likeStranger_39 rfl (lv_at hl 1 rfl) ?_
          refine lv_iload_n hx hb dX5_likeStranger_40 rfl (lv_at hl 3 rfl) ?_
          refine lv_bipush (v := 6) hx hb dX5_likeStranger_41 (by decide) ?_
          refine lv_iload hx hb dX5_likeStranger_43 (lv_at hl 5 rfl) ?_
          refine lv_iadd hx hb dX5_likeStranger_45 ?_
          obtain ⟨x38, g39, h⟩ := bd_ex h
          refine c_V (As := [.int a2, .int ((6 : Int32) + a4)]) (rest := [.long x37]) (w' := (MC g q d)) cx hw (c_X5_is l g q N a2 ((6 : Int32) + a4) d x38 g39) (cl_X5_47 cx.1.2.2.2.2 ⟨Nat.le_of_ble_eq_true rfl, Nat.le_of_ble_eq_true rfl⟩) (x_recv cx hw (ci := 5) rfl 0 rfl) (Ct.all (MC_ll ..)) hl.1 rfl rfl (Nat.le_of_ble_eq_true rfl) dX5_likeStranger_46 ⟨Nat.le_of_ble_eq_true rfl, Nat.le_of_ble_eq_true rfl⟩ (st1 := [.int x38, .long x37]) rfl (fun H locs hw => ?_)
          refine lv_i2l hx hb dX5_likeStranger_49 rfl ?_
          refine W.lcmp hx hb dX5_likeStranger_50 ?_
          refine lv_if_eq (tgt := 71) hx hb dX5_likeStranger_51 (by decide) (fun c40 => ?_) (fun c40 => ?_)
          · replace h := ite_t c40 h
            exact J71 a1 a2 a3 a4 x37 _ _ _ hw (lv_sub hl [1, 2, 3, 4, 5, 0] rfl) h
          · replace h := ite_f c40 h
            refine lv_iload hx hb dX5_likeStranger_54 (lv_at hl 5 rfl) ?_
            refine lv_bipush (v := 8) hx hb dX5_likeStranger_56 (by decide) ?_
            refine lv_icmp_ne (tgt := 75) hx hb dX5_likeStranger_58 (by decide) (fun c41 => ?_) (fun c41 => ?_)
            · replace h := ite_f c41 h
              exact J75 a1 a2 a3 a4 x37 _ _ _ hw (lv_sub hl [1, 2, 3, 4, 5, 0] rfl) h
            · replace h := ite_t c41 h
              refine lv_aload_n hx hb dX5_likeStranger_61 rfl (lv_at hl 1 rfl) ?_
              refine lv_iload_n hx hb dX5_likeStranger_62 rfl (lv_at hl 3 rfl) ?_
              refine lv_iconst (v := 0) hx hb dX5_likeStranger_63 (by decide) ?_
              obtain ⟨x42, g43, h⟩ := bd_ex h
              refine c_V (As := [.int a2, .int (0 : Int32)]) (rest := []) (w' := (MC g q d)) cx hw (c_X5_is l g q N a2 (0 : Int32) d x42 g43) (cl_X5_47 cx.1.2.2.2.2 ⟨Nat.le_of_ble_eq_true rfl, Nat.le_of_ble_eq_true rfl⟩) (x_recv cx hw (ci := 5) rfl 0 rfl) (Ct.all (MC_ll ..)) hl.1 rfl rfl (Nat.le_of_ble_eq_true rfl) dX5_likeStranger_64 ⟨Nat.le_of_ble_eq_true rfl, Nat.le_of_ble_eq_true rfl⟩ (st1 := [.int x42]) rfl (fun H locs hw => ?_)
              refine lv_iconst (v := 4) hx hb dX5_likeStranger_67 (by decide) ?_
              refine lv_icmp_ne (tgt := 75) hx hb dX5_likeStranger_68 (by decide) (fun c44 => ?_) (fun c44 => ?_)
              · replace h := ite_f c44 h
                exact J75 a1 a2 a3 a4 x37 _ _ _ hw (lv_sub hl [1, 2, 3, 4, 5, 0] rfl) h
              · replace h := ite_t c44 h
                exact J71 a1 a2 a3 a4 x37 _ _ _ hw (lv_sub hl [1, 2, 3, 4, 5, 0] rfl) h
  unfold f_X5_likeStranger at h
  refine lv_iconst (v := 0) hx hb dX5_likeStranger_0 (by decide) ?_
  refine lv_istore_n (lv' := [(3, .int (0 : Int32)), (0, .ref (q 0)), (1, .int p1), (2, .int p2)]) hx hb dX5_likeStranger_1 rfl hl (by decide) rfl (fun ls hl => ?_)
  refine lv_iconst (v := 0) hx hb dX5_likeStranger_2 (by decide) ?_
  refine lv_istore (lv' := [(4, .int (0 : Int32)), (3, .int (0 : Int32)), (0, .ref (q 0)), (1, .int p1), (2, .int p2)]) hx hb dX5_likeStranger_3 hl (by decide) rfl (fun ls hl => ?_)
  exact L5 N p1 p2 (0 : Int32) (0 : Int32) _ _ _ hw (lv_sub hl [2, 3, 4, 1, 0] rfl) h
set_option maxHeartbeats 4000000 in
set_option maxRecDepth 100000 in
theorem c_X5_read (l : Launch) (g : gE) (q : Nat → Nat) (N : Nat) (p1 : Int32) (d : MD) (r : Int32) (d' : MD) (h : f_X5_read N  p1 d = some (r, d')) : MO l yX5_read (Cond.code yX5_read cX5_read 5 (some .int) :: TB) rm_X5_read [.ref (q 0), .int p1] g ((MC g q d)) ((MC g q d')) (some (.int r)) 0 0 := by
  refine MO.of (cc := cX5_read) (maxL := 5) (ret := (some .int)) (by decide) ?_
  intro p e s m below meth c cx hw hr hlocks _
  have hx := cx.1.1
  have hb := cx.1.2.1
  refine en_go (lv := [(0, .ref (q 0)), (1, .int p1)]) (Nat.le_of_ble_eq_true rfl) rfl (fun ls hl => ?_)
  have L22 : ∀ (n22 : Nat) (a1 : Int32) (a2 : Int32) (a3 : Int32) (d_ : MD) (H : Heap) (locs : List Loc) (ls : Array Slot), Wd g (va_A ((MC g q d)) s.heap.size) ((MC g q d_)) s H locs → lv_has ls 5 [(0, .ref (q 0)), (1, .int a1), (2, .int a2), (3, .int a3)] → f_X5_read_L22 N   n22 a1 a2 a3 d_ = some (r, d') → W p l e rm_X5_read s m ([.ref (q 0), .int p1] : List Value).toArray below meth c H locs 0 0 (MQ below (QO (some (.int r)) g ((MC g q d')) (va_A ((MC g q d)) s.heap.size)) ([.ref (q 0), .int p1] : List Value).toArray s 0 0 (va_A ((MC g q d)) s.heap.size)) (F0 m 22 ls []) := by
    intro n22
    induction n22 with
    | zero => intro a1 a2 a3 d_ H locs ls hw hl h; exact (Option.some_ne_none _ h.symm).elim
    | succ n22 ih22 =>
      have J61 : ∀ (a1 : Int32) (a2 : Int32) (a3 : Int32) (t0 : Int32) (d_ : MD) (H : Heap) (locs : List Loc) (ls : Array Slot), Wd g (va_A ((MC g q d)) s.heap.size) ((MC g q d_)) s H locs → lv_has ls 5 [(0, .ref (q 0)), (1, .int a1), (2, .int a2), (3, .int a3)] → f_X5_read_J61 N  (f_X5_read_L22 N   n22) a1 a2 a3 t0 d_ = some (r, d') → W p l e rm_X5_read s m ([.ref (q 0), .int p1] : List Value).toArray below meth c H locs 0 0 (MQ below (QO (some (.int r)) g ((MC g q d')) (va_A ((MC g q d)) s.heap.size)) ([.ref (q 0), .int p1] : List Value).toArray s 0 0 (va_A ((MC g q d)) s.heap.size)) (F0 m 61 ls [.int t0]) := by
        intro a1 a2 a3 t0 d_ H locs ls hw hl h
        unfold f_X5_read_J61 at h
        refine lv_istore (lv' := [(4, .int t0), (0, .ref (q 0)), (1, .int a1), (2, .int a2), (3, .int a3)]) hx hb dX5_read_61 hl (by decide) rfl (fun ls hl => ?_)
        refine lv_iload hx hb dX5_read_63 (lv_at hl 0 rfl) ?_
        refine lv_if_gt (tgt := 88) hx hb dX5_read_65 (by decide) (fun c35 => ?_) (fun c35 => ?_)
        · replace h := ite_t c35 h
          refine lv_iload_n hx hb dX5_read_88 rfl (lv_at hl 4 rfl) ?_
          refine lv_goto (tgt := 93) hx hb dX5_read_89 (by decide) ?_
          refine lv_istore_n (lv' := [(2, .int a3), (4, .int t0), (0, .ref (q 0)), (1, .int a1), (3, .int a3)]) hx hb dX5_read_93 rfl hl (by decide) rfl (fun ls hl => ?_)
          obtain ⟨x36, ex36⟩ : ∃ y : Int32, y = (a3 + 1) := ⟨_, rfl⟩
          replace h := lt_nx ex36 h
          refine lv_iinc (v := x36) (lv' := [(3, .int x36), (2, .int a3), (4, .int t0), (0, .ref (q 0)), (1, .int a1)]) hx hb dX5_read_94 hl (k := 4) rfl (by rw [ex36]; rfl) (by decide) rfl (fun ls hl => ?_)
          refine lv_goto (tgt := 22) hx hb dX5_read_97 (by decide) ?_
          exact ih22 a1 a3 x36 d_ _ _ _ hw (lv_sub hl [3, 4, 1, 0] rfl) h
        · replace h := ite_f c35 h
          refine lv_iload hx hb dX5_read_68 (lv_at hl 0 rfl) ?_
          refine lv_if_ne (tgt := 92) hx hb dX5_read_70 (by decide) (fun c37 => ?_) (fun c37 => ?_)
          · replace h := ite_f c37 h
            refine lv_iload_n hx hb dX5_read_92 rfl (lv_at hl 3 rfl) ?_
            refine lv_istore_n (lv' := [(2, .int a2), (4, .int t0), (0, .ref (q 0)), (1, .int a1), (3, .int a3)]) hx hb dX5_read_93 rfl hl (by decide) rfl (fun ls hl => ?_)
            obtain ⟨x38, ex38⟩ : ∃ y : Int32, y = (a3 + 1) := ⟨_, rfl⟩
            replace h := lt_nx ex38 h
            refine lv_iinc (v := x38) (lv' := [(3, .int x38), (2, .int a2), (4, .int t0), (0, .ref (q 0)), (1, .int a1)]) hx hb dX5_read_94 hl (k := 4) rfl (by rw [ex38]; rfl) (by decide) rfl (fun ls hl => ?_)
            refine lv_goto (tgt := 22) hx hb dX5_read_97 (by decide) ?_
            exact ih22 a1 a2 x38 d_ _ _ _ hw (lv_sub hl [3, 4, 1, 0] rfl) h
          · replace h := ite_t c37 h
            refine lv_aload_n hx hb dX5_read_73 rfl (lv_at hl 1 rfl) ?_
            refine lv_iload_n hx hb dX5_read_74 rfl (lv_at hl 4 rfl) ?_
            refine lv_iconst (v := 1) hx hb dX5_read_75 (by decide) ?_
            obtain ⟨x39, g40, h⟩ := bd_ex h
            refine c_V (As := [.int a3, .int (1 : Int32)]) (rest := []) (w' := (MC g q d_)) cx hw (c_X5_is l g q N a3 (1 : Int32) d_ x39 g40) (cl_X5_47 cx.1.2.2.2.2 ⟨Nat.le_of_ble_eq_true rfl, Nat.le_of_ble_eq_true rfl⟩) (x_recv cx hw (ci := 5) rfl 0 rfl) (Ct.all (MC_ll ..)) hl.1 rfl rfl (Nat.le_of_ble_eq_true rfl) dX5_read_76 ⟨Nat.le_of_ble_eq_true rfl, Nat.le_of_ble_eq_true rfl⟩ (st1 := [.int x39]) rfl (fun H locs hw => ?_)
            refine lv_aload_n hx hb dX5_read_79 rfl (lv_at hl 1 rfl) ?_
            refine lv_iload_n hx hb dX5_read_80 rfl (lv_at hl 3 rfl) ?_
            refine lv_iconst (v := 1) hx hb dX5_read_81 (by decide) ?_
            obtain ⟨x41, g42, h⟩ := bd_ex h
            refine c_V (As := [.int a2, .int (1 : Int32)]) (rest := [.int x39]) (w' := (MC g q d_)) cx hw (c_X5_is l g q N a2 (1 : Int32) d_ x41 g42) (cl_X5_47 cx.1.2.2.2.2 ⟨Nat.le_of_ble_eq_true rfl, Nat.le_of_ble_eq_true rfl⟩) (x_recv cx hw (ci := 5) rfl 0 rfl) (Ct.all (MC_ll ..)) hl.1 rfl rfl (Nat.le_of_ble_eq_true rfl) dX5_read_82 ⟨Nat.le_of_ble_eq_true rfl, Nat.le_of_ble_eq_true rfl⟩ (st1 := [.int x41, .int x39]) rfl (fun H locs hw => ?_)
            refine lv_icmp_le (tgt := 92) hx hb dX5_read_85 (by decide) (fun c43 => ?_) (fun c43 => ?_)
            · replace h := ite_t c43 h
              refine lv_iload_n hx hb dX5_read_92 rfl (lv_at hl 3 rfl) ?_
              refine lv_istore_n (lv' := [(2, .int a2), (4, .int t0), (0, .ref (q 0)), (1, .int a1), (3, .int a3)]) hx hb dX5_read_93 rfl hl (by decide) rfl (fun ls hl => ?_)
              obtain ⟨x44, ex44⟩ : ∃ y : Int32, y = (a3 + 1) := ⟨_, rfl⟩
              replace h := lt_nx ex44 h
              refine lv_iinc (v := x44) (lv' := [(3, .int x44), (2, .int a2), (4, .int t0), (0, .ref (q 0)), (1, .int a1)]) hx hb dX5_read_94 hl (k := 4) rfl (by rw [ex44]; rfl) (by decide) rfl (fun ls hl => ?_)
              refine lv_goto (tgt := 22) hx hb dX5_read_97 (by decide) ?_
              exact ih22 a1 a2 x44 d_ _ _ _ hw (lv_sub hl [3, 4, 1, 0] rfl) h
            · replace h := ite_f c43 h
              refine lv_iload_n hx hb dX5_read_88 rfl (lv_at hl 4 rfl) ?_
              refine lv_goto (tgt := 93) hx hb dX5_read_89 (by decide) ?_
              refine lv_istore_n (lv' := [(2, .int a3), (4, .int t0), (0, .ref (q 0)), (1, .int a1), (3, .int a3)]) hx hb dX5_read_93 rfl hl (by decide) rfl (fun ls hl => ?_)
              obtain ⟨x45, ex45⟩ : ∃ y : Int32, y = (a3 + 1) := ⟨_, rfl⟩
              replace h := lt_nx ex45 h
              refine lv_iinc (v := x45) (lv' := [(3, .int x45), (2, .int a3), (4, .int t0), (0, .ref (q 0)), (1, .int a1)]) hx hb dX5_read_94 hl (k := 4) rfl (by rw [ex45]; rfl) (by decide) rfl (fun ls hl => ?_)
              refine lv_goto (tgt := 22) hx hb dX5_read_97 (by decide) ?_
              exact ih22 a1 a3 x45 d_ _ _ _ hw (lv_sub hl [3, 4, 1, 0] rfl) h
      intro a1 a2 a3 d_ H locs ls hw hl h
      rw [f_X5_read_L22] at h
      refine lv_iload_n hx hb dX5_read_22 rfl (lv_at hl 3 rfl) ?_
      refine lv_aload_n hx hb dX5_read_23 rfl (lv_at hl 0 rfl) ?_
      refine gf_X5_7 cx hw 0 rfl rfl dX5_read_24 ?_
      refine lv_iconst (v := 0) hx hb dX5_read_27 (by decide) ?_
      have ix46 := rd_in h
      refine x_iald cx hw 1 rfl ix46 dX5_read_28 ?_
      refine lv_topi (fun x46 ex46 => ?_)
      replace h := rd_nx ex46 h
      refine lv_icmp_ge (tgt := 100) hx hb dX5_read_29 (by decide) (fun c47 => ?_) (fun c47 => ?_)
      · replace h := ite_t c47 h
        refine lv_iload_n hx hb dX5_read_100 rfl (lv_at hl 2 rfl) ?_
        refine lv_if_ge (tgt := 113) hx hb dX5_read_101 (by decide) (fun c48 => ?_) (fun c48 => ?_)
        · replace h := ite_t c48 h
          refine lv_iload_n hx hb dX5_read_113 rfl (lv_at hl 2 rfl) ?_
          exact r_i cx hr hlocks hw (pr1 h) (congrArg (fun z0 => (MC g q z0)) (pr2 h)) dX5_read_114
        · replace h := ite_f c48 h
          refine lv_aload_n hx hb dX5_read_104 rfl (lv_at hl 0 rfl) ?_
          refine lv_ldc hx hb cx.1.2.2.2.1 (cx.1.2.2.2.2 _ tw_4_195) dX5_read_105 ?_
          obtain ⟨x49, d50, g51, h⟩ := bd2_ex h
          refine c_V (As := [.int (-1000000004 : Int32)]) (rest := []) (w' := (MC g q d50)) cx hw (c_X5_finds l g q N (-1000000004 : Int32) d_ x49 d50 g51) (cl_X5_62 cx.1.2.2.2.2 ⟨Nat.le_of_ble_eq_true rfl, Nat.le_of_ble_eq_true rfl⟩) (x_recv cx hw (ci := 5) rfl 0 rfl) (Ct.all (MC_ll ..)) hl.1 rfl rfl (Nat.le_of_ble_eq_true rfl) dX5_read_107 ⟨Nat.le_of_ble_eq_true rfl, Nat.le_of_ble_eq_true rfl⟩ (st1 := [.int x49]) rfl (fun H locs hw => ?_)
          refine lv_goto (tgt := 114) hx hb dX5_read_110 (by decide) ?_
          exact r_i cx hr hlocks hw (pr1 h) (congrArg (fun z0 => (MC g q z0)) (pr2 h)) dX5_read_114
      · replace h := ite_f c47 h
        refine lv_aload_n hx hb dX5_read_32 rfl (lv_at hl 0 rfl) ?_
        refine lv_iload_n hx hb dX5_read_33 rfl (lv_at hl 3 rfl) ?_
        obtain ⟨x52, g53, h⟩ := bd_ex h
        refine c_V (As := [.int a3]) (rest := []) (w' := (MC g q d_)) cx hw (c_X5_lives l g q N a3 d_ x52 g53) (cl_X5_107 cx.1.2.2.2.2 ⟨Nat.le_of_ble_eq_true rfl, Nat.le_of_ble_eq_true rfl⟩) (x_recv cx hw (ci := 5) rfl 0 rfl) (Ct.all (MC_ll ..)) hl.1 rfl rfl (Nat.le_of_ble_eq_true rfl) dX5_read_34 ⟨Nat.le_of_ble_eq_true rfl, Nat.le_of_ble_eq_true rfl⟩ (st1 := [.int x52]) rfl (fun H locs hw => ?_)
        refine lv_if_eq (tgt := 94) hx hb dX5_read_37 (by decide) (fun c54 => ?_) (fun c54 => ?_)
        · replace h := ite_t c54 h
          obtain ⟨x55, ex55⟩ : ∃ y : Int32, y = (a3 + 1) := ⟨_, rfl⟩
          replace h := lt_nx ex55 h
          refine lv_iinc (v := x55) (lv' := [(3, .int x55), (0, .ref (q 0)), (1, .int a1), (2, .int a2)]) hx hb dX5_read_94 hl (k := 3) rfl (by rw [ex55]; rfl) (by decide) rfl (fun ls hl => ?_)
          refine lv_goto (tgt := 22) hx hb dX5_read_97 (by decide) ?_
          exact ih22 a1 a2 x55 d_ _ _ _ hw (lv_sub hl [1, 2, 3, 0] rfl) h
        · replace h := ite_f c54 h
          refine lv_iload_n hx hb dX5_read_40 rfl (lv_at hl 2 rfl) ?_
          refine lv_if_ge (tgt := 48) hx hb dX5_read_41 (by decide) (fun c56 => ?_) (fun c56 => ?_)
          · replace h := ite_t c56 h
            refine lv_aload_n hx hb dX5_read_48 rfl (lv_at hl 0 rfl) ?_
            refine lv_iload_n hx hb dX5_read_49 rfl (lv_at hl 1 rfl) ?_
            refine lv_iload_n hx hb dX5_read_50 rfl (lv_at hl 3 rfl) ?_
            obtain ⟨x57, g58, h⟩ := bd_ex h
            refine c_V (As := [.int a1, .int a3]) (rest := []) (w' := (MC g q d_)) cx hw (c_X5_likeStranger l g q N a1 a3 d_ x57 g58) (cl_X5_279 cx.1.2.2.2.2 ⟨Nat.le_of_ble_eq_true rfl, Nat.le_of_ble_eq_true rfl⟩) (x_recv cx hw (ci := 5) rfl 0 rfl) (Ct.all (MC_ll ..)) hl.1 rfl rfl (Nat.le_of_ble_eq_true rfl) dX5_read_51 ⟨Nat.le_of_ble_eq_true rfl, Nat.le_of_ble_eq_true rfl⟩ (st1 := [.int x57]) rfl (fun H locs hw => ?_)
            refine lv_aload_n hx hb dX5_read_54 rfl (lv_at hl 0 rfl) ?_
            refine lv_iload_n hx hb dX5_read_55 rfl (lv_at hl 1 rfl) ?_
            refine lv_iload_n hx hb dX5_read_56 rfl (lv_at hl 2 rfl) ?_
            obtain ⟨x59, g60, h⟩ := bd_ex h
            refine c_V (As := [.int a1, .int a2]) (rest := [.int x57]) (w' := (MC g q d_)) cx hw (c_X5_likeStranger l g q N a1 a2 d_ x59 g60) (cl_X5_279 cx.1.2.2.2.2 ⟨Nat.le_of_ble_eq_true rfl, Nat.le_of_ble_eq_true rfl⟩) (x_recv cx hw (ci := 5) rfl 0 rfl) (Ct.all (MC_ll ..)) hl.1 rfl rfl (Nat.le_of_ble_eq_true rfl) dX5_read_57 ⟨Nat.le_of_ble_eq_true rfl, Nat.le_of_ble_eq_true rfl⟩ (st1 := [.int x59, .int x57]) rfl (fun H locs hw => ?_)
            refine lv_isub hx hb dX5_read_60 ?_
            exact J61 a1 a2 a3 (x57 - x59) d_ _ _ _ hw (lv_sub hl [0, 1, 2, 3] rfl) h
          · replace h := ite_f c56 h
            refine lv_iconst (v := 1) hx hb dX5_read_44 (by decide) ?_
            refine lv_goto (tgt := 61) hx hb dX5_read_45 (by decide) ?_
            exact J61 a1 a2 a3 (1 : Int32) d_ _ _ _ hw (lv_sub hl [0, 1, 2, 3] rfl) h
  unfold f_X5_read at h
  refine lv_aload_n hx hb dX5_read_0 rfl (lv_at hl 0 rfl) ?_
  refine lv_iload_n hx hb dX5_read_1 rfl (lv_at hl 1 rfl) ?_
  obtain ⟨x1, g2, h⟩ := bd_ex h
  refine c_V (As := [.int p1]) (rest := []) (w' := (MC g q d)) cx hw (c_X5_wants l g q N p1 d x1 g2) (cl_X5_276 cx.1.2.2.2.2 ⟨Nat.le_of_ble_eq_true rfl, Nat.le_of_ble_eq_true rfl⟩) (x_recv cx hw (ci := 5) rfl 0 rfl) (Ct.all (MC_ll ..)) hl.1 rfl rfl (Nat.le_of_ble_eq_true rfl) dX5_read_2 ⟨Nat.le_of_ble_eq_true rfl, Nat.le_of_ble_eq_true rfl⟩ (st1 := [.int x1]) rfl (fun H locs hw => ?_)
  refine lv_if_eq (tgt := 18) hx hb dX5_read_5 (by decide) (fun c3 => ?_) (fun c3 => ?_)
  · replace h := ite_t c3 h
    refine lv_iconst (v := -1) hx hb dX5_read_18 (by decide) ?_
    refine lv_istore_n (lv' := [(2, .int (-1 : Int32)), (0, .ref (q 0)), (1, .int p1)]) hx hb dX5_read_19 rfl hl (by decide) rfl (fun ls hl => ?_)
    refine lv_iconst (v := 0) hx hb dX5_read_20 (by decide) ?_
    refine lv_istore_n (lv' := [(3, .int (0 : Int32)), (2, .int (-1 : Int32)), (0, .ref (q 0)), (1, .int p1)]) hx hb dX5_read_21 rfl hl (by decide) rfl (fun ls hl => ?_)
    exact L22 N p1 (-1 : Int32) (0 : Int32) d _ _ _ hw (lv_sub hl [2, 3, 1, 0] rfl) h
  · replace h := ite_f c3 h
    refine lv_aload_n hx hb dX5_read_8 rfl (lv_at hl 0 rfl) ?_
    refine lv_aload_n hx hb dX5_read_9 rfl (lv_at hl 0 rfl) ?_
    refine lv_iload_n hx hb dX5_read_10 rfl (lv_at hl 1 rfl) ?_
    obtain ⟨x4, g5, h⟩ := bd_ex h
    refine c_V (As := [.int p1]) (rest := [.ref (q 0)]) (w' := (MC g q d)) cx hw (c_X5_wants l g q N p1 d x4 g5) (cl_X5_276 cx.1.2.2.2.2 ⟨Nat.le_of_ble_eq_true rfl, Nat.le_of_ble_eq_true rfl⟩) (x_recv cx hw (ci := 5) rfl 0 rfl) (Ct.all (MC_ll ..)) hl.1 rfl rfl (Nat.le_of_ble_eq_true rfl) dX5_read_11 ⟨Nat.le_of_ble_eq_true rfl, Nat.le_of_ble_eq_true rfl⟩ (st1 := [.int x4, .ref (q 0)]) rfl (fun H locs hw => ?_)
    obtain ⟨x6, d7, g8, h⟩ := bd2_ex h
    refine c_V (As := [.int x4]) (rest := []) (w' := (MC g q d7)) cx hw (c_X5_finds l g q N x4 d x6 d7 g8) (cl_X5_62 cx.1.2.2.2.2 ⟨Nat.le_of_ble_eq_true rfl, Nat.le_of_ble_eq_true rfl⟩) (x_recv cx hw (ci := 5) rfl 0 rfl) (Ct.all (MC_ll ..)) hl.1 rfl rfl (Nat.le_of_ble_eq_true rfl) dX5_read_14 ⟨Nat.le_of_ble_eq_true rfl, Nat.le_of_ble_eq_true rfl⟩ (st1 := [.int x6]) rfl (fun H locs hw => ?_)
    exact r_i cx hr hlocks hw (pr1 h) (congrArg (fun z0 => (MC g q z0)) (pr2 h)) dX5_read_17
set_option maxHeartbeats 4000000 in
set_option maxRecDepth 100000 in
theorem c_X5_image (l : Launch) (g : gE) (q : Nat → Nat) (N : Nat)  (d : MD) (r : Int32) (d' : MD) (h : f_X5_image N  d = some (r, d')) : MO l yX5_image (Cond.code yX5_image cX5_image 1 (some .int) :: TB) rm_X5_image [.ref (q 0)] g ((MC g q d)) ((MC g q d')) (some (.int r)) 0 0 := by
  refine MO.of (cc := cX5_image) (maxL := 1) (ret := (some .int)) (by decide) ?_
  intro p e s m below meth c cx hw hr hlocks _
  have hx := cx.1.1
  have hb := cx.1.2.1
  refine en_go (lv := [(0, .ref (q 0))]) (Nat.le_of_ble_eq_true rfl) rfl (fun ls hl => ?_)
  unfold f_X5_image at h
  refine lv_aload_n hx hb dX5_image_0 rfl (lv_at hl 0 rfl) ?_
  refine gf_X5_7 cx hw 0 rfl rfl dX5_image_1 ?_
  refine lv_aload_n hx hb dX5_image_4 rfl (lv_at hl 0 rfl) ?_
  refine gf_X5_13 cx hw 0 rfl rfl dX5_image_5 ?_
  obtain ⟨f1, g2, h⟩ := bd_ex h
  refine c_S (As := [.ref (q 1), .ref (q 2)]) (rest := []) (w' := (MC g q (m_set_kept d f1))) cx hw (c_X5_copyRow l g (q 1) (q 2) N  (m_s d) (m_kept d) f1 g2) (cl_X5_166 cx.1.2.2.2.2 ⟨Nat.le_of_ble_eq_true rfl, Nat.le_of_ble_eq_true rfl⟩) (ct_M__1_2__A_A_1 g q d f1) hl.1 rfl rfl (Nat.le_of_ble_eq_true rfl) dX5_image_8 ⟨Nat.le_of_ble_eq_true rfl, Nat.le_of_ble_eq_true rfl⟩ (st1 := []) rfl (fun H locs hw => ?_)
  obtain ⟨d3, ed3, h⟩ := lt_ex h
  have hw : Wd g (va_A ((MC g q d)) s.heap.size) ((MC g q d3)) s H locs := by rw [ed3]; exact hw
  refine lv_aload_n hx hb dX5_image_11 rfl (lv_at hl 0 rfl) ?_
  refine lv_iconst (v := 1) hx hb dX5_image_12 (by decide) ?_
  refine pf_X5_282 cx hw 0 rfl rfl rfl (Nat.le_of_ble_eq_true rfl) dX5_image_13 (fun H locs hw => ?_)
  obtain ⟨d4, ed4, h⟩ := lt_ex h
  have hw : Wd g (va_A ((MC g q d)) s.heap.size) ((MC g q d4)) s H locs := by rw [ed4]; exact hw
  refine lv_iconst (v := 1) hx hb dX5_image_16 (by decide) ?_
  exact r_i cx hr hlocks hw (pr1 h) (congrArg (fun z0 => (MC g q z0)) (pr2 h)) dX5_image_17
set_option maxHeartbeats 4000000 in
set_option maxRecDepth 100000 in
theorem c_X5_undo (l : Launch) (g : gE) (q : Nat → Nat) (N : Nat)  (d : MD) (r : Int32) (d' : MD) (h : f_X5_undo N  d = some (r, d')) : MO l yX5_undo (Cond.code yX5_undo cX5_undo 1 (some .int) :: TB) rm_X5_undo [.ref (q 0)] g ((MC g q d)) ((MC g q d')) (some (.int r)) 0 0 := by
  refine MO.of (cc := cX5_undo) (maxL := 1) (ret := (some .int)) (by decide) ?_
  intro p e s m below meth c cx hw hr hlocks _
  have hx := cx.1.1
  have hb := cx.1.2.1
  refine en_go (lv := [(0, .ref (q 0))]) (Nat.le_of_ble_eq_true rfl) rfl (fun ls hl => ?_)
  unfold f_X5_undo at h
  refine lv_aload_n hx hb dX5_undo_0 rfl (lv_at hl 0 rfl) ?_
  refine gf_X5_282 cx hw 0 rfl rfl dX5_undo_1 ?_
  refine lv_if_ne (tgt := 14) hx hb dX5_undo_4 (by decide) (fun c1 => ?_) (fun c1 => ?_)
  · replace h := ite_f c1 h
    refine lv_aload_n hx hb dX5_undo_14 rfl (lv_at hl 0 rfl) ?_
    refine gf_X5_13 cx hw 0 rfl rfl dX5_undo_15 ?_
    refine lv_aload_n hx hb dX5_undo_18 rfl (lv_at hl 0 rfl) ?_
    refine gf_X5_7 cx hw 0 rfl rfl dX5_undo_19 ?_
    obtain ⟨f2, g3, h⟩ := bd_ex h
    refine c_S (As := [.ref (q 2), .ref (q 1)]) (rest := []) (w' := (MC g q (m_set_s d f2))) cx hw (c_X5_copyRow l g (q 2) (q 1) N  (m_kept d) (m_s d) f2 g3) (cl_X5_166 cx.1.2.2.2.2 ⟨Nat.le_of_ble_eq_true rfl, Nat.le_of_ble_eq_true rfl⟩) (ct_M__2_1__A_A_1 g q d f2) hl.1 rfl rfl (Nat.le_of_ble_eq_true rfl) dX5_undo_22 ⟨Nat.le_of_ble_eq_true rfl, Nat.le_of_ble_eq_true rfl⟩ (st1 := []) rfl (fun H locs hw => ?_)
    obtain ⟨d4, ed4, h⟩ := lt_ex h
    have hw : Wd g (va_A ((MC g q d)) s.heap.size) ((MC g q d4)) s H locs := by rw [ed4]; exact hw
    refine lv_aload_n hx hb dX5_undo_25 rfl (lv_at hl 0 rfl) ?_
    refine gf_X5_7 cx hw 0 rfl rfl dX5_undo_26 ?_
    refine lv_iconst (v := 0) hx hb dX5_undo_29 (by decide) ?_
    have ix5 := rd_in h
    refine x_iald cx hw 1 rfl ix5 dX5_undo_30 ?_
    refine lv_topi (fun x5 ex5 => ?_)
    replace h := rd_nx ex5 h
    exact r_i cx hr hlocks hw (pr1 h) (congrArg (fun z0 => (MC g q z0)) (pr2 h)) dX5_undo_31
  · replace h := ite_t c1 h
    refine lv_aload_n hx hb dX5_undo_7 rfl (lv_at hl 0 rfl) ?_
    refine lv_ldc hx hb cx.1.2.2.2.1 (cx.1.2.2.2.2 _ tw_4_195) dX5_undo_8 ?_
    obtain ⟨x6, d7, g8, h⟩ := bd2_ex h
    refine c_V (As := [.int (-1000000004 : Int32)]) (rest := []) (w' := (MC g q d7)) cx hw (c_X5_finds l g q N (-1000000004 : Int32) d x6 d7 g8) (cl_X5_62 cx.1.2.2.2.2 ⟨Nat.le_of_ble_eq_true rfl, Nat.le_of_ble_eq_true rfl⟩) (x_recv cx hw (ci := 5) rfl 0 rfl) (Ct.all (MC_ll ..)) hl.1 rfl rfl (Nat.le_of_ble_eq_true rfl) dX5_undo_10 ⟨Nat.le_of_ble_eq_true rfl, Nat.le_of_ble_eq_true rfl⟩ (st1 := [.int x6]) rfl (fun H locs hw => ?_)
    exact r_i cx hr hlocks hw (pr1 h) (congrArg (fun z0 => (MC g q z0)) (pr2 h)) dX5_undo_13
set_option maxHeartbeats 4000000 in
set_option maxRecDepth 100000 in
theorem c_X5_tear (l : Launch) (g : gE) (q : Nat → Nat) (N : Nat)  (d : MD) (r : Int32) (d' : MD) (h : f_X5_tear N  d = some (r, d')) : MO l yX5_tear (Cond.code yX5_tear cX5_tear 2 (some .int) :: TB) rm_X5_tear [.ref (q 0)] g ((MC g q d)) ((MC g q d')) (some (.int r)) 0 0 := by
  refine MO.of (cc := cX5_tear) (maxL := 2) (ret := (some .int)) (by decide) ?_
  intro p e s m below meth c cx hw hr hlocks _
  have hx := cx.1.1
  have hb := cx.1.2.1
  refine en_go (lv := [(0, .ref (q 0))]) (Nat.le_of_ble_eq_true rfl) rfl (fun ls hl => ?_)
  unfold f_X5_tear at h
  refine lv_aload_n hx hb dX5_tear_0 rfl (lv_at hl 0 rfl) ?_
  refine gf_X5_282 cx hw 0 rfl rfl dX5_tear_1 ?_
  refine lv_topi (fun x1 ex1 => ?_)
  replace h := lt_nx ex1 h
  refine lv_istore_n (lv' := [(1, .int x1), (0, .ref (q 0))]) hx hb dX5_tear_4 rfl hl (by decide) rfl (fun ls hl => ?_)
  refine lv_aload_n hx hb dX5_tear_5 rfl (lv_at hl 1 rfl) ?_
  refine lv_iconst (v := 0) hx hb dX5_tear_6 (by decide) ?_
  refine pf_X5_282 cx hw 0 rfl rfl rfl (Nat.le_of_ble_eq_true rfl) dX5_tear_7 (fun H locs hw => ?_)
  obtain ⟨d2, ed2, h⟩ := lt_ex h
  have hw : Wd g (va_A ((MC g q d)) s.heap.size) ((MC g q d2)) s H locs := by rw [ed2]; exact hw
  refine lv_iload_n hx hb dX5_tear_10 rfl (lv_at hl 0 rfl) ?_
  refine lv_if_eq (tgt := 18) hx hb dX5_tear_11 (by decide) (fun c3 => ?_) (fun c3 => ?_)
  · replace h := ite_t c3 h
    refine lv_iconst (v := 0) hx hb dX5_tear_18 (by decide) ?_
    exact r_i cx hr hlocks hw (pr1 h) (congrArg (fun z0 => (MC g q z0)) (pr2 h)) dX5_tear_19
  · replace h := ite_f c3 h
    refine lv_iconst (v := 1) hx hb dX5_tear_14 (by decide) ?_
    refine lv_goto (tgt := 19) hx hb dX5_tear_15 (by decide) ?_
    exact r_i cx hr hlocks hw (pr1 h) (congrArg (fun z0 => (MC g q z0)) (pr2 h)) dX5_tear_19
set_option maxHeartbeats 4000000 in
set_option maxRecDepth 100000 in
theorem c_X5_count (l : Launch) (g : gE) (q : Nat → Nat) (N : Nat) (p1 : Int32) (d : MD) (r : Int32) (d' : MD) (h : f_X5_count N  p1 d = some (r, d')) : MO l yX5_count (Cond.code yX5_count cX5_count 4 (some .int) :: TB) rm_X5_count [.ref (q 0), .int p1] g ((MC g q d)) ((MC g q d')) (some (.int r)) 0 0 := by
  refine MO.of (cc := cX5_count) (maxL := 4) (ret := (some .int)) (by decide) ?_
  intro p e s m below meth c cx hw hr hlocks _
  have hx := cx.1.1
  have hb := cx.1.2.1
  refine en_go (lv := [(0, .ref (q 0)), (1, .int p1)]) (Nat.le_of_ble_eq_true rfl) rfl (fun ls hl => ?_)
  have L46 : ∀ (n46 : Nat) (a2 : Int32) (a3 : Int32) (d_ : MD) (H : Heap) (locs : List Loc) (ls : Array Slot), Wd g (va_A ((MC g q d)) s.heap.size) ((MC g q d_)) s H locs → lv_has ls 4 [(0, .ref (q 0)), (2, .int a2), (3, .int a3)] → f_X5_count_L46 N   n46 a2 a3 d_ = some (r, d') → W p l e rm_X5_count s m ([.ref (q 0), .int p1] : List Value).toArray below meth c H locs 0 0 (MQ below (QO (some (.int r)) g ((MC g q d')) (va_A ((MC g q d)) s.heap.size)) ([.ref (q 0), .int p1] : List Value).toArray s 0 0 (va_A ((MC g q d)) s.heap.size)) (F0 m 46 ls []) := by
    intro n46
    induction n46 with
    | zero => intro a2 a3 d_ H locs ls hw hl h; exact (Option.some_ne_none _ h.symm).elim
    | succ n46 ih46 =>
      intro a2 a3 d_ H locs ls hw hl h
      rw [f_X5_count_L46] at h
      refine lv_iload_n hx hb dX5_count_46 rfl (lv_at hl 2 rfl) ?_
      refine lv_bipush (v := 9) hx hb dX5_count_47 (by decide) ?_
      refine lv_icmp_ge (tgt := 69) hx hb dX5_count_49 (by decide) (fun c15 => ?_) (fun c15 => ?_)
      · replace h := ite_t c15 h
        refine lv_iload_n hx hb dX5_count_69 rfl (lv_at hl 1 rfl) ?_
        exact r_i cx hr hlocks hw (pr1 h) (congrArg (fun z0 => (MC g q z0)) (pr2 h)) dX5_count_70
      · replace h := ite_f c15 h
        refine lv_iload_n hx hb dX5_count_52 rfl (lv_at hl 1 rfl) ?_
        refine lv_aload_n hx hb dX5_count_53 rfl (lv_at hl 0 rfl) ?_
        refine gf_X5_7 cx hw 0 rfl rfl dX5_count_54 ?_
        refine lv_iconst (v := 3) hx hb dX5_count_57 (by decide) ?_
        refine lv_iload_n hx hb dX5_count_58 rfl (lv_at hl 2 rfl) ?_
        refine lv_iadd hx hb dX5_count_59 ?_
        have ix16 := rd_in h
        refine x_iald cx hw 1 rfl ix16 dX5_count_60 ?_
        refine lv_topi (fun x16 ex16 => ?_)
        replace h := rd_nx ex16 h
        refine lv_iadd hx hb dX5_count_61 ?_
        refine lv_topi (fun x17 ex17 => ?_)
        replace h := lt_nx ex17 h
        refine lv_istore_n (lv' := [(2, .int x17), (0, .ref (q 0)), (3, .int a3)]) hx hb dX5_count_62 rfl hl (by decide) rfl (fun ls hl => ?_)
        obtain ⟨x18, ex18⟩ : ∃ y : Int32, y = (a3 + 1) := ⟨_, rfl⟩
        replace h := lt_nx ex18 h
        refine lv_iinc (v := x18) (lv' := [(3, .int x18), (2, .int x17), (0, .ref (q 0))]) hx hb dX5_count_63 hl (k := 2) rfl (by rw [ex18]; rfl) (by decide) rfl (fun ls hl => ?_)
        refine lv_goto (tgt := 46) hx hb dX5_count_66 (by decide) ?_
        exact ih46 x17 x18 d_ _ _ _ hw (lv_sub hl [2, 1, 0] rfl) h
  unfold f_X5_count at h
  refine lv_iconst (v := 0) hx hb dX5_count_0 (by decide) ?_
  refine lv_istore_n (lv' := [(2, .int (0 : Int32)), (0, .ref (q 0)), (1, .int p1)]) hx hb dX5_count_1 rfl hl (by decide) rfl (fun ls hl => ?_)
  refine lv_iload_n hx hb dX5_count_2 rfl (lv_at hl 2 rfl) ?_
  by_cases c1 : p1 = 0
  · replace h := ite_t c1 h
    refine lv_tableIn (tgt := 32) hx hb dX5_count_3 (by rw [c1]; decide) (by rw [c1]; decide) (by rw [c1]; rfl) (by decide) ?_
    refine lv_aload_n hx hb dX5_count_32 rfl (lv_at hl 1 rfl) ?_
    refine gf_X5_7 cx hw 0 rfl rfl dX5_count_33 ?_
    refine lv_iconst (v := 0) hx hb dX5_count_36 (by decide) ?_
    have ix2 := rd_in h
    refine x_iald cx hw 1 rfl ix2 dX5_count_37 ?_
    refine lv_topi (fun x2 ex2 => ?_)
    replace h := rd_nx ex2 h
    exact r_i cx hr hlocks hw (pr1 h) (congrArg (fun z0 => (MC g q z0)) (pr2 h)) dX5_count_38
  · replace h := ite_f c1 h
    by_cases c3 : p1 = 1
    · replace h := ite_t c3 h
      refine lv_tableIn (tgt := 39) hx hb dX5_count_3 (by rw [c3]; decide) (by rw [c3]; decide) (by rw [c3]; rfl) (by decide) ?_
      refine lv_aload_n hx hb dX5_count_39 rfl (lv_at hl 1 rfl) ?_
      refine gf_X5_198 cx hw 0 rfl rfl dX5_count_40 ?_
      exact r_i cx hr hlocks hw (pr1 h) (congrArg (fun z0 => (MC g q z0)) (pr2 h)) dX5_count_43
    · replace h := ite_f c3 h
      by_cases c4 : p1 = 2
      · replace h := ite_t c4 h
        refine lv_tableIn (tgt := 44) hx hb dX5_count_3 (by rw [c4]; decide) (by rw [c4]; decide) (by rw [c4]; rfl) (by decide) ?_
        refine lv_iconst (v := 0) hx hb dX5_count_44 (by decide) ?_
        refine lv_istore_n (lv' := [(3, .int (0 : Int32)), (2, .int (0 : Int32)), (0, .ref (q 0)), (1, .int p1)]) hx hb dX5_count_45 rfl hl (by decide) rfl (fun ls hl => ?_)
        exact L46 N (0 : Int32) (0 : Int32) d _ _ _ hw (lv_sub hl [2, 1, 0] rfl) h
      · replace h := ite_f c4 h
        by_cases c5 : p1 = 3
        · replace h := ite_t c5 h
          refine lv_tableIn (tgt := 71) hx hb dX5_count_3 (by rw [c5]; decide) (by rw [c5]; decide) (by rw [c5]; rfl) (by decide) ?_
          refine lv_aload_n hx hb dX5_count_71 rfl (lv_at hl 1 rfl) ?_
          refine lv_iconst (v := 1) hx hb dX5_count_72 (by decide) ?_
          obtain ⟨x6, g7, h⟩ := bd_ex h
          refine c_V (As := [.int (1 : Int32)]) (rest := []) (w' := (MC g q d)) cx hw (c_X5_allOf l g q N (1 : Int32) d x6 g7) (cl_X5_163 cx.1.2.2.2.2 ⟨Nat.le_of_ble_eq_true rfl, Nat.le_of_ble_eq_true rfl⟩) (x_recv cx hw (ci := 5) rfl 0 rfl) (Ct.all (MC_ll ..)) hl.1 rfl rfl (Nat.le_of_ble_eq_true rfl) dX5_count_73 ⟨Nat.le_of_ble_eq_true rfl, Nat.le_of_ble_eq_true rfl⟩ (st1 := [.int x6]) rfl (fun H locs hw => ?_)
          exact r_i cx hr hlocks hw (pr1 h) (congrArg (fun z0 => (MC g q z0)) (pr2 h)) dX5_count_76
        · replace h := ite_f c5 h
          have tc1 : (p1).toInt ≠ 0 := fun e => c1 (Int32.toInt_inj.mp (e.trans (by decide)))
          have tc3 : (p1).toInt ≠ 1 := fun e => c3 (Int32.toInt_inj.mp (e.trans (by decide)))
          have tc4 : (p1).toInt ≠ 2 := fun e => c4 (Int32.toInt_inj.mp (e.trans (by decide)))
          have tc5 : (p1).toInt ≠ 3 := fun e => c5 (Int32.toInt_inj.mp (e.trans (by decide)))
          refine lv_tableOut (tgt := 77) hx hb dX5_count_3 (by omega) (by decide) ?_
          refine lv_aload_n hx hb dX5_count_77 rfl (lv_at hl 1 rfl) ?_
          refine lv_ldc hx hb cx.1.2.2.2.1 (cx.1.2.2.2.2 _ tw_4_79) dX5_count_78 ?_
          obtain ⟨x8, d9, g10, h⟩ := bd2_ex h
          refine c_V (As := [.int (-1000000001 : Int32)]) (rest := []) (w' := (MC g q d9)) cx hw (c_X5_finds l g q N (-1000000001 : Int32) d x8 d9 g10) (cl_X5_62 cx.1.2.2.2.2 ⟨Nat.le_of_ble_eq_true rfl, Nat.le_of_ble_eq_true rfl⟩) (x_recv cx hw (ci := 5) rfl 0 rfl) (Ct.all (MC_ll ..)) hl.1 rfl rfl (Nat.le_of_ble_eq_true rfl) dX5_count_80 ⟨Nat.le_of_ble_eq_true rfl, Nat.le_of_ble_eq_true rfl⟩ (st1 := [.int x8]) rfl (fun H locs hw => ?_)
          exact r_i cx hr hlocks hw (pr1 h) (congrArg (fun z0 => (MC g q z0)) (pr2 h)) dX5_count_83
set_option maxHeartbeats 4000000 in
set_option maxRecDepth 100000 in
theorem c_X5_status (l : Launch) (g : gE) (q : Nat → Nat) (N : Nat) (p1 : Int32) (d : MD) (r : Int32) (d' : MD) (h : f_X5_status N  p1 d = some (r, d')) : MO l yX5_status (Cond.code yX5_status cX5_status 2 (some .int) :: TB) rm_X5_status [.ref (q 0), .int p1] g ((MC g q d)) ((MC g q d')) (some (.int r)) 0 0 := by
  refine MO.of (cc := cX5_status) (maxL := 2) (ret := (some .int)) (by decide) ?_
  intro p e s m below meth c cx hw hr hlocks _
  have hx := cx.1.1
  have hb := cx.1.2.1
  refine en_go (lv := [(0, .ref (q 0)), (1, .int p1)]) (Nat.le_of_ble_eq_true rfl) rfl (fun ls hl => ?_)
  unfold f_X5_status at h
  refine lv_iload_n hx hb dX5_status_0 rfl (lv_at hl 1 rfl) ?_
  refine lv_i2l hx hb dX5_status_1 rfl ?_
  refine lv_ldc2 hx hb cx.1.2.2.2.1 (cx.1.2.2.2.2 _ tw_6_4) dX5_status_2 ?_
  refine lv_ldc2 hx hb cx.1.2.2.2.1 (cx.1.2.2.2.2 _ tw_4_116) dX5_status_5 ?_
  obtain ⟨x1, g2, h⟩ := bd_ex h
  refine c_S (As := [.long ((p1).toInt64), .long (-1 : Int64), .long (6 : Int64)]) (rest := []) (w' := (MC g q d)) cx hw (c_X5_isIn l g  N ((p1).toInt64) (-1 : Int64) (6 : Int64)  x1 g2) (cl_X5_54 cx.1.2.2.2.2 ⟨Nat.le_of_ble_eq_true rfl, Nat.le_of_ble_eq_true rfl⟩) Ct.nil hl.1 rfl rfl (Nat.le_of_ble_eq_true rfl) dX5_status_8 ⟨Nat.le_of_ble_eq_true rfl, Nat.le_of_ble_eq_true rfl⟩ (st1 := [.int x1]) rfl (fun H locs hw => ?_)
  refine lv_if_eq (tgt := 25) hx hb dX5_status_11 (by decide) (fun c3 => ?_) (fun c3 => ?_)
  · replace h := ite_t c3 h
    refine lv_aload_n hx hb dX5_status_25 rfl (lv_at hl 0 rfl) ?_
    refine lv_ldc hx hb cx.1.2.2.2.1 (cx.1.2.2.2.2 _ tw_4_79) dX5_status_26 ?_
    obtain ⟨x4, d5, g6, h⟩ := bd2_ex h
    refine c_V (As := [.int (-1000000001 : Int32)]) (rest := []) (w' := (MC g q d5)) cx hw (c_X5_finds l g q N (-1000000001 : Int32) d x4 d5 g6) (cl_X5_62 cx.1.2.2.2.2 ⟨Nat.le_of_ble_eq_true rfl, Nat.le_of_ble_eq_true rfl⟩) (x_recv cx hw (ci := 5) rfl 0 rfl) (Ct.all (MC_ll ..)) hl.1 rfl rfl (Nat.le_of_ble_eq_true rfl) dX5_status_28 ⟨Nat.le_of_ble_eq_true rfl, Nat.le_of_ble_eq_true rfl⟩ (st1 := [.int x4]) rfl (fun H locs hw => ?_)
    exact r_i cx hr hlocks hw (pr1 h) (congrArg (fun z0 => (MC g q z0)) (pr2 h)) dX5_status_31
  · replace h := ite_f c3 h
    refine lv_aload_n hx hb dX5_status_14 rfl (lv_at hl 0 rfl) ?_
    refine gf_X5_22 cx hw 0 rfl rfl dX5_status_15 ?_
    refine lv_iload_n hx hb dX5_status_18 rfl (lv_at hl 1 rfl) ?_
    refine lv_iconst (v := 1) hx hb dX5_status_19 (by decide) ?_
    refine lv_iadd hx hb dX5_status_20 ?_
    have ix7 := rd_in h
    refine x_iald cx hw 5 rfl ix7 dX5_status_21 ?_
    refine lv_topi (fun x7 ex7 => ?_)
    replace h := rd_nx ex7 h
    refine lv_goto (tgt := 31) hx hb dX5_status_22 (by decide) ?_
    exact r_i cx hr hlocks hw (pr1 h) (congrArg (fun z0 => (MC g q z0)) (pr2 h)) dX5_status_31
