def f_X4_tell (N : Nat)  (p1 : Int32) (d : XD) : Option (Int32 × XD) :=
  lt ((-1000000001 : Int32) - p1) fun x1 =>
  (f_X4_isWithin N x1 (0 : Int32) (6 : Int32)).bind fun x2 =>
  if x2 = 0 then
    some (p1, d)
  else
    (rd (x_tally d) 7 x1).bind fun x5 =>
    (ck x1 7).bind fun _ =>
    lt (x_set_tally d (upd (x_tally d) (x1).toNatClampNeg (x5 + (1 : Int32)))) fun d7 =>
    some (p1, d7)
def f_X4_mark_J41 (N : Nat)   (a1 : Int32) (a2 : Int32) (a3 : Int32) (d_ : XD) : Option (Int32 × XD) :=
  if a2 = (1 : Int32) then
    (f_X4_isWithin N a3 (0 : Int32) (99 : Int32)).bind fun x19 =>
    if x19 = 0 then
      bd2 (f_X4_tell N (-1000000001 : Int32) d_) fun x22 d23 =>
      some (x22, d23)
    else
      bd2 (f_X4_exchange N 9 a1 a3 (v_costs (x_valley d_))) fun x25 f26 =>
      lt (x_set_valley d_ (v_set_costs (x_valley d_) f26)) fun d28 =>
      some (x25, d28)
  else
    bd2 (f_X4_tell N (-1000000001 : Int32) d_) fun x16 d17 =>
    some (x16, d17)
def f_X4_mark (N : Nat)  (p1 : Int32) (p2 : Int32) (p3 : Int32) (d : XD) : Option (Int32 × XD) :=
  (f_X4_isWithin N p1 (0 : Int32) (8 : Int32)).bind fun x1 =>
  if x1 = 0 then
    bd2 (f_X4_tell N (-1000000001 : Int32) d) fun x12 d13 =>
    some (x12, d13)
  else
    if p2 = 0 then
      (f_X4_isWithin N p3 (0 : Int32) (9 : Int32)).bind fun x5 =>
      if x5 = 0 then
        f_X4_mark_J41 N   p1 p2 p3 d
      else
        bd2 (f_X3_putWeight N p1 p3 (x_valley d)) fun x8 d9 =>
        lt (x_set_valley d d9) fun d11 =>
        some (x8, d11)
    else
      f_X4_mark_J41 N   p1 p2 p3 d
def f_X4_let (N : Nat)  (p1 : Int32) (d : XD) : Option (Int32 × XD) :=
  (f_X4_isWithin N p1 (0 : Int32) (2 : Int32)).bind fun x1 =>
  if x1 = 0 then
    bd2 (f_X4_tell N (-1000000001 : Int32) d) fun x6 d7 =>
    some (x6, d7)
  else
    lt (v_law (x_valley d)) fun x4 =>
    lt (x_set_valley d (v_set_law (x_valley d) p1)) fun d5 =>
    some (x4, d5)
def f_X4_person (N : Nat)  (p1 : Int32) (p2 : Int32) (d : XD) : Option (Int32 × XD) :=
  (f_X4_isKind N p1).bind fun x1 =>
  if x1 = 0 then
    bd2 (f_X4_tell N (-1000000001 : Int32) d) fun x4 d5 =>
    some (x4, d5)
  else
    (f_X4_isWithin N p2 (0 : Int32) (120 : Int32)).bind fun x7 =>
    if x7 = 0 then
      bd2 (f_X4_tell N (-1000000001 : Int32) d) fun x18 d19 =>
      some (x18, d19)
    else
      bd2 (f_X3_addOne N p1 p2 (x_valley d)) fun x10 d11 =>
      lt (x_set_valley d d11) fun d13 =>
      if x10 = (-1 : Int32) then
        bd2 (f_X4_tell N (-1000000002 : Int32) d13) fun x15 d16 =>
        some (x15, d16)
      else
        some (x10, d13)
def f_X4_isOne (N : Nat)  (p1 : Int32) (d : XD) : Option (Int32) :=
  (f_X4_isWithin N p1 (0 : Int32) ((v_people (x_valley d)) - (1 : Int32))).bind fun x1 =>
  (ckz x1).bind fun _ =>
  some x1
def f_X4_of (N : Nat)  (p1 : Int32) (p2 : Int32) (d : XD) : Option (Int32 × XD) :=
  (f_X4_isOne N p1 d).bind fun x1 =>
  if x1 = 0 then
    bd2 (f_X4_tell N (-1000000001 : Int32) d) fun x24 d25 =>
    some (x24, d25)
  else
    if p2 = 0 then
      (rd (v_kinds (x_valley d)) 12 p1).bind fun x5 =>
      some (x5, d)
    else
      if p2 = 1 then
        (rd (v_ages (x_valley d)) 12 p1).bind fun x7 =>
        some (x7, d)
      else
        if p2 = 2 then
          (rd (v_goods (x_valley d)) 12 p1).bind fun x9 =>
          some (x9, d)
        else
          if p2 = 3 then
            (rd (v_terms (x_valley d)) 12 p1).bind fun x11 =>
            some (x11, d)
          else
            if p2 = 4 then
              (rd (v_children (x_valley d)) 13 p1).bind fun x13 =>
              some (x13, d)
            else
              if p2 = 5 then
                (f_X3_lives N p1 (x_valley d)).bind fun x15 =>
                if x15 = 0 then
                  some ((0 : Int32), d)
                else
                  some ((1 : Int32), d)
              else
                if p2 = 6 then
                  (f_X3_aimOf N p1 (x_valley d)).bind fun x19 =>
                  some (x19, d)
                else
                  bd2 (f_X4_tell N (-1000000001 : Int32) d) fun x21 d22 =>
                  some (x21, d22)
def f_X4_areTwo (N : Nat)  (p1 : Int32) (p2 : Int32) (d : XD) : Option (Int32) :=
  if p1 = p2 then
    some (0 : Int32)
  else
    (f_X4_isOne N p1 d).bind fun x2 =>
    if x2 = 0 then
      some (0 : Int32)
    else
      (f_X4_isOne N p2 d).bind fun x5 =>
      if x5 = 0 then
        some (0 : Int32)
      else
        some (1 : Int32)
def f_X4_maySet (N : Nat)  (p1 : Int32) (p2 : Int32) (p3 : Int32) (d : XD) : Option (Int32) :=
  if p2 = 1 then
    (f_X4_isWithin N p3 (0 : Int32) (120 : Int32)).bind fun x2 =>
    (ckz x2).bind fun _ =>
    some x2
  else
    if p2 = 2 then
      (f_X4_isWithin N p3 (0 : Int32) (999999 : Int32)).bind fun x6 =>
      (ckz x6).bind fun _ =>
      some x6
    else
      if p2 = 3 then
        (f_X4_isWithin N p3 (1 : Int32) (120 : Int32)).bind fun x10 =>
        (ckz x10).bind fun _ =>
        some x10
      else
        if p2 = 4 then
          if p3 = (-1 : Int32) then
            some (1 : Int32)
          else
            (f_X4_areTwo N p1 p3 d).bind fun x15 =>
            if x15 = 0 then
              some (0 : Int32)
            else
              some (1 : Int32)
        else
          if p2 = 5 then
            (f_X4_isWithin N p3 (0 : Int32) (1 : Int32)).bind fun x19 =>
            (ckz x19).bind fun _ =>
            some x19
          else
            some (0 : Int32)
def f_X4_set (N : Nat)  (p1 : Int32) (p2 : Int32) (p3 : Int32) (d : XD) : Option (Int32 × XD) :=
  (f_X4_isOne N p1 d).bind fun x1 =>
  if x1 = 0 then
    bd2 (f_X4_tell N (-1000000001 : Int32) d) fun x4 d5 =>
    some (x4, d5)
  else
    (f_X4_maySet N p1 p2 p3 d).bind fun x7 =>
    if x7 = 0 then
      bd2 (f_X4_tell N (-1000000001 : Int32) d) fun x34 d35 =>
      some (x34, d35)
    else
      if p2 = 1 then
        bd2 (f_X4_exchange N 12 p1 p3 (v_ages (x_valley d))) fun x11 f12 =>
        lt (x_set_valley d (v_set_ages (x_valley d) f12)) fun d14 =>
        some (x11, d14)
      else
        if p2 = 2 then
          bd2 (f_X4_exchange N 12 p1 p3 (v_goods (x_valley d))) fun x16 f17 =>
          lt (x_set_valley d (v_set_goods (x_valley d) f17)) fun d19 =>
          some (x16, d19)
        else
          if p2 = 3 then
            bd2 (f_X4_exchange N 12 p1 p3 (v_terms (x_valley d))) fun x21 f22 =>
            lt (x_set_valley d (v_set_terms (x_valley d) f22)) fun d24 =>
            some (x21, d24)
          else
            if p2 = 4 then
              bd2 (f_X4_exchange N 13 p1 p3 (v_children (x_valley d))) fun x26 f27 =>
              lt (x_set_valley d (v_set_children (x_valley d) f27)) fun d29 =>
              some (x26, d29)
            else
              bd2 (f_X3_putLiving N p1 p3 (x_valley d)) fun x30 d31 =>
              lt (x_set_valley d d31) fun d33 =>
              some (x30, d33)
def f_X4_way (N : Nat)  (p1 : Int32) (p2 : Int32) (d : XD) : Option (Int32 × XD) :=
  (f_X4_isOne N p1 d).bind fun x1 =>
  if x1 = 0 then
    bd2 (f_X4_tell N (-1000000001 : Int32) d) fun x4 d5 =>
    some (x4, d5)
  else
    (f_X4_isWithin N p2 (0 : Int32) (8 : Int32)).bind fun x7 =>
    if x7 = 0 then
      bd2 (f_X4_tell N (-1000000001 : Int32) d) fun x13 d14 =>
      some (x13, d14)
    else
      (rd (v_looks (x_valley d)) 13 p1).bind fun x10 =>
      (f_X4_wayIn N x10 p2).bind fun x11 =>
      some (x11, d)
def f_X4_be (N : Nat)  (p1 : Int32) (p2 : Int32) (p3 : Int32) (d : XD) : Option (Int32 × XD) :=
  (f_X4_isOne N p1 d).bind fun x1 =>
  if x1 = 0 then
    bd2 (f_X4_tell N (-1000000001 : Int32) d) fun x4 d5 =>
    some (x4, d5)
  else
    (f_X4_isWithin N p2 (0 : Int32) (8 : Int32)).bind fun x7 =>
    if x7 = 0 then
      bd2 (f_X4_tell N (-1000000001 : Int32) d) fun x10 d11 =>
      some (x10, d11)
    else
      (f_X4_isWithin N p3 (0 : Int32) (3 : Int32)).bind fun x13 =>
      if x13 = 0 then
        bd2 (f_X4_tell N (-1000000001 : Int32) d) fun x25 d26 =>
        some (x25, d26)
      else
        (rd (v_looks (x_valley d)) 13 p1).bind fun x16 =>
        (f_X4_withWay N x16 p2 p3).bind fun x17 =>
        bd2 (f_X4_exchange N 13 p1 x17 (v_looks (x_valley d))) fun x19 f20 =>
        lt (x_set_valley d (v_set_looks (x_valley d) f20)) fun d22 =>
        (f_X4_wayIn N x19 p2).bind fun x23 =>
        some (x23, d22)
theorem ct_X__1_2_3_4_5_6_7_8_9_10_11_12_13__V_0 (g : gE) (q : Nat → Nat) (d : XD) (u0 : VD) : Ct ((XC g q d)) ((VC g (qs 1 q) (x_valley d))) ((XC g q (x_set_valley d u0))) ((VC g (qs 1 q) u0)) := (Ct.skip _ (Ct.inl _ (Ct.all (VC_ll ..)) (VC_ll ..)))
theorem ct_X__3__A_0 (g : gE) (q : Nat → Nat) (d : XD) (u0 : (Nat → Int32)) : Ct ((XC g q d)) ((ACI g (qs 1 q 2) 9 (v_costs (x_valley d)))) ((XC g q (x_set_valley d (v_set_costs (x_valley d) u0)))) ((ACI g (qs 1 q 2) 9 u0)) := (Ct.skip _ (Ct.inl _ (ctV_A_2 ..) (VC_ll ..)))
theorem ct_X__1_2_3_4_5_6_7_8_9_10_11_12_13__V (g : gE) (q : Nat → Nat) (d : XD)  : Ct ((XC g q d)) ((VC g (qs 1 q) (x_valley d))) ((XC g q d)) ((VC g (qs 1 q) (x_valley d))) := (Ct.skip _ (Ct.inl _ (Ct.all (VC_ll ..)) (VC_ll ..)))
theorem ct_X__7__A_0 (g : gE) (q : Nat → Nat) (d : XD) (u0 : (Nat → Int32)) : Ct ((XC g q d)) ((ACI g (qs 1 q 6) 12 (v_ages (x_valley d)))) ((XC g q (x_set_valley d (v_set_ages (x_valley d) u0)))) ((ACI g (qs 1 q 6) 12 u0)) := (Ct.skip _ (Ct.inl _ (ctV_A_6 ..) (VC_ll ..)))
theorem ct_X__8__A_0 (g : gE) (q : Nat → Nat) (d : XD) (u0 : (Nat → Int32)) : Ct ((XC g q d)) ((ACI g (qs 1 q 7) 12 (v_goods (x_valley d)))) ((XC g q (x_set_valley d (v_set_goods (x_valley d) u0)))) ((ACI g (qs 1 q 7) 12 u0)) := (Ct.skip _ (Ct.inl _ (ctV_A_7 ..) (VC_ll ..)))
theorem ct_X__9__A_0 (g : gE) (q : Nat → Nat) (d : XD) (u0 : (Nat → Int32)) : Ct ((XC g q d)) ((ACI g (qs 1 q 8) 12 (v_terms (x_valley d)))) ((XC g q (x_set_valley d (v_set_terms (x_valley d) u0)))) ((ACI g (qs 1 q 8) 12 u0)) := (Ct.skip _ (Ct.inl _ (ctV_A_8 ..) (VC_ll ..)))
theorem ct_X__10__A_0 (g : gE) (q : Nat → Nat) (d : XD) (u0 : (Nat → Int32)) : Ct ((XC g q d)) ((ACI g (qs 1 q 9) 13 (v_children (x_valley d)))) ((XC g q (x_set_valley d (v_set_children (x_valley d) u0)))) ((ACI g (qs 1 q 9) 13 u0)) := (Ct.skip _ (Ct.inl _ (ctV_A_9 ..) (VC_ll ..)))
theorem ct_X__11__A_0 (g : gE) (q : Nat → Nat) (d : XD) (u0 : (Nat → Int32)) : Ct ((XC g q d)) ((ACI g (qs 1 q 10) 13 (v_looks (x_valley d)))) ((XC g q (x_set_valley d (v_set_looks (x_valley d) u0)))) ((ACI g (qs 1 q 10) 13 u0)) := (Ct.skip _ (Ct.inl _ (ctV_A_10 ..) (VC_ll ..)))
set_option maxHeartbeats 4000000 in
set_option maxRecDepth 100000 in
theorem c_X4_tell (l : Launch) (g : gE) (q : Nat → Nat) (N : Nat) (p1 : Int32) (d : XD) (r : Int32) (d' : XD) (h : f_X4_tell N  p1 d = some (r, d')) : MO l yX4_tell (Cond.code yX4_tell cX4_tell 3 (some .int) :: TB) rm_X4_tell [.ref (q 0), .int p1] g ((XC g q d)) ((XC g q d')) (some (.int r)) 0 0 := by
  refine MO.of (cc := cX4_tell) (maxL := 3) (ret := (some .int)) (by decide) ?_
  intro p e s m below meth c cx hw hr hlocks _
  have hx := cx.1.1
  have hb := cx.1.2.1
  refine en_go (lv := [(0, .ref (q 0)), (1, .int p1)]) (Nat.le_of_ble_eq_true rfl) rfl (fun ls hl => ?_)
  unfold f_X4_tell at h
  refine lv_ldc hx hb cx.1.2.2.2.1 (cx.1.2.2.2.2 _ tw_1_202) dX4_tell_0 ?_
  refine lv_iload_n hx hb dX4_tell_2 rfl (lv_at hl 1 rfl) ?_
  refine lv_isub hx hb dX4_tell_3 ?_
  refine lv_topi (fun x1 ex1 => ?_)
  replace h := lt_nx ex1 h
  refine lv_istore_n (lv' := [(2, .int x1), (0, .ref (q 0)), (1, .int p1)]) hx hb dX4_tell_4 rfl hl (by decide) rfl (fun ls hl => ?_)
  refine lv_iload_n hx hb dX4_tell_5 rfl (lv_at hl 0 rfl) ?_
  refine lv_iconst (v := 0) hx hb dX4_tell_6 (by decide) ?_
  refine lv_bipush (v := 6) hx hb dX4_tell_7 (by decide) ?_
  obtain ⟨x2, g3, h⟩ := bd_ex h
  refine c_S (As := [.int x1, .int (0 : Int32), .int (6 : Int32)]) (rest := []) (w' := (XC g q d)) cx hw (c_X4_isWithin l g  N x1 (0 : Int32) (6 : Int32)  x2 g3) (cl_X4_40 cx.1.2.2.2.2 ⟨Nat.le_of_ble_eq_true rfl, Nat.le_of_ble_eq_true rfl⟩) Ct.nil hl.1 rfl rfl (Nat.le_of_ble_eq_true rfl) dX4_tell_9 ⟨Nat.le_of_ble_eq_true rfl, Nat.le_of_ble_eq_true rfl⟩ (st1 := [.int x2]) rfl (fun H locs hw => ?_)
  refine lv_if_eq (tgt := 25) hx hb dX4_tell_12 (by decide) (fun c4 => ?_) (fun c4 => ?_)
  · replace h := ite_t c4 h
    refine lv_iload_n hx hb dX4_tell_25 rfl (lv_at hl 2 rfl) ?_
    exact r_i cx hr hlocks hw (pr1 h) (congrArg (fun z0 => (XC g q z0)) (pr2 h)) dX4_tell_26
  · replace h := ite_f c4 h
    refine lv_aload_n hx hb dX4_tell_15 rfl (lv_at hl 1 rfl) ?_
    refine gf_X4_35 cx hw 0 rfl rfl dX4_tell_16 ?_
    refine lv_iload_n hx hb dX4_tell_19 rfl (lv_at hl 0 rfl) ?_
    refine lv_dup2_11 hx hb dX4_tell_20 rfl rfl ?_
    have ix5 := rd_in h
    refine x_iald cx hw 44 rfl ix5 dX4_tell_21 ?_
    refine lv_topi (fun x5 ex5 => ?_)
    replace h := rd_nx ex5 h
    refine lv_iconst (v := 1) hx hb dX4_tell_22 (by decide) ?_
    refine lv_iadd hx hb dX4_tell_23 ?_
    have i6 := ck_in h
    replace h := ck_nx h
    refine x_iast cx hw 44 rfl i6 dX4_tell_24 (fun H locs hw => ?_)
    obtain ⟨d7, ed7, h⟩ := lt_ex h
    have hw : Wd g (va_A ((XC g q d)) s.heap.size) ((XC g q d7)) s H locs := by rw [ed7]; exact hw
    refine lv_iload_n hx hb dX4_tell_25 rfl (lv_at hl 2 rfl) ?_
    exact r_i cx hr hlocks hw (pr1 h) (congrArg (fun z0 => (XC g q z0)) (pr2 h)) dX4_tell_26
set_option maxHeartbeats 4000000 in
set_option maxRecDepth 100000 in
theorem c_X4_mark (l : Launch) (g : gE) (q : Nat → Nat) (N : Nat) (p1 : Int32) (p2 : Int32) (p3 : Int32) (d : XD) (r : Int32) (d' : XD) (h : f_X4_mark N  p1 p2 p3 d = some (r, d')) : MO l yX4_mark (Cond.code yX4_mark cX4_mark 4 (some .int) :: TB) rm_X4_mark [.ref (q 0), .int p1, .int p2, .int p3] g ((XC g q d)) ((XC g q d')) (some (.int r)) 0 0 := by
  refine MO.of (cc := cX4_mark) (maxL := 4) (ret := (some .int)) (by decide) ?_
  intro p e s m below meth c cx hw hr hlocks _
  have hx := cx.1.1
  have hb := cx.1.2.1
  refine en_go (lv := [(0, .ref (q 0)), (1, .int p1), (2, .int p2), (3, .int p3)]) (Nat.le_of_ble_eq_true rfl) rfl (fun ls hl => ?_)
  have J41 : ∀ (a1 : Int32) (a2 : Int32) (a3 : Int32) (d_ : XD) (H : Heap) (locs : List Loc) (ls : Array Slot), Wd g (va_A ((XC g q d)) s.heap.size) ((XC g q d_)) s H locs → lv_has ls 4 [(0, .ref (q 0)), (1, .int a1), (2, .int a2), (3, .int a3)] → f_X4_mark_J41 N   a1 a2 a3 d_ = some (r, d') → W p l e rm_X4_mark s m ([.ref (q 0), .int p1, .int p2, .int p3] : List Value).toArray below meth c H locs 0 0 (MQ below (QO (some (.int r)) g ((XC g q d')) (va_A ((XC g q d)) s.heap.size)) ([.ref (q 0), .int p1, .int p2, .int p3] : List Value).toArray s 0 0 (va_A ((XC g q d)) s.heap.size)) (F0 m 41 ls []) := by
    intro a1 a2 a3 d_ H locs ls hw hl h
    unfold f_X4_mark_J41 at h
    refine lv_iload_n hx hb dX4_mark_41 rfl (lv_at hl 2 rfl) ?_
    refine lv_iconst (v := 1) hx hb dX4_mark_42 (by decide) ?_
    refine lv_icmp_ne (tgt := 69) hx hb dX4_mark_43 (by decide) (fun c29 => ?_) (fun c29 => ?_)
    · replace h := ite_f c29 h
      refine lv_aload_n hx hb dX4_mark_69 rfl (lv_at hl 0 rfl) ?_
      refine lv_ldc hx hb cx.1.2.2.2.1 (cx.1.2.2.2.2 _ tw_1_202) dX4_mark_70 ?_
      obtain ⟨x30, d31, g32, h⟩ := bd2_ex h
      refine c_V (As := [.int (-1000000001 : Int32)]) (rest := []) (w' := (XC g q d31)) cx hw (c_X4_tell l g q N (-1000000001 : Int32) d_ x30 d31 g32) (cl_X4_45 cx.1.2.2.2.2 ⟨Nat.le_of_ble_eq_true rfl, Nat.le_of_ble_eq_true rfl⟩) (x_recv cx hw (ci := 4) rfl 0 rfl) (Ct.all (XC_ll ..)) hl.1 rfl rfl (Nat.le_of_ble_eq_true rfl) dX4_mark_72 ⟨Nat.le_of_ble_eq_true rfl, Nat.le_of_ble_eq_true rfl⟩ (st1 := [.int x30]) rfl (fun H locs hw => ?_)
      exact r_i cx hr hlocks hw (pr1 h) (congrArg (fun z0 => (XC g q z0)) (pr2 h)) dX4_mark_75
    · replace h := ite_t c29 h
      refine lv_iload_n hx hb dX4_mark_46 rfl (lv_at hl 3 rfl) ?_
      refine lv_iconst (v := 0) hx hb dX4_mark_47 (by decide) ?_
      refine lv_bipush (v := 99) hx hb dX4_mark_48 (by decide) ?_
      obtain ⟨x33, g34, h⟩ := bd_ex h
      refine c_S (As := [.int a3, .int (0 : Int32), .int (99 : Int32)]) (rest := []) (w' := (XC g q d_)) cx hw (c_X4_isWithin l g  N a3 (0 : Int32) (99 : Int32)  x33 g34) (cl_X4_40 cx.1.2.2.2.2 ⟨Nat.le_of_ble_eq_true rfl, Nat.le_of_ble_eq_true rfl⟩) Ct.nil hl.1 rfl rfl (Nat.le_of_ble_eq_true rfl) dX4_mark_50 ⟨Nat.le_of_ble_eq_true rfl, Nat.le_of_ble_eq_true rfl⟩ (st1 := [.int x33]) rfl (fun H locs hw => ?_)
      refine lv_if_eq (tgt := 69) hx hb dX4_mark_53 (by decide) (fun c35 => ?_) (fun c35 => ?_)
      · replace h := ite_t c35 h
        refine lv_aload_n hx hb dX4_mark_69 rfl (lv_at hl 0 rfl) ?_
        refine lv_ldc hx hb cx.1.2.2.2.1 (cx.1.2.2.2.2 _ tw_1_202) dX4_mark_70 ?_
        obtain ⟨x36, d37, g38, h⟩ := bd2_ex h
        refine c_V (As := [.int (-1000000001 : Int32)]) (rest := []) (w' := (XC g q d37)) cx hw (c_X4_tell l g q N (-1000000001 : Int32) d_ x36 d37 g38) (cl_X4_45 cx.1.2.2.2.2 ⟨Nat.le_of_ble_eq_true rfl, Nat.le_of_ble_eq_true rfl⟩) (x_recv cx hw (ci := 4) rfl 0 rfl) (Ct.all (XC_ll ..)) hl.1 rfl rfl (Nat.le_of_ble_eq_true rfl) dX4_mark_72 ⟨Nat.le_of_ble_eq_true rfl, Nat.le_of_ble_eq_true rfl⟩ (st1 := [.int x36]) rfl (fun H locs hw => ?_)
        exact r_i cx hr hlocks hw (pr1 h) (congrArg (fun z0 => (XC g q z0)) (pr2 h)) dX4_mark_75
      · replace h := ite_f c35 h
        refine lv_aload_n hx hb dX4_mark_56 rfl (lv_at hl 0 rfl) ?_
        refine gf_X4_12 cx hw 0 rfl rfl dX4_mark_57 ?_
        refine gf_X4_53 cx hw 1 rfl rfl dX4_mark_60 ?_
        refine lv_iload_n hx hb dX4_mark_63 rfl (lv_at hl 1 rfl) ?_
        refine lv_iload_n hx hb dX4_mark_64 rfl (lv_at hl 3 rfl) ?_
        obtain ⟨x39, f40, g41, h⟩ := bd2_ex h
        refine c_S (As := [.ref (qs 1 q 2), .int a1, .int a3]) (rest := []) (w' := (XC g q (x_set_valley d_ (v_set_costs (x_valley d_) f40)))) cx hw (c_X4_exchange l g (qs 1 q 2) 9 N a1 a3 (v_costs (x_valley d_)) x39 f40 g41) (cl_X4_56 cx.1.2.2.2.2 ⟨Nat.le_of_ble_eq_true rfl, Nat.le_of_ble_eq_true rfl⟩) (ct_X__3__A_0 g q d_ f40) hl.1 rfl rfl (Nat.le_of_ble_eq_true rfl) dX4_mark_65 ⟨Nat.le_of_ble_eq_true rfl, Nat.le_of_ble_eq_true rfl⟩ (st1 := [.int x39]) rfl (fun H locs hw => ?_)
        obtain ⟨d42, ed42, h⟩ := lt_ex h
        have hw : Wd g (va_A ((XC g q d)) s.heap.size) ((XC g q d42)) s H locs := by rw [ed42]; exact hw
        exact r_i cx hr hlocks hw (pr1 h) (congrArg (fun z0 => (XC g q z0)) (pr2 h)) dX4_mark_68
  unfold f_X4_mark at h
  refine lv_iload_n hx hb dX4_mark_0 rfl (lv_at hl 1 rfl) ?_
  refine lv_iconst (v := 0) hx hb dX4_mark_1 (by decide) ?_
  refine lv_bipush (v := 8) hx hb dX4_mark_2 (by decide) ?_
  obtain ⟨x1, g2, h⟩ := bd_ex h
  refine c_S (As := [.int p1, .int (0 : Int32), .int (8 : Int32)]) (rest := []) (w' := (XC g q d)) cx hw (c_X4_isWithin l g  N p1 (0 : Int32) (8 : Int32)  x1 g2) (cl_X4_40 cx.1.2.2.2.2 ⟨Nat.le_of_ble_eq_true rfl, Nat.le_of_ble_eq_true rfl⟩) Ct.nil hl.1 rfl rfl (Nat.le_of_ble_eq_true rfl) dX4_mark_4 ⟨Nat.le_of_ble_eq_true rfl, Nat.le_of_ble_eq_true rfl⟩ (st1 := [.int x1]) rfl (fun H locs hw => ?_)
  refine lv_if_ne (tgt := 17) hx hb dX4_mark_7 (by decide) (fun c3 => ?_) (fun c3 => ?_)
  · replace h := ite_f c3 h
    refine lv_iload_n hx hb dX4_mark_17 rfl (lv_at hl 2 rfl) ?_
    refine lv_if_ne (tgt := 41) hx hb dX4_mark_18 (by decide) (fun c4 => ?_) (fun c4 => ?_)
    · replace h := ite_f c4 h
      exact J41 p1 p2 p3 d _ _ _ hw (lv_sub hl [0, 1, 2, 3] rfl) h
    · replace h := ite_t c4 h
      refine lv_iload_n hx hb dX4_mark_21 rfl (lv_at hl 3 rfl) ?_
      refine lv_iconst (v := 0) hx hb dX4_mark_22 (by decide) ?_
      refine lv_bipush (v := 9) hx hb dX4_mark_23 (by decide) ?_
      obtain ⟨x5, g6, h⟩ := bd_ex h
      refine c_S (As := [.int p3, .int (0 : Int32), .int (9 : Int32)]) (rest := []) (w' := (XC g q d)) cx hw (c_X4_isWithin l g  N p3 (0 : Int32) (9 : Int32)  x5 g6) (cl_X4_40 cx.1.2.2.2.2 ⟨Nat.le_of_ble_eq_true rfl, Nat.le_of_ble_eq_true rfl⟩) Ct.nil hl.1 rfl rfl (Nat.le_of_ble_eq_true rfl) dX4_mark_25 ⟨Nat.le_of_ble_eq_true rfl, Nat.le_of_ble_eq_true rfl⟩ (st1 := [.int x5]) rfl (fun H locs hw => ?_)
      refine lv_if_eq (tgt := 41) hx hb dX4_mark_28 (by decide) (fun c7 => ?_) (fun c7 => ?_)
      · replace h := ite_t c7 h
        exact J41 p1 p2 p3 d _ _ _ hw (lv_sub hl [0, 1, 2, 3] rfl) h
      · replace h := ite_f c7 h
        refine lv_aload_n hx hb dX4_mark_31 rfl (lv_at hl 0 rfl) ?_
        refine gf_X4_12 cx hw 0 rfl rfl dX4_mark_32 ?_
        refine lv_iload_n hx hb dX4_mark_35 rfl (lv_at hl 1 rfl) ?_
        refine lv_iload_n hx hb dX4_mark_36 rfl (lv_at hl 3 rfl) ?_
        obtain ⟨x8, d9, g10, h⟩ := bd2_ex h
        refine c_V (As := [.int p1, .int p3]) (rest := []) (w' := (XC g q (x_set_valley d d9))) cx hw (c_X3_putWeight l g (qs 1 q) N p1 p3 (x_valley d) x8 d9 g10) (cl_X4_49 cx.1.2.2.2.2 ⟨Nat.le_of_ble_eq_true rfl, Nat.le_of_ble_eq_true rfl⟩) (x_recv cx hw (ci := 3) rfl 1 rfl) (ct_X__1_2_3_4_5_6_7_8_9_10_11_12_13__V_0 g q d d9) hl.1 rfl rfl (Nat.le_of_ble_eq_true rfl) dX4_mark_37 ⟨Nat.le_of_ble_eq_true rfl, Nat.le_of_ble_eq_true rfl⟩ (st1 := [.int x8]) rfl (fun H locs hw => ?_)
        obtain ⟨d11, ed11, h⟩ := lt_ex h
        have hw : Wd g (va_A ((XC g q d)) s.heap.size) ((XC g q d11)) s H locs := by rw [ed11]; exact hw
        exact r_i cx hr hlocks hw (pr1 h) (congrArg (fun z0 => (XC g q z0)) (pr2 h)) dX4_mark_40
  · replace h := ite_t c3 h
    refine lv_aload_n hx hb dX4_mark_10 rfl (lv_at hl 0 rfl) ?_
    refine lv_ldc hx hb cx.1.2.2.2.1 (cx.1.2.2.2.2 _ tw_1_202) dX4_mark_11 ?_
    obtain ⟨x12, d13, g14, h⟩ := bd2_ex h
    refine c_V (As := [.int (-1000000001 : Int32)]) (rest := []) (w' := (XC g q d13)) cx hw (c_X4_tell l g q N (-1000000001 : Int32) d x12 d13 g14) (cl_X4_45 cx.1.2.2.2.2 ⟨Nat.le_of_ble_eq_true rfl, Nat.le_of_ble_eq_true rfl⟩) (x_recv cx hw (ci := 4) rfl 0 rfl) (Ct.all (XC_ll ..)) hl.1 rfl rfl (Nat.le_of_ble_eq_true rfl) dX4_mark_13 ⟨Nat.le_of_ble_eq_true rfl, Nat.le_of_ble_eq_true rfl⟩ (st1 := [.int x12]) rfl (fun H locs hw => ?_)
    exact r_i cx hr hlocks hw (pr1 h) (congrArg (fun z0 => (XC g q z0)) (pr2 h)) dX4_mark_16
set_option maxHeartbeats 4000000 in
set_option maxRecDepth 100000 in
theorem c_X4_let (l : Launch) (g : gE) (q : Nat → Nat) (N : Nat) (p1 : Int32) (d : XD) (r : Int32) (d' : XD) (h : f_X4_let N  p1 d = some (r, d')) : MO l yX4_let (Cond.code yX4_let cX4_let 3 (some .int) :: TB) rm_X4_let [.ref (q 0), .int p1] g ((XC g q d)) ((XC g q d')) (some (.int r)) 0 0 := by
  refine MO.of (cc := cX4_let) (maxL := 3) (ret := (some .int)) (by decide) ?_
  intro p e s m below meth c cx hw hr hlocks _
  have hx := cx.1.1
  have hb := cx.1.2.1
  refine en_go (lv := [(0, .ref (q 0)), (1, .int p1)]) (Nat.le_of_ble_eq_true rfl) rfl (fun ls hl => ?_)
  unfold f_X4_let at h
  refine lv_iload_n hx hb dX4_let_0 rfl (lv_at hl 1 rfl) ?_
  refine lv_iconst (v := 0) hx hb dX4_let_1 (by decide) ?_
  refine lv_iconst (v := 2) hx hb dX4_let_2 (by decide) ?_
  obtain ⟨x1, g2, h⟩ := bd_ex h
  refine c_S (As := [.int p1, .int (0 : Int32), .int (2 : Int32)]) (rest := []) (w' := (XC g q d)) cx hw (c_X4_isWithin l g  N p1 (0 : Int32) (2 : Int32)  x1 g2) (cl_X4_40 cx.1.2.2.2.2 ⟨Nat.le_of_ble_eq_true rfl, Nat.le_of_ble_eq_true rfl⟩) Ct.nil hl.1 rfl rfl (Nat.le_of_ble_eq_true rfl) dX4_let_3 ⟨Nat.le_of_ble_eq_true rfl, Nat.le_of_ble_eq_true rfl⟩ (st1 := [.int x1]) rfl (fun H locs hw => ?_)
  refine lv_if_ne (tgt := 16) hx hb dX4_let_6 (by decide) (fun c3 => ?_) (fun c3 => ?_)
  · replace h := ite_f c3 h
    refine lv_aload_n hx hb dX4_let_16 rfl (lv_at hl 0 rfl) ?_
    refine gf_X4_12 cx hw 0 rfl rfl dX4_let_17 ?_
    refine gf_X4_60 cx hw 1 rfl rfl dX4_let_20 ?_
    refine lv_topi (fun x4 ex4 => ?_)
    replace h := lt_nx ex4 h
    refine lv_istore_n (lv' := [(2, .int x4), (0, .ref (q 0)), (1, .int p1)]) hx hb dX4_let_23 rfl hl (by decide) rfl (fun ls hl => ?_)
    refine lv_aload_n hx hb dX4_let_24 rfl (lv_at hl 1 rfl) ?_
    refine gf_X4_12 cx hw 0 rfl rfl dX4_let_25 ?_
    refine lv_iload_n hx hb dX4_let_28 rfl (lv_at hl 2 rfl) ?_
    refine pf_X4_60 cx hw 1 rfl rfl rfl (Nat.le_of_ble_eq_true rfl) dX4_let_29 (fun H locs hw => ?_)
    obtain ⟨d5, ed5, h⟩ := lt_ex h
    have hw : Wd g (va_A ((XC g q d)) s.heap.size) ((XC g q d5)) s H locs := by rw [ed5]; exact hw
    refine lv_iload_n hx hb dX4_let_32 rfl (lv_at hl 0 rfl) ?_
    exact r_i cx hr hlocks hw (pr1 h) (congrArg (fun z0 => (XC g q z0)) (pr2 h)) dX4_let_33
  · replace h := ite_t c3 h
    refine lv_aload_n hx hb dX4_let_9 rfl (lv_at hl 0 rfl) ?_
    refine lv_ldc hx hb cx.1.2.2.2.1 (cx.1.2.2.2.2 _ tw_1_202) dX4_let_10 ?_
    obtain ⟨x6, d7, g8, h⟩ := bd2_ex h
    refine c_V (As := [.int (-1000000001 : Int32)]) (rest := []) (w' := (XC g q d7)) cx hw (c_X4_tell l g q N (-1000000001 : Int32) d x6 d7 g8) (cl_X4_45 cx.1.2.2.2.2 ⟨Nat.le_of_ble_eq_true rfl, Nat.le_of_ble_eq_true rfl⟩) (x_recv cx hw (ci := 4) rfl 0 rfl) (Ct.all (XC_ll ..)) hl.1 rfl rfl (Nat.le_of_ble_eq_true rfl) dX4_let_12 ⟨Nat.le_of_ble_eq_true rfl, Nat.le_of_ble_eq_true rfl⟩ (st1 := [.int x6]) rfl (fun H locs hw => ?_)
    exact r_i cx hr hlocks hw (pr1 h) (congrArg (fun z0 => (XC g q z0)) (pr2 h)) dX4_let_15
set_option maxHeartbeats 4000000 in
set_option maxRecDepth 100000 in
theorem c_X4_person (l : Launch) (g : gE) (q : Nat → Nat) (N : Nat) (p1 : Int32) (p2 : Int32) (d : XD) (r : Int32) (d' : XD) (h : f_X4_person N  p1 p2 d = some (r, d')) : MO l yX4_person (Cond.code yX4_person cX4_person 4 (some .int) :: TB) rm_X4_person [.ref (q 0), .int p1, .int p2] g ((XC g q d)) ((XC g q d')) (some (.int r)) 0 0 := by
  refine MO.of (cc := cX4_person) (maxL := 4) (ret := (some .int)) (by decide) ?_
  intro p e s m below meth c cx hw hr hlocks _
  have hx := cx.1.1
  have hb := cx.1.2.1
  refine en_go (lv := [(0, .ref (q 0)), (1, .int p1), (2, .int p2)]) (Nat.le_of_ble_eq_true rfl) rfl (fun ls hl => ?_)
  unfold f_X4_person at h
  refine lv_iload_n hx hb dX4_person_0 rfl (lv_at hl 1 rfl) ?_
  obtain ⟨x1, g2, h⟩ := bd_ex h
  refine c_S (As := [.int p1]) (rest := []) (w' := (XC g q d)) cx hw (c_X4_isKind l g  N p1  x1 g2) (cl_X4_64 cx.1.2.2.2.2 ⟨Nat.le_of_ble_eq_true rfl, Nat.le_of_ble_eq_true rfl⟩) Ct.nil hl.1 rfl rfl (Nat.le_of_ble_eq_true rfl) dX4_person_1 ⟨Nat.le_of_ble_eq_true rfl, Nat.le_of_ble_eq_true rfl⟩ (st1 := [.int x1]) rfl (fun H locs hw => ?_)
  refine lv_if_eq (tgt := 17) hx hb dX4_person_4 (by decide) (fun c3 => ?_) (fun c3 => ?_)
  · replace h := ite_t c3 h
    refine lv_aload_n hx hb dX4_person_17 rfl (lv_at hl 0 rfl) ?_
    refine lv_ldc hx hb cx.1.2.2.2.1 (cx.1.2.2.2.2 _ tw_1_202) dX4_person_18 ?_
    obtain ⟨x4, d5, g6, h⟩ := bd2_ex h
    refine c_V (As := [.int (-1000000001 : Int32)]) (rest := []) (w' := (XC g q d5)) cx hw (c_X4_tell l g q N (-1000000001 : Int32) d x4 d5 g6) (cl_X4_45 cx.1.2.2.2.2 ⟨Nat.le_of_ble_eq_true rfl, Nat.le_of_ble_eq_true rfl⟩) (x_recv cx hw (ci := 4) rfl 0 rfl) (Ct.all (XC_ll ..)) hl.1 rfl rfl (Nat.le_of_ble_eq_true rfl) dX4_person_20 ⟨Nat.le_of_ble_eq_true rfl, Nat.le_of_ble_eq_true rfl⟩ (st1 := [.int x4]) rfl (fun H locs hw => ?_)
    exact r_i cx hr hlocks hw (pr1 h) (congrArg (fun z0 => (XC g q z0)) (pr2 h)) dX4_person_23
  · replace h := ite_f c3 h
    refine lv_iload_n hx hb dX4_person_7 rfl (lv_at hl 2 rfl) ?_
    refine lv_iconst (v := 0) hx hb dX4_person_8 (by decide) ?_
    refine lv_bipush (v := 120) hx hb dX4_person_9 (by decide) ?_
    obtain ⟨x7, g8, h⟩ := bd_ex h
    refine c_S (As := [.int p2, .int (0 : Int32), .int (120 : Int32)]) (rest := []) (w' := (XC g q d)) cx hw (c_X4_isWithin l g  N p2 (0 : Int32) (120 : Int32)  x7 g8) (cl_X4_40 cx.1.2.2.2.2 ⟨Nat.le_of_ble_eq_true rfl, Nat.le_of_ble_eq_true rfl⟩) Ct.nil hl.1 rfl rfl (Nat.le_of_ble_eq_true rfl) dX4_person_11 ⟨Nat.le_of_ble_eq_true rfl, Nat.le_of_ble_eq_true rfl⟩ (st1 := [.int x7]) rfl (fun H locs hw => ?_)
    refine lv_if_ne (tgt := 24) hx hb dX4_person_14 (by decide) (fun c9 => ?_) (fun c9 => ?_)
    · replace h := ite_f c9 h
      refine lv_aload_n hx hb dX4_person_24 rfl (lv_at hl 0 rfl) ?_
      refine gf_X4_12 cx hw 0 rfl rfl dX4_person_25 ?_
      refine lv_iload_n hx hb dX4_person_28 rfl (lv_at hl 1 rfl) ?_
      refine lv_iload_n hx hb dX4_person_29 rfl (lv_at hl 2 rfl) ?_
      obtain ⟨x10, d11, g12, h⟩ := bd2_ex h
      refine c_V (As := [.int p1, .int p2]) (rest := []) (w' := (XC g q (x_set_valley d d11))) cx hw (c_X3_addOne l g (qs 1 q) N p1 p2 (x_valley d) x10 d11 g12) (cl_X4_68 cx.1.2.2.2.2 ⟨Nat.le_of_ble_eq_true rfl, Nat.le_of_ble_eq_true rfl⟩) (x_recv cx hw (ci := 3) rfl 1 rfl) (ct_X__1_2_3_4_5_6_7_8_9_10_11_12_13__V_0 g q d d11) hl.1 rfl rfl (Nat.le_of_ble_eq_true rfl) dX4_person_30 ⟨Nat.le_of_ble_eq_true rfl, Nat.le_of_ble_eq_true rfl⟩ (st1 := [.int x10]) rfl (fun H locs hw => ?_)
      obtain ⟨d13, ed13, h⟩ := lt_ex h
      have hw : Wd g (va_A ((XC g q d)) s.heap.size) ((XC g q d13)) s H locs := by rw [ed13]; exact hw
      refine lv_istore_n (lv' := [(3, .int x10), (0, .ref (q 0)), (1, .int p1), (2, .int p2)]) hx hb dX4_person_33 rfl hl (by decide) rfl (fun ls hl => ?_)
      refine lv_iload_n hx hb dX4_person_34 rfl (lv_at hl 0 rfl) ?_
      refine lv_iconst (v := -1) hx hb dX4_person_35 (by decide) ?_
      refine lv_icmp_ne (tgt := 48) hx hb dX4_person_36 (by decide) (fun c14 => ?_) (fun c14 => ?_)
      · replace h := ite_f c14 h
        refine lv_iload_n hx hb dX4_person_48 rfl (lv_at hl 0 rfl) ?_
        exact r_i cx hr hlocks hw (pr1 h) (congrArg (fun z0 => (XC g q z0)) (pr2 h)) dX4_person_49
      · replace h := ite_t c14 h
        refine lv_aload_n hx hb dX4_person_39 rfl (lv_at hl 1 rfl) ?_
        refine lv_ldc hx hb cx.1.2.2.2.1 (cx.1.2.2.2.2 _ tw_1_230) dX4_person_40 ?_
        obtain ⟨x15, d16, g17, h⟩ := bd2_ex h
        refine c_V (As := [.int (-1000000002 : Int32)]) (rest := []) (w' := (XC g q d16)) cx hw (c_X4_tell l g q N (-1000000002 : Int32) d13 x15 d16 g17) (cl_X4_45 cx.1.2.2.2.2 ⟨Nat.le_of_ble_eq_true rfl, Nat.le_of_ble_eq_true rfl⟩) (x_recv cx hw (ci := 4) rfl 0 rfl) (Ct.all (XC_ll ..)) hl.1 rfl rfl (Nat.le_of_ble_eq_true rfl) dX4_person_42 ⟨Nat.le_of_ble_eq_true rfl, Nat.le_of_ble_eq_true rfl⟩ (st1 := [.int x15]) rfl (fun H locs hw => ?_)
        refine lv_goto (tgt := 49) hx hb dX4_person_45 (by decide) ?_
        exact r_i cx hr hlocks hw (pr1 h) (congrArg (fun z0 => (XC g q z0)) (pr2 h)) dX4_person_49
    · replace h := ite_t c9 h
      refine lv_aload_n hx hb dX4_person_17 rfl (lv_at hl 0 rfl) ?_
      refine lv_ldc hx hb cx.1.2.2.2.1 (cx.1.2.2.2.2 _ tw_1_202) dX4_person_18 ?_
      obtain ⟨x18, d19, g20, h⟩ := bd2_ex h
      refine c_V (As := [.int (-1000000001 : Int32)]) (rest := []) (w' := (XC g q d19)) cx hw (c_X4_tell l g q N (-1000000001 : Int32) d x18 d19 g20) (cl_X4_45 cx.1.2.2.2.2 ⟨Nat.le_of_ble_eq_true rfl, Nat.le_of_ble_eq_true rfl⟩) (x_recv cx hw (ci := 4) rfl 0 rfl) (Ct.all (XC_ll ..)) hl.1 rfl rfl (Nat.le_of_ble_eq_true rfl) dX4_person_20 ⟨Nat.le_of_ble_eq_true rfl, Nat.le_of_ble_eq_true rfl⟩ (st1 := [.int x18]) rfl (fun H locs hw => ?_)
      exact r_i cx hr hlocks hw (pr1 h) (congrArg (fun z0 => (XC g q z0)) (pr2 h)) dX4_person_23
set_option maxHeartbeats 4000000 in
set_option maxRecDepth 100000 in
theorem c_X4_isOne (l : Launch) (g : gE) (q : Nat → Nat) (N : Nat) (p1 : Int32) (d : XD) (r : Int32) (h : f_X4_isOne N  p1 d = some r) : MO l yX4_isOne (Cond.code yX4_isOne cX4_isOne 2 (some .boolean) :: TB) rm_X4_isOne [.ref (q 0), .int p1] g ((XC g q d)) ((XC g q d)) (some (.int r)) 0 0 := by
  refine MO.of (cc := cX4_isOne) (maxL := 2) (ret := (some .boolean)) (by decide) ?_
  intro p e s m below meth c cx hw hr hlocks _
  have hx := cx.1.1
  have hb := cx.1.2.1
  refine en_go (lv := [(0, .ref (q 0)), (1, .int p1)]) (Nat.le_of_ble_eq_true rfl) rfl (fun ls hl => ?_)
  unfold f_X4_isOne at h
  refine lv_iload_n hx hb dX4_isOne_0 rfl (lv_at hl 1 rfl) ?_
  refine lv_iconst (v := 0) hx hb dX4_isOne_1 (by decide) ?_
  refine lv_aload_n hx hb dX4_isOne_2 rfl (lv_at hl 0 rfl) ?_
  refine gf_X4_12 cx hw 0 rfl rfl dX4_isOne_3 ?_
  refine gf_X4_261 cx hw 1 rfl rfl dX4_isOne_6 ?_
  refine lv_iconst (v := 1) hx hb dX4_isOne_9 (by decide) ?_
  refine lv_isub hx hb dX4_isOne_10 ?_
  obtain ⟨x1, g2, h⟩ := bd_ex h
  refine c_S (As := [.int p1, .int (0 : Int32), .int ((v_people (x_valley d)) - (1 : Int32))]) (rest := []) (w' := (XC g q d)) cx hw (c_X4_isWithin l g  N p1 (0 : Int32) ((v_people (x_valley d)) - (1 : Int32))  x1 g2) (cl_X4_40 cx.1.2.2.2.2 ⟨Nat.le_of_ble_eq_true rfl, Nat.le_of_ble_eq_true rfl⟩) Ct.nil hl.1 rfl rfl (Nat.le_of_ble_eq_true rfl) dX4_isOne_11 ⟨Nat.le_of_ble_eq_true rfl, Nat.le_of_ble_eq_true rfl⟩ (st1 := [.int x1]) rfl (fun H locs hw => ?_)
  have i3 := ckz_in h
  replace h := ckz_nx h
  exact r_z cx hr hlocks i3 hw (sm_eq h) rfl dX4_isOne_14
set_option maxHeartbeats 4000000 in
set_option maxRecDepth 100000 in
theorem c_X4_of (l : Launch) (g : gE) (q : Nat → Nat) (N : Nat) (p1 : Int32) (p2 : Int32) (d : XD) (r : Int32) (d' : XD) (h : f_X4_of N  p1 p2 d = some (r, d')) : MO l yX4_of (Cond.code yX4_of cX4_of 3 (some .int) :: TB) rm_X4_of [.ref (q 0), .int p1, .int p2] g ((XC g q d)) ((XC g q d')) (some (.int r)) 0 0 := by
  refine MO.of (cc := cX4_of) (maxL := 3) (ret := (some .int)) (by decide) ?_
  intro p e s m below meth c cx hw hr hlocks _
  have hx := cx.1.1
  have hb := cx.1.2.1
  refine en_go (lv := [(0, .ref (q 0)), (1, .int p1), (2, .int p2)]) (Nat.le_of_ble_eq_true rfl) rfl (fun ls hl => ?_)
  unfold f_X4_of at h
  refine lv_aload_n hx hb dX4_of_0 rfl (lv_at hl 0 rfl) ?_
  refine lv_iload_n hx hb dX4_of_1 rfl (lv_at hl 1 rfl) ?_
  obtain ⟨x1, g2, h⟩ := bd_ex h
  refine c_V (As := [.int p1]) (rest := []) (w' := (XC g q d)) cx hw (c_X4_isOne l g q N p1 d x1 g2) (cl_X4_72 cx.1.2.2.2.2 ⟨Nat.le_of_ble_eq_true rfl, Nat.le_of_ble_eq_true rfl⟩) (x_recv cx hw (ci := 4) rfl 0 rfl) (Ct.all (XC_ll ..)) hl.1 rfl rfl (Nat.le_of_ble_eq_true rfl) dX4_of_2 ⟨Nat.le_of_ble_eq_true rfl, Nat.le_of_ble_eq_true rfl⟩ (st1 := [.int x1]) rfl (fun H locs hw => ?_)
  refine lv_if_ne (tgt := 15) hx hb dX4_of_5 (by decide) (fun c3 => ?_) (fun c3 => ?_)
  · replace h := ite_f c3 h
    refine lv_iload_n hx hb dX4_of_15 rfl (lv_at hl 2 rfl) ?_
    by_cases c4 : p2 = 0
    · replace h := ite_t c4 h
      refine lv_tableIn (tgt := 60) hx hb dX4_of_16 (by rw [c4]; decide) (by rw [c4]; decide) (by rw [c4]; rfl) (by decide) ?_
      refine lv_aload_n hx hb dX4_of_60 rfl (lv_at hl 0 rfl) ?_
      refine gf_X4_12 cx hw 0 rfl rfl dX4_of_61 ?_
      refine gf_X4_75 cx hw 1 rfl rfl dX4_of_64 ?_
      refine lv_iload_n hx hb dX4_of_67 rfl (lv_at hl 1 rfl) ?_
      have ix5 := rd_in h
      refine x_iald cx hw 6 rfl ix5 dX4_of_68 ?_
      refine lv_topi (fun x5 ex5 => ?_)
      replace h := rd_nx ex5 h
      exact r_i cx hr hlocks hw (pr1 h) (congrArg (fun z0 => (XC g q z0)) (pr2 h)) dX4_of_69
    · replace h := ite_f c4 h
      by_cases c6 : p2 = 1
      · replace h := ite_t c6 h
        refine lv_tableIn (tgt := 70) hx hb dX4_of_16 (by rw [c6]; decide) (by rw [c6]; decide) (by rw [c6]; rfl) (by decide) ?_
        refine lv_aload_n hx hb dX4_of_70 rfl (lv_at hl 0 rfl) ?_
        refine gf_X4_12 cx hw 0 rfl rfl dX4_of_71 ?_
        refine gf_X4_78 cx hw 1 rfl rfl dX4_of_74 ?_
        refine lv_iload_n hx hb dX4_of_77 rfl (lv_at hl 1 rfl) ?_
        have ix7 := rd_in h
        refine x_iald cx hw 7 rfl ix7 dX4_of_78 ?_
        refine lv_topi (fun x7 ex7 => ?_)
        replace h := rd_nx ex7 h
        exact r_i cx hr hlocks hw (pr1 h) (congrArg (fun z0 => (XC g q z0)) (pr2 h)) dX4_of_79
      · replace h := ite_f c6 h
        by_cases c8 : p2 = 2
        · replace h := ite_t c8 h
          refine lv_tableIn (tgt := 80) hx hb dX4_of_16 (by rw [c8]; decide) (by rw [c8]; decide) (by rw [c8]; rfl) (by decide) ?_
          refine lv_aload_n hx hb dX4_of_80 rfl (lv_at hl 0 rfl) ?_
          refine gf_X4_12 cx hw 0 rfl rfl dX4_of_81 ?_
          refine gf_X4_81 cx hw 1 rfl rfl dX4_of_84 ?_
          refine lv_iload_n hx hb dX4_of_87 rfl (lv_at hl 1 rfl) ?_
          have ix9 := rd_in h
          refine x_iald cx hw 8 rfl ix9 dX4_of_88 ?_
          refine lv_topi (fun x9 ex9 => ?_)
          replace h := rd_nx ex9 h
          exact r_i cx hr hlocks hw (pr1 h) (congrArg (fun z0 => (XC g q z0)) (pr2 h)) dX4_of_89
        · replace h := ite_f c8 h
          by_cases c10 : p2 = 3
          · replace h := ite_t c10 h
            refine lv_tableIn (tgt := 90) hx hb dX4_of_16 (by rw [c10]; decide) (by rw [c10]; decide) (by rw [c10]; rfl) (by decide) ?_
            refine lv_aload_n hx hb dX4_of_90 rfl (lv_at hl 0 rfl) ?_
            refine gf_X4_12 cx hw 0 rfl rfl dX4_of_91 ?_
            refine gf_X4_84 cx hw 1 rfl rfl dX4_of_94 ?_
            refine lv_iload_n hx hb dX4_of_97 rfl (lv_at hl 1 rfl) ?_
            have ix11 := rd_in h
            refine x_iald cx hw 9 rfl ix11 dX4_of_98 ?_
            refine lv_topi (fun x11 ex11 => ?_)
            replace h := rd_nx ex11 h
            exact r_i cx hr hlocks hw (pr1 h) (congrArg (fun z0 => (XC g q z0)) (pr2 h)) dX4_of_99
          · replace h := ite_f c10 h
            by_cases c12 : p2 = 4
            · replace h := ite_t c12 h
              refine lv_tableIn (tgt := 100) hx hb dX4_of_16 (by rw [c12]; decide) (by rw [c12]; decide) (by rw [c12]; rfl) (by decide) ?_
              refine lv_aload_n hx hb dX4_of_100 rfl (lv_at hl 0 rfl) ?_
              refine gf_X4_12 cx hw 0 rfl rfl dX4_of_101 ?_
              refine gf_X4_87 cx hw 1 rfl rfl dX4_of_104 ?_
              refine lv_iload_n hx hb dX4_of_107 rfl (lv_at hl 1 rfl) ?_
              have ix13 := rd_in h
              refine x_iald cx hw 10 rfl ix13 dX4_of_108 ?_
              refine lv_topi (fun x13 ex13 => ?_)
              replace h := rd_nx ex13 h
              exact r_i cx hr hlocks hw (pr1 h) (congrArg (fun z0 => (XC g q z0)) (pr2 h)) dX4_of_109
            · replace h := ite_f c12 h
              by_cases c14 : p2 = 5
              · replace h := ite_t c14 h
                refine lv_tableIn (tgt := 110) hx hb dX4_of_16 (by rw [c14]; decide) (by rw [c14]; decide) (by rw [c14]; rfl) (by decide) ?_
                refine lv_aload_n hx hb dX4_of_110 rfl (lv_at hl 0 rfl) ?_
                refine gf_X4_12 cx hw 0 rfl rfl dX4_of_111 ?_
                refine lv_iload_n hx hb dX4_of_114 rfl (lv_at hl 1 rfl) ?_
                obtain ⟨x15, g16, h⟩ := bd_ex h
                refine c_V (As := [.int p1]) (rest := []) (w' := (XC g q d)) cx hw (c_X3_lives l g (qs 1 q) N p1 (x_valley d) x15 g16) (cl_X4_90 cx.1.2.2.2.2 ⟨Nat.le_of_ble_eq_true rfl, Nat.le_of_ble_eq_true rfl⟩) (x_recv cx hw (ci := 3) rfl 1 rfl) (ct_X__1_2_3_4_5_6_7_8_9_10_11_12_13__V g q d ) hl.1 rfl rfl (Nat.le_of_ble_eq_true rfl) dX4_of_115 ⟨Nat.le_of_ble_eq_true rfl, Nat.le_of_ble_eq_true rfl⟩ (st1 := [.int x15]) rfl (fun H locs hw => ?_)
                refine lv_if_eq (tgt := 125) hx hb dX4_of_118 (by decide) (fun c17 => ?_) (fun c17 => ?_)
                · replace h := ite_t c17 h
                  refine lv_iconst (v := 0) hx hb dX4_of_125 (by decide) ?_
                  exact r_i cx hr hlocks hw (pr1 h) (congrArg (fun z0 => (XC g q z0)) (pr2 h)) dX4_of_126
                · replace h := ite_f c17 h
                  refine lv_iconst (v := 1) hx hb dX4_of_121 (by decide) ?_
                  refine lv_goto (tgt := 126) hx hb dX4_of_122 (by decide) ?_
                  exact r_i cx hr hlocks hw (pr1 h) (congrArg (fun z0 => (XC g q z0)) (pr2 h)) dX4_of_126
              · replace h := ite_f c14 h
                by_cases c18 : p2 = 6
                · replace h := ite_t c18 h
                  refine lv_tableIn (tgt := 127) hx hb dX4_of_16 (by rw [c18]; decide) (by rw [c18]; decide) (by rw [c18]; rfl) (by decide) ?_
                  refine lv_aload_n hx hb dX4_of_127 rfl (lv_at hl 0 rfl) ?_
                  refine gf_X4_12 cx hw 0 rfl rfl dX4_of_128 ?_
                  refine lv_iload_n hx hb dX4_of_131 rfl (lv_at hl 1 rfl) ?_
                  obtain ⟨x19, g20, h⟩ := bd_ex h
                  refine c_V (As := [.int p1]) (rest := []) (w' := (XC g q d)) cx hw (c_X3_aimOf l g (qs 1 q) N p1 (x_valley d) x19 g20) (cl_X4_93 cx.1.2.2.2.2 ⟨Nat.le_of_ble_eq_true rfl, Nat.le_of_ble_eq_true rfl⟩) (x_recv cx hw (ci := 3) rfl 1 rfl) (ct_X__1_2_3_4_5_6_7_8_9_10_11_12_13__V g q d ) hl.1 rfl rfl (Nat.le_of_ble_eq_true rfl) dX4_of_132 ⟨Nat.le_of_ble_eq_true rfl, Nat.le_of_ble_eq_true rfl⟩ (st1 := [.int x19]) rfl (fun H locs hw => ?_)
                  exact r_i cx hr hlocks hw (pr1 h) (congrArg (fun z0 => (XC g q z0)) (pr2 h)) dX4_of_135
                · replace h := ite_f c18 h
                  have tc4 : (p2).toInt ≠ 0 := fun e => c4 (Int32.toInt_inj.mp (e.trans (by decide)))
                  have tc6 : (p2).toInt ≠ 1 := fun e => c6 (Int32.toInt_inj.mp (e.trans (by decide)))
                  have tc8 : (p2).toInt ≠ 2 := fun e => c8 (Int32.toInt_inj.mp (e.trans (by decide)))
                  have tc10 : (p2).toInt ≠ 3 := fun e => c10 (Int32.toInt_inj.mp (e.trans (by decide)))
                  have tc12 : (p2).toInt ≠ 4 := fun e => c12 (Int32.toInt_inj.mp (e.trans (by decide)))
                  have tc14 : (p2).toInt ≠ 5 := fun e => c14 (Int32.toInt_inj.mp (e.trans (by decide)))
                  have tc18 : (p2).toInt ≠ 6 := fun e => c18 (Int32.toInt_inj.mp (e.trans (by decide)))
                  refine lv_tableOut (tgt := 136) hx hb dX4_of_16 (by omega) (by decide) ?_
                  refine lv_aload_n hx hb dX4_of_136 rfl (lv_at hl 0 rfl) ?_
                  refine lv_ldc hx hb cx.1.2.2.2.1 (cx.1.2.2.2.2 _ tw_1_202) dX4_of_137 ?_
                  obtain ⟨x21, d22, g23, h⟩ := bd2_ex h
                  refine c_V (As := [.int (-1000000001 : Int32)]) (rest := []) (w' := (XC g q d22)) cx hw (c_X4_tell l g q N (-1000000001 : Int32) d x21 d22 g23) (cl_X4_45 cx.1.2.2.2.2 ⟨Nat.le_of_ble_eq_true rfl, Nat.le_of_ble_eq_true rfl⟩) (x_recv cx hw (ci := 4) rfl 0 rfl) (Ct.all (XC_ll ..)) hl.1 rfl rfl (Nat.le_of_ble_eq_true rfl) dX4_of_139 ⟨Nat.le_of_ble_eq_true rfl, Nat.le_of_ble_eq_true rfl⟩ (st1 := [.int x21]) rfl (fun H locs hw => ?_)
                  exact r_i cx hr hlocks hw (pr1 h) (congrArg (fun z0 => (XC g q z0)) (pr2 h)) dX4_of_142
  · replace h := ite_t c3 h
    refine lv_aload_n hx hb dX4_of_8 rfl (lv_at hl 0 rfl) ?_
    refine lv_ldc hx hb cx.1.2.2.2.1 (cx.1.2.2.2.2 _ tw_1_202) dX4_of_9 ?_
    obtain ⟨x24, d25, g26, h⟩ := bd2_ex h
    refine c_V (As := [.int (-1000000001 : Int32)]) (rest := []) (w' := (XC g q d25)) cx hw (c_X4_tell l g q N (-1000000001 : Int32) d x24 d25 g26) (cl_X4_45 cx.1.2.2.2.2 ⟨Nat.le_of_ble_eq_true rfl, Nat.le_of_ble_eq_true rfl⟩) (x_recv cx hw (ci := 4) rfl 0 rfl) (Ct.all (XC_ll ..)) hl.1 rfl rfl (Nat.le_of_ble_eq_true rfl) dX4_of_11 ⟨Nat.le_of_ble_eq_true rfl, Nat.le_of_ble_eq_true rfl⟩ (st1 := [.int x24]) rfl (fun H locs hw => ?_)
    exact r_i cx hr hlocks hw (pr1 h) (congrArg (fun z0 => (XC g q z0)) (pr2 h)) dX4_of_14
set_option maxHeartbeats 4000000 in
set_option maxRecDepth 100000 in
theorem c_X4_areTwo (l : Launch) (g : gE) (q : Nat → Nat) (N : Nat) (p1 : Int32) (p2 : Int32) (d : XD) (r : Int32) (h : f_X4_areTwo N  p1 p2 d = some r) : MO l yX4_areTwo (Cond.code yX4_areTwo cX4_areTwo 3 (some .boolean) :: TB) rm_X4_areTwo [.ref (q 0), .int p1, .int p2] g ((XC g q d)) ((XC g q d)) (some (.int r)) 0 0 := by
  refine MO.of (cc := cX4_areTwo) (maxL := 3) (ret := (some .boolean)) (by decide) ?_
  intro p e s m below meth c cx hw hr hlocks _
  have hx := cx.1.1
  have hb := cx.1.2.1
  refine en_go (lv := [(0, .ref (q 0)), (1, .int p1), (2, .int p2)]) (Nat.le_of_ble_eq_true rfl) rfl (fun ls hl => ?_)
  unfold f_X4_areTwo at h
  refine lv_iload_n hx hb dX4_areTwo_0 rfl (lv_at hl 1 rfl) ?_
  refine lv_iload_n hx hb dX4_areTwo_1 rfl (lv_at hl 2 rfl) ?_
  refine lv_icmp_eq (tgt := 25) hx hb dX4_areTwo_2 (by decide) (fun c1 => ?_) (fun c1 => ?_)
  · replace h := ite_t c1 h
    refine lv_iconst (v := 0) hx hb dX4_areTwo_25 (by decide) ?_
    exact r_z cx hr hlocks rfl hw (sm_eq h) rfl dX4_areTwo_26
  · replace h := ite_f c1 h
    refine lv_aload_n hx hb dX4_areTwo_5 rfl (lv_at hl 0 rfl) ?_
    refine lv_iload_n hx hb dX4_areTwo_6 rfl (lv_at hl 1 rfl) ?_
    obtain ⟨x2, g3, h⟩ := bd_ex h
    refine c_V (As := [.int p1]) (rest := []) (w' := (XC g q d)) cx hw (c_X4_isOne l g q N p1 d x2 g3) (cl_X4_72 cx.1.2.2.2.2 ⟨Nat.le_of_ble_eq_true rfl, Nat.le_of_ble_eq_true rfl⟩) (x_recv cx hw (ci := 4) rfl 0 rfl) (Ct.all (XC_ll ..)) hl.1 rfl rfl (Nat.le_of_ble_eq_true rfl) dX4_areTwo_7 ⟨Nat.le_of_ble_eq_true rfl, Nat.le_of_ble_eq_true rfl⟩ (st1 := [.int x2]) rfl (fun H locs hw => ?_)
    refine lv_if_eq (tgt := 25) hx hb dX4_areTwo_10 (by decide) (fun c4 => ?_) (fun c4 => ?_)
    · replace h := ite_t c4 h
      refine lv_iconst (v := 0) hx hb dX4_areTwo_25 (by decide) ?_
      exact r_z cx hr hlocks rfl hw (sm_eq h) rfl dX4_areTwo_26
    · replace h := ite_f c4 h
      refine lv_aload_n hx hb dX4_areTwo_13 rfl (lv_at hl 0 rfl) ?_
      refine lv_iload_n hx hb dX4_areTwo_14 rfl (lv_at hl 2 rfl) ?_
      obtain ⟨x5, g6, h⟩ := bd_ex h
      refine c_V (As := [.int p2]) (rest := []) (w' := (XC g q d)) cx hw (c_X4_isOne l g q N p2 d x5 g6) (cl_X4_72 cx.1.2.2.2.2 ⟨Nat.le_of_ble_eq_true rfl, Nat.le_of_ble_eq_true rfl⟩) (x_recv cx hw (ci := 4) rfl 0 rfl) (Ct.all (XC_ll ..)) hl.1 rfl rfl (Nat.le_of_ble_eq_true rfl) dX4_areTwo_15 ⟨Nat.le_of_ble_eq_true rfl, Nat.le_of_ble_eq_true rfl⟩ (st1 := [.int x5]) rfl (fun H locs hw => ?_)
      refine lv_if_eq (tgt := 25) hx hb dX4_areTwo_18 (by decide) (fun c7 => ?_) (fun c7 => ?_)
      · replace h := ite_t c7 h
        refine lv_iconst (v := 0) hx hb dX4_areTwo_25 (by decide) ?_
        exact r_z cx hr hlocks rfl hw (sm_eq h) rfl dX4_areTwo_26
      · replace h := ite_f c7 h
        refine lv_iconst (v := 1) hx hb dX4_areTwo_21 (by decide) ?_
        refine lv_goto (tgt := 26) hx hb dX4_areTwo_22 (by decide) ?_
        exact r_z cx hr hlocks rfl hw (sm_eq h) rfl dX4_areTwo_26
set_option maxHeartbeats 4000000 in
set_option maxRecDepth 100000 in
theorem c_X4_maySet (l : Launch) (g : gE) (q : Nat → Nat) (N : Nat) (p1 : Int32) (p2 : Int32) (p3 : Int32) (d : XD) (r : Int32) (h : f_X4_maySet N  p1 p2 p3 d = some r) : MO l yX4_maySet (Cond.code yX4_maySet cX4_maySet 4 (some .boolean) :: TB) rm_X4_maySet [.ref (q 0), .int p1, .int p2, .int p3] g ((XC g q d)) ((XC g q d)) (some (.int r)) 0 0 := by
  refine MO.of (cc := cX4_maySet) (maxL := 4) (ret := (some .boolean)) (by decide) ?_
  intro p e s m below meth c cx hw hr hlocks _
  have hx := cx.1.1
  have hb := cx.1.2.1
  refine en_go (lv := [(0, .ref (q 0)), (1, .int p1), (2, .int p2), (3, .int p3)]) (Nat.le_of_ble_eq_true rfl) rfl (fun ls hl => ?_)
  unfold f_X4_maySet at h
  refine lv_iload_n hx hb dX4_maySet_0 rfl (lv_at hl 2 rfl) ?_
  by_cases c1 : p2 = 1
  · replace h := ite_t c1 h
    refine lv_tableIn (tgt := 36) hx hb dX4_maySet_1 (by rw [c1]; decide) (by rw [c1]; decide) (by rw [c1]; rfl) (by decide) ?_
    refine lv_iload_n hx hb dX4_maySet_36 rfl (lv_at hl 3 rfl) ?_
    refine lv_iconst (v := 0) hx hb dX4_maySet_37 (by decide) ?_
    refine lv_bipush (v := 120) hx hb dX4_maySet_38 (by decide) ?_
    obtain ⟨x2, g3, h⟩ := bd_ex h
    refine c_S (As := [.int p3, .int (0 : Int32), .int (120 : Int32)]) (rest := []) (w' := (XC g q d)) cx hw (c_X4_isWithin l g  N p3 (0 : Int32) (120 : Int32)  x2 g3) (cl_X4_40 cx.1.2.2.2.2 ⟨Nat.le_of_ble_eq_true rfl, Nat.le_of_ble_eq_true rfl⟩) Ct.nil hl.1 rfl rfl (Nat.le_of_ble_eq_true rfl) dX4_maySet_40 ⟨Nat.le_of_ble_eq_true rfl, Nat.le_of_ble_eq_true rfl⟩ (st1 := [.int x2]) rfl (fun H locs hw => ?_)
    have i4 := ckz_in h
    replace h := ckz_nx h
    exact r_z cx hr hlocks i4 hw (sm_eq h) rfl dX4_maySet_43
  · replace h := ite_f c1 h
    by_cases c5 : p2 = 2
    · replace h := ite_t c5 h
      refine lv_tableIn (tgt := 44) hx hb dX4_maySet_1 (by rw [c5]; decide) (by rw [c5]; decide) (by rw [c5]; rfl) (by decide) ?_
      refine lv_iload_n hx hb dX4_maySet_44 rfl (lv_at hl 3 rfl) ?_
      refine lv_iconst (v := 0) hx hb dX4_maySet_45 (by decide) ?_
      refine lv_ldcw hx hb cx.1.2.2.2.1 (cx.1.2.2.2.2 _ tw_2_31) dX4_maySet_46 ?_
      obtain ⟨x6, g7, h⟩ := bd_ex h
      refine c_S (As := [.int p3, .int (0 : Int32), .int (999999 : Int32)]) (rest := []) (w' := (XC g q d)) cx hw (c_X4_isWithin l g  N p3 (0 : Int32) (999999 : Int32)  x6 g7) (cl_X4_40 cx.1.2.2.2.2 ⟨Nat.le_of_ble_eq_true rfl, Nat.le_of_ble_eq_true rfl⟩) Ct.nil hl.1 rfl rfl (Nat.le_of_ble_eq_true rfl) dX4_maySet_49 ⟨Nat.le_of_ble_eq_true rfl, Nat.le_of_ble_eq_true rfl⟩ (st1 := [.int x6]) rfl (fun H locs hw => ?_)
      have i8 := ckz_in h
      replace h := ckz_nx h
      exact r_z cx hr hlocks i8 hw (sm_eq h) rfl dX4_maySet_52
    · replace h := ite_f c5 h
      by_cases c9 : p2 = 3
      · replace h := ite_t c9 h
        refine lv_tableIn (tgt := 53) hx hb dX4_maySet_1 (by rw [c9]; decide) (by rw [c9]; decide) (by rw [c9]; rfl) (by decide) ?_
        refine lv_iload_n hx hb dX4_maySet_53 rfl (lv_at hl 3 rfl) ?_
        refine lv_iconst (v := 1) hx hb dX4_maySet_54 (by decide) ?_
        refine lv_bipush (v := 120) hx hb dX4_maySet_55 (by decide) ?_
        obtain ⟨x10, g11, h⟩ := bd_ex h
        refine c_S (As := [.int p3, .int (1 : Int32), .int (120 : Int32)]) (rest := []) (w' := (XC g q d)) cx hw (c_X4_isWithin l g  N p3 (1 : Int32) (120 : Int32)  x10 g11) (cl_X4_40 cx.1.2.2.2.2 ⟨Nat.le_of_ble_eq_true rfl, Nat.le_of_ble_eq_true rfl⟩) Ct.nil hl.1 rfl rfl (Nat.le_of_ble_eq_true rfl) dX4_maySet_57 ⟨Nat.le_of_ble_eq_true rfl, Nat.le_of_ble_eq_true rfl⟩ (st1 := [.int x10]) rfl (fun H locs hw => ?_)
        have i12 := ckz_in h
        replace h := ckz_nx h
        exact r_z cx hr hlocks i12 hw (sm_eq h) rfl dX4_maySet_60
      · replace h := ite_f c9 h
        by_cases c13 : p2 = 4
        · replace h := ite_t c13 h
          refine lv_tableIn (tgt := 61) hx hb dX4_maySet_1 (by rw [c13]; decide) (by rw [c13]; decide) (by rw [c13]; rfl) (by decide) ?_
          refine lv_iload_n hx hb dX4_maySet_61 rfl (lv_at hl 3 rfl) ?_
          refine lv_iconst (v := -1) hx hb dX4_maySet_62 (by decide) ?_
          refine lv_icmp_eq (tgt := 75) hx hb dX4_maySet_63 (by decide) (fun c14 => ?_) (fun c14 => ?_)
          · replace h := ite_t c14 h
            refine lv_iconst (v := 1) hx hb dX4_maySet_75 (by decide) ?_
            refine lv_goto (tgt := 80) hx hb dX4_maySet_76 (by decide) ?_
            exact r_z cx hr hlocks rfl hw (sm_eq h) rfl dX4_maySet_80
          · replace h := ite_f c14 h
            refine lv_aload_n hx hb dX4_maySet_66 rfl (lv_at hl 0 rfl) ?_
            refine lv_iload_n hx hb dX4_maySet_67 rfl (lv_at hl 1 rfl) ?_
            refine lv_iload_n hx hb dX4_maySet_68 rfl (lv_at hl 3 rfl) ?_
            obtain ⟨x15, g16, h⟩ := bd_ex h
            refine c_V (As := [.int p1, .int p3]) (rest := []) (w' := (XC g q d)) cx hw (c_X4_areTwo l g q N p1 p3 d x15 g16) (cl_X4_117 cx.1.2.2.2.2 ⟨Nat.le_of_ble_eq_true rfl, Nat.le_of_ble_eq_true rfl⟩) (x_recv cx hw (ci := 4) rfl 0 rfl) (Ct.all (XC_ll ..)) hl.1 rfl rfl (Nat.le_of_ble_eq_true rfl) dX4_maySet_69 ⟨Nat.le_of_ble_eq_true rfl, Nat.le_of_ble_eq_true rfl⟩ (st1 := [.int x15]) rfl (fun H locs hw => ?_)
            refine lv_if_eq (tgt := 79) hx hb dX4_maySet_72 (by decide) (fun c17 => ?_) (fun c17 => ?_)
            · replace h := ite_t c17 h
              refine lv_iconst (v := 0) hx hb dX4_maySet_79 (by decide) ?_
              exact r_z cx hr hlocks rfl hw (sm_eq h) rfl dX4_maySet_80
            · replace h := ite_f c17 h
              refine lv_iconst (v := 1) hx hb dX4_maySet_75 (by decide) ?_
              refine lv_goto (tgt := 80) hx hb dX4_maySet_76 (by decide) ?_
              exact r_z cx hr hlocks rfl hw (sm_eq h) rfl dX4_maySet_80
        · replace h := ite_f c13 h
          by_cases c18 : p2 = 5
          · replace h := ite_t c18 h
            refine lv_tableIn (tgt := 81) hx hb dX4_maySet_1 (by rw [c18]; decide) (by rw [c18]; decide) (by rw [c18]; rfl) (by decide) ?_
            refine lv_iload_n hx hb dX4_maySet_81 rfl (lv_at hl 3 rfl) ?_
            refine lv_iconst (v := 0) hx hb dX4_maySet_82 (by decide) ?_
            refine lv_iconst (v := 1) hx hb dX4_maySet_83 (by decide) ?_
            obtain ⟨x19, g20, h⟩ := bd_ex h
            refine c_S (As := [.int p3, .int (0 : Int32), .int (1 : Int32)]) (rest := []) (w' := (XC g q d)) cx hw (c_X4_isWithin l g  N p3 (0 : Int32) (1 : Int32)  x19 g20) (cl_X4_40 cx.1.2.2.2.2 ⟨Nat.le_of_ble_eq_true rfl, Nat.le_of_ble_eq_true rfl⟩) Ct.nil hl.1 rfl rfl (Nat.le_of_ble_eq_true rfl) dX4_maySet_84 ⟨Nat.le_of_ble_eq_true rfl, Nat.le_of_ble_eq_true rfl⟩ (st1 := [.int x19]) rfl (fun H locs hw => ?_)
            have i21 := ckz_in h
            replace h := ckz_nx h
            exact r_z cx hr hlocks i21 hw (sm_eq h) rfl dX4_maySet_87
          · replace h := ite_f c18 h
            have tc1 : (p2).toInt ≠ 1 := fun e => c1 (Int32.toInt_inj.mp (e.trans (by decide)))
            have tc5 : (p2).toInt ≠ 2 := fun e => c5 (Int32.toInt_inj.mp (e.trans (by decide)))
            have tc9 : (p2).toInt ≠ 3 := fun e => c9 (Int32.toInt_inj.mp (e.trans (by decide)))
            have tc13 : (p2).toInt ≠ 4 := fun e => c13 (Int32.toInt_inj.mp (e.trans (by decide)))
            have tc18 : (p2).toInt ≠ 5 := fun e => c18 (Int32.toInt_inj.mp (e.trans (by decide)))
            refine lv_tableOut (tgt := 88) hx hb dX4_maySet_1 (by omega) (by decide) ?_
            refine lv_iconst (v := 0) hx hb dX4_maySet_88 (by decide) ?_
            exact r_z cx hr hlocks rfl hw (sm_eq h) rfl dX4_maySet_89
set_option maxHeartbeats 4000000 in
set_option maxRecDepth 100000 in
theorem c_X4_set (l : Launch) (g : gE) (q : Nat → Nat) (N : Nat) (p1 : Int32) (p2 : Int32) (p3 : Int32) (d : XD) (r : Int32) (d' : XD) (h : f_X4_set N  p1 p2 p3 d = some (r, d')) : MO l yX4_set (Cond.code yX4_set cX4_set 4 (some .int) :: TB) rm_X4_set [.ref (q 0), .int p1, .int p2, .int p3] g ((XC g q d)) ((XC g q d')) (some (.int r)) 0 0 := by
  refine MO.of (cc := cX4_set) (maxL := 4) (ret := (some .int)) (by decide) ?_
  intro p e s m below meth c cx hw hr hlocks _
  have hx := cx.1.1
  have hb := cx.1.2.1
  refine en_go (lv := [(0, .ref (q 0)), (1, .int p1), (2, .int p2), (3, .int p3)]) (Nat.le_of_ble_eq_true rfl) rfl (fun ls hl => ?_)
  unfold f_X4_set at h
  refine lv_aload_n hx hb dX4_set_0 rfl (lv_at hl 0 rfl) ?_
  refine lv_iload_n hx hb dX4_set_1 rfl (lv_at hl 1 rfl) ?_
  obtain ⟨x1, g2, h⟩ := bd_ex h
  refine c_V (As := [.int p1]) (rest := []) (w' := (XC g q d)) cx hw (c_X4_isOne l g q N p1 d x1 g2) (cl_X4_72 cx.1.2.2.2.2 ⟨Nat.le_of_ble_eq_true rfl, Nat.le_of_ble_eq_true rfl⟩) (x_recv cx hw (ci := 4) rfl 0 rfl) (Ct.all (XC_ll ..)) hl.1 rfl rfl (Nat.le_of_ble_eq_true rfl) dX4_set_2 ⟨Nat.le_of_ble_eq_true rfl, Nat.le_of_ble_eq_true rfl⟩ (st1 := [.int x1]) rfl (fun H locs hw => ?_)
  refine lv_if_eq (tgt := 18) hx hb dX4_set_5 (by decide) (fun c3 => ?_) (fun c3 => ?_)
  · replace h := ite_t c3 h
    refine lv_aload_n hx hb dX4_set_18 rfl (lv_at hl 0 rfl) ?_
    refine lv_ldc hx hb cx.1.2.2.2.1 (cx.1.2.2.2.2 _ tw_1_202) dX4_set_19 ?_
    obtain ⟨x4, d5, g6, h⟩ := bd2_ex h
    refine c_V (As := [.int (-1000000001 : Int32)]) (rest := []) (w' := (XC g q d5)) cx hw (c_X4_tell l g q N (-1000000001 : Int32) d x4 d5 g6) (cl_X4_45 cx.1.2.2.2.2 ⟨Nat.le_of_ble_eq_true rfl, Nat.le_of_ble_eq_true rfl⟩) (x_recv cx hw (ci := 4) rfl 0 rfl) (Ct.all (XC_ll ..)) hl.1 rfl rfl (Nat.le_of_ble_eq_true rfl) dX4_set_21 ⟨Nat.le_of_ble_eq_true rfl, Nat.le_of_ble_eq_true rfl⟩ (st1 := [.int x4]) rfl (fun H locs hw => ?_)
    exact r_i cx hr hlocks hw (pr1 h) (congrArg (fun z0 => (XC g q z0)) (pr2 h)) dX4_set_24
  · replace h := ite_f c3 h
    refine lv_aload_n hx hb dX4_set_8 rfl (lv_at hl 0 rfl) ?_
    refine lv_iload_n hx hb dX4_set_9 rfl (lv_at hl 1 rfl) ?_
    refine lv_iload_n hx hb dX4_set_10 rfl (lv_at hl 2 rfl) ?_
    refine lv_iload_n hx hb dX4_set_11 rfl (lv_at hl 3 rfl) ?_
    obtain ⟨x7, g8, h⟩ := bd_ex h
    refine c_V (As := [.int p1, .int p2, .int p3]) (rest := []) (w' := (XC g q d)) cx hw (c_X4_maySet l g q N p1 p2 p3 d x7 g8) (cl_X4_96 cx.1.2.2.2.2 ⟨Nat.le_of_ble_eq_true rfl, Nat.le_of_ble_eq_true rfl⟩) (x_recv cx hw (ci := 4) rfl 0 rfl) (Ct.all (XC_ll ..)) hl.1 rfl rfl (Nat.le_of_ble_eq_true rfl) dX4_set_12 ⟨Nat.le_of_ble_eq_true rfl, Nat.le_of_ble_eq_true rfl⟩ (st1 := [.int x7]) rfl (fun H locs hw => ?_)
    refine lv_if_ne (tgt := 25) hx hb dX4_set_15 (by decide) (fun c9 => ?_) (fun c9 => ?_)
    · replace h := ite_f c9 h
      refine lv_iload_n hx hb dX4_set_25 rfl (lv_at hl 2 rfl) ?_
      by_cases c10 : p2 = 1
      · replace h := ite_t c10 h
        refine lv_tableIn (tgt := 56) hx hb dX4_set_26 (by rw [c10]; decide) (by rw [c10]; decide) (by rw [c10]; rfl) (by decide) ?_
        refine lv_aload_n hx hb dX4_set_56 rfl (lv_at hl 0 rfl) ?_
        refine gf_X4_12 cx hw 0 rfl rfl dX4_set_57 ?_
        refine gf_X4_78 cx hw 1 rfl rfl dX4_set_60 ?_
        refine lv_iload_n hx hb dX4_set_63 rfl (lv_at hl 1 rfl) ?_
        refine lv_iload_n hx hb dX4_set_64 rfl (lv_at hl 3 rfl) ?_
        obtain ⟨x11, f12, g13, h⟩ := bd2_ex h
        refine c_S (As := [.ref (qs 1 q 6), .int p1, .int p3]) (rest := []) (w' := (XC g q (x_set_valley d (v_set_ages (x_valley d) f12)))) cx hw (c_X4_exchange l g (qs 1 q 6) 12 N p1 p3 (v_ages (x_valley d)) x11 f12 g13) (cl_X4_56 cx.1.2.2.2.2 ⟨Nat.le_of_ble_eq_true rfl, Nat.le_of_ble_eq_true rfl⟩) (ct_X__7__A_0 g q d f12) hl.1 rfl rfl (Nat.le_of_ble_eq_true rfl) dX4_set_65 ⟨Nat.le_of_ble_eq_true rfl, Nat.le_of_ble_eq_true rfl⟩ (st1 := [.int x11]) rfl (fun H locs hw => ?_)
        obtain ⟨d14, ed14, h⟩ := lt_ex h
        have hw : Wd g (va_A ((XC g q d)) s.heap.size) ((XC g q d14)) s H locs := by rw [ed14]; exact hw
        exact r_i cx hr hlocks hw (pr1 h) (congrArg (fun z0 => (XC g q z0)) (pr2 h)) dX4_set_68
      · replace h := ite_f c10 h
        by_cases c15 : p2 = 2
        · replace h := ite_t c15 h
          refine lv_tableIn (tgt := 69) hx hb dX4_set_26 (by rw [c15]; decide) (by rw [c15]; decide) (by rw [c15]; rfl) (by decide) ?_
          refine lv_aload_n hx hb dX4_set_69 rfl (lv_at hl 0 rfl) ?_
          refine gf_X4_12 cx hw 0 rfl rfl dX4_set_70 ?_
          refine gf_X4_81 cx hw 1 rfl rfl dX4_set_73 ?_
          refine lv_iload_n hx hb dX4_set_76 rfl (lv_at hl 1 rfl) ?_
          refine lv_iload_n hx hb dX4_set_77 rfl (lv_at hl 3 rfl) ?_
          obtain ⟨x16, f17, g18, h⟩ := bd2_ex h
          refine c_S (As := [.ref (qs 1 q 7), .int p1, .int p3]) (rest := []) (w' := (XC g q (x_set_valley d (v_set_goods (x_valley d) f17)))) cx hw (c_X4_exchange l g (qs 1 q 7) 12 N p1 p3 (v_goods (x_valley d)) x16 f17 g18) (cl_X4_56 cx.1.2.2.2.2 ⟨Nat.le_of_ble_eq_true rfl, Nat.le_of_ble_eq_true rfl⟩) (ct_X__8__A_0 g q d f17) hl.1 rfl rfl (Nat.le_of_ble_eq_true rfl) dX4_set_78 ⟨Nat.le_of_ble_eq_true rfl, Nat.le_of_ble_eq_true rfl⟩ (st1 := [.int x16]) rfl (fun H locs hw => ?_)
          obtain ⟨d19, ed19, h⟩ := lt_ex h
          have hw : Wd g (va_A ((XC g q d)) s.heap.size) ((XC g q d19)) s H locs := by rw [ed19]; exact hw
          exact r_i cx hr hlocks hw (pr1 h) (congrArg (fun z0 => (XC g q z0)) (pr2 h)) dX4_set_81
        · replace h := ite_f c15 h
          by_cases c20 : p2 = 3
          · replace h := ite_t c20 h
            refine lv_tableIn (tgt := 82) hx hb dX4_set_26 (by rw [c20]; decide) (by rw [c20]; decide) (by rw [c20]; rfl) (by decide) ?_
            refine lv_aload_n hx hb dX4_set_82 rfl (lv_at hl 0 rfl) ?_
            refine gf_X4_12 cx hw 0 rfl rfl dX4_set_83 ?_
            refine gf_X4_84 cx hw 1 rfl rfl dX4_set_86 ?_
            refine lv_iload_n hx hb dX4_set_89 rfl (lv_at hl 1 rfl) ?_
            refine lv_iload_n hx hb dX4_set_90 rfl (lv_at hl 3 rfl) ?_
            obtain ⟨x21, f22, g23, h⟩ := bd2_ex h
            refine c_S (As := [.ref (qs 1 q 8), .int p1, .int p3]) (rest := []) (w' := (XC g q (x_set_valley d (v_set_terms (x_valley d) f22)))) cx hw (c_X4_exchange l g (qs 1 q 8) 12 N p1 p3 (v_terms (x_valley d)) x21 f22 g23) (cl_X4_56 cx.1.2.2.2.2 ⟨Nat.le_of_ble_eq_true rfl, Nat.le_of_ble_eq_true rfl⟩) (ct_X__9__A_0 g q d f22) hl.1 rfl rfl (Nat.le_of_ble_eq_true rfl) dX4_set_91 ⟨Nat.le_of_ble_eq_true rfl, Nat.le_of_ble_eq_true rfl⟩ (st1 := [.int x21]) rfl (fun H locs hw => ?_)
            obtain ⟨d24, ed24, h⟩ := lt_ex h
            have hw : Wd g (va_A ((XC g q d)) s.heap.size) ((XC g q d24)) s H locs := by rw [ed24]; exact hw
            exact r_i cx hr hlocks hw (pr1 h) (congrArg (fun z0 => (XC g q z0)) (pr2 h)) dX4_set_94
          · replace h := ite_f c20 h
            by_cases c25 : p2 = 4
            · replace h := ite_t c25 h
              refine lv_tableIn (tgt := 95) hx hb dX4_set_26 (by rw [c25]; decide) (by rw [c25]; decide) (by rw [c25]; rfl) (by decide) ?_
              refine lv_aload_n hx hb dX4_set_95 rfl (lv_at hl 0 rfl) ?_
              refine gf_X4_12 cx hw 0 rfl rfl dX4_set_96 ?_
              refine gf_X4_87 cx hw 1 rfl rfl dX4_set_99 ?_
              refine lv_iload_n hx hb dX4_set_102 rfl (lv_at hl 1 rfl) ?_
              refine lv_iload_n hx hb dX4_set_103 rfl (lv_at hl 3 rfl) ?_
              obtain ⟨x26, f27, g28, h⟩ := bd2_ex h
              refine c_S (As := [.ref (qs 1 q 9), .int p1, .int p3]) (rest := []) (w' := (XC g q (x_set_valley d (v_set_children (x_valley d) f27)))) cx hw (c_X4_exchange l g (qs 1 q 9) 13 N p1 p3 (v_children (x_valley d)) x26 f27 g28) (cl_X4_56 cx.1.2.2.2.2 ⟨Nat.le_of_ble_eq_true rfl, Nat.le_of_ble_eq_true rfl⟩) (ct_X__10__A_0 g q d f27) hl.1 rfl rfl (Nat.le_of_ble_eq_true rfl) dX4_set_104 ⟨Nat.le_of_ble_eq_true rfl, Nat.le_of_ble_eq_true rfl⟩ (st1 := [.int x26]) rfl (fun H locs hw => ?_)
              obtain ⟨d29, ed29, h⟩ := lt_ex h
              have hw : Wd g (va_A ((XC g q d)) s.heap.size) ((XC g q d29)) s H locs := by rw [ed29]; exact hw
              exact r_i cx hr hlocks hw (pr1 h) (congrArg (fun z0 => (XC g q z0)) (pr2 h)) dX4_set_107
            · replace h := ite_f c25 h
              have tc10 : (p2).toInt ≠ 1 := fun e => c10 (Int32.toInt_inj.mp (e.trans (by decide)))
              have tc15 : (p2).toInt ≠ 2 := fun e => c15 (Int32.toInt_inj.mp (e.trans (by decide)))
              have tc20 : (p2).toInt ≠ 3 := fun e => c20 (Int32.toInt_inj.mp (e.trans (by decide)))
              have tc25 : (p2).toInt ≠ 4 := fun e => c25 (Int32.toInt_inj.mp (e.trans (by decide)))
              refine lv_tableOut (tgt := 108) hx hb dX4_set_26 (by omega) (by decide) ?_
              refine lv_aload_n hx hb dX4_set_108 rfl (lv_at hl 0 rfl) ?_
              refine gf_X4_12 cx hw 0 rfl rfl dX4_set_109 ?_
              refine lv_iload_n hx hb dX4_set_112 rfl (lv_at hl 1 rfl) ?_
              refine lv_iload_n hx hb dX4_set_113 rfl (lv_at hl 3 rfl) ?_
              obtain ⟨x30, d31, g32, h⟩ := bd2_ex h
              refine c_V (As := [.int p1, .int p3]) (rest := []) (w' := (XC g q (x_set_valley d d31))) cx hw (c_X3_putLiving l g (qs 1 q) N p1 p3 (x_valley d) x30 d31 g32) (cl_X4_99 cx.1.2.2.2.2 ⟨Nat.le_of_ble_eq_true rfl, Nat.le_of_ble_eq_true rfl⟩) (x_recv cx hw (ci := 3) rfl 1 rfl) (ct_X__1_2_3_4_5_6_7_8_9_10_11_12_13__V_0 g q d d31) hl.1 rfl rfl (Nat.le_of_ble_eq_true rfl) dX4_set_114 ⟨Nat.le_of_ble_eq_true rfl, Nat.le_of_ble_eq_true rfl⟩ (st1 := [.int x30]) rfl (fun H locs hw => ?_)
              obtain ⟨d33, ed33, h⟩ := lt_ex h
              have hw : Wd g (va_A ((XC g q d)) s.heap.size) ((XC g q d33)) s H locs := by rw [ed33]; exact hw
              exact r_i cx hr hlocks hw (pr1 h) (congrArg (fun z0 => (XC g q z0)) (pr2 h)) dX4_set_117
    · replace h := ite_t c9 h
      refine lv_aload_n hx hb dX4_set_18 rfl (lv_at hl 0 rfl) ?_
      refine lv_ldc hx hb cx.1.2.2.2.1 (cx.1.2.2.2.2 _ tw_1_202) dX4_set_19 ?_
      obtain ⟨x34, d35, g36, h⟩ := bd2_ex h
      refine c_V (As := [.int (-1000000001 : Int32)]) (rest := []) (w' := (XC g q d35)) cx hw (c_X4_tell l g q N (-1000000001 : Int32) d x34 d35 g36) (cl_X4_45 cx.1.2.2.2.2 ⟨Nat.le_of_ble_eq_true rfl, Nat.le_of_ble_eq_true rfl⟩) (x_recv cx hw (ci := 4) rfl 0 rfl) (Ct.all (XC_ll ..)) hl.1 rfl rfl (Nat.le_of_ble_eq_true rfl) dX4_set_21 ⟨Nat.le_of_ble_eq_true rfl, Nat.le_of_ble_eq_true rfl⟩ (st1 := [.int x34]) rfl (fun H locs hw => ?_)
      exact r_i cx hr hlocks hw (pr1 h) (congrArg (fun z0 => (XC g q z0)) (pr2 h)) dX4_set_24
set_option maxHeartbeats 4000000 in
set_option maxRecDepth 100000 in
theorem c_X4_way (l : Launch) (g : gE) (q : Nat → Nat) (N : Nat) (p1 : Int32) (p2 : Int32) (d : XD) (r : Int32) (d' : XD) (h : f_X4_way N  p1 p2 d = some (r, d')) : MO l yX4_way (Cond.code yX4_way cX4_way 3 (some .int) :: TB) rm_X4_way [.ref (q 0), .int p1, .int p2] g ((XC g q d)) ((XC g q d')) (some (.int r)) 0 0 := by
  refine MO.of (cc := cX4_way) (maxL := 3) (ret := (some .int)) (by decide) ?_
  intro p e s m below meth c cx hw hr hlocks _
  have hx := cx.1.1
  have hb := cx.1.2.1
  refine en_go (lv := [(0, .ref (q 0)), (1, .int p1), (2, .int p2)]) (Nat.le_of_ble_eq_true rfl) rfl (fun ls hl => ?_)
  unfold f_X4_way at h
  refine lv_aload_n hx hb dX4_way_0 rfl (lv_at hl 0 rfl) ?_
  refine lv_iload_n hx hb dX4_way_1 rfl (lv_at hl 1 rfl) ?_
  obtain ⟨x1, g2, h⟩ := bd_ex h
  refine c_V (As := [.int p1]) (rest := []) (w' := (XC g q d)) cx hw (c_X4_isOne l g q N p1 d x1 g2) (cl_X4_72 cx.1.2.2.2.2 ⟨Nat.le_of_ble_eq_true rfl, Nat.le_of_ble_eq_true rfl⟩) (x_recv cx hw (ci := 4) rfl 0 rfl) (Ct.all (XC_ll ..)) hl.1 rfl rfl (Nat.le_of_ble_eq_true rfl) dX4_way_2 ⟨Nat.le_of_ble_eq_true rfl, Nat.le_of_ble_eq_true rfl⟩ (st1 := [.int x1]) rfl (fun H locs hw => ?_)
  refine lv_if_eq (tgt := 18) hx hb dX4_way_5 (by decide) (fun c3 => ?_) (fun c3 => ?_)
  · replace h := ite_t c3 h
    refine lv_aload_n hx hb dX4_way_18 rfl (lv_at hl 0 rfl) ?_
    refine lv_ldc hx hb cx.1.2.2.2.1 (cx.1.2.2.2.2 _ tw_1_202) dX4_way_19 ?_
    obtain ⟨x4, d5, g6, h⟩ := bd2_ex h
    refine c_V (As := [.int (-1000000001 : Int32)]) (rest := []) (w' := (XC g q d5)) cx hw (c_X4_tell l g q N (-1000000001 : Int32) d x4 d5 g6) (cl_X4_45 cx.1.2.2.2.2 ⟨Nat.le_of_ble_eq_true rfl, Nat.le_of_ble_eq_true rfl⟩) (x_recv cx hw (ci := 4) rfl 0 rfl) (Ct.all (XC_ll ..)) hl.1 rfl rfl (Nat.le_of_ble_eq_true rfl) dX4_way_21 ⟨Nat.le_of_ble_eq_true rfl, Nat.le_of_ble_eq_true rfl⟩ (st1 := [.int x4]) rfl (fun H locs hw => ?_)
    exact r_i cx hr hlocks hw (pr1 h) (congrArg (fun z0 => (XC g q z0)) (pr2 h)) dX4_way_24
  · replace h := ite_f c3 h
    refine lv_iload_n hx hb dX4_way_8 rfl (lv_at hl 2 rfl) ?_
    refine lv_iconst (v := 0) hx hb dX4_way_9 (by decide) ?_
    refine lv_bipush (v := 8) hx hb dX4_way_10 (by decide) ?_
    obtain ⟨x7, g8, h⟩ := bd_ex h
    refine c_S (As := [.int p2, .int (0 : Int32), .int (8 : Int32)]) (rest := []) (w' := (XC g q d)) cx hw (c_X4_isWithin l g  N p2 (0 : Int32) (8 : Int32)  x7 g8) (cl_X4_40 cx.1.2.2.2.2 ⟨Nat.le_of_ble_eq_true rfl, Nat.le_of_ble_eq_true rfl⟩) Ct.nil hl.1 rfl rfl (Nat.le_of_ble_eq_true rfl) dX4_way_12 ⟨Nat.le_of_ble_eq_true rfl, Nat.le_of_ble_eq_true rfl⟩ (st1 := [.int x7]) rfl (fun H locs hw => ?_)
    refine lv_if_ne (tgt := 25) hx hb dX4_way_15 (by decide) (fun c9 => ?_) (fun c9 => ?_)
    · replace h := ite_f c9 h
      refine lv_aload_n hx hb dX4_way_25 rfl (lv_at hl 0 rfl) ?_
      refine gf_X4_12 cx hw 0 rfl rfl dX4_way_26 ?_
      refine gf_X4_102 cx hw 1 rfl rfl dX4_way_29 ?_
      refine lv_iload_n hx hb dX4_way_32 rfl (lv_at hl 1 rfl) ?_
      have ix10 := rd_in h
      refine x_iald cx hw 11 rfl ix10 dX4_way_33 ?_
      refine lv_topi (fun x10 ex10 => ?_)
      replace h := rd_nx ex10 h
      refine lv_iload_n hx hb dX4_way_34 rfl (lv_at hl 2 rfl) ?_
      obtain ⟨x11, g12, h⟩ := bd_ex h
      refine c_S (As := [.int x10, .int p2]) (rest := []) (w' := (XC g q d)) cx hw (c_X4_wayIn l g  N x10 p2  x11 g12) (cl_X4_105 cx.1.2.2.2.2 ⟨Nat.le_of_ble_eq_true rfl, Nat.le_of_ble_eq_true rfl⟩) Ct.nil hl.1 rfl rfl (Nat.le_of_ble_eq_true rfl) dX4_way_35 ⟨Nat.le_of_ble_eq_true rfl, Nat.le_of_ble_eq_true rfl⟩ (st1 := [.int x11]) rfl (fun H locs hw => ?_)
      exact r_i cx hr hlocks hw (pr1 h) (congrArg (fun z0 => (XC g q z0)) (pr2 h)) dX4_way_38
    · replace h := ite_t c9 h
      refine lv_aload_n hx hb dX4_way_18 rfl (lv_at hl 0 rfl) ?_
      refine lv_ldc hx hb cx.1.2.2.2.1 (cx.1.2.2.2.2 _ tw_1_202) dX4_way_19 ?_
      obtain ⟨x13, d14, g15, h⟩ := bd2_ex h
      refine c_V (As := [.int (-1000000001 : Int32)]) (rest := []) (w' := (XC g q d14)) cx hw (c_X4_tell l g q N (-1000000001 : Int32) d x13 d14 g15) (cl_X4_45 cx.1.2.2.2.2 ⟨Nat.le_of_ble_eq_true rfl, Nat.le_of_ble_eq_true rfl⟩) (x_recv cx hw (ci := 4) rfl 0 rfl) (Ct.all (XC_ll ..)) hl.1 rfl rfl (Nat.le_of_ble_eq_true rfl) dX4_way_21 ⟨Nat.le_of_ble_eq_true rfl, Nat.le_of_ble_eq_true rfl⟩ (st1 := [.int x13]) rfl (fun H locs hw => ?_)
      exact r_i cx hr hlocks hw (pr1 h) (congrArg (fun z0 => (XC g q z0)) (pr2 h)) dX4_way_24
set_option maxHeartbeats 4000000 in
set_option maxRecDepth 100000 in
theorem c_X4_be (l : Launch) (g : gE) (q : Nat → Nat) (N : Nat) (p1 : Int32) (p2 : Int32) (p3 : Int32) (d : XD) (r : Int32) (d' : XD) (h : f_X4_be N  p1 p2 p3 d = some (r, d')) : MO l yX4_be (Cond.code yX4_be cX4_be 5 (some .int) :: TB) rm_X4_be [.ref (q 0), .int p1, .int p2, .int p3] g ((XC g q d)) ((XC g q d')) (some (.int r)) 0 0 := by
  refine MO.of (cc := cX4_be) (maxL := 5) (ret := (some .int)) (by decide) ?_
  intro p e s m below meth c cx hw hr hlocks _
  have hx := cx.1.1
  have hb := cx.1.2.1
  refine en_go (lv := [(0, .ref (q 0)), (1, .int p1), (2, .int p2), (3, .int p3)]) (Nat.le_of_ble_eq_true rfl) rfl (fun ls hl => ?_)
  unfold f_X4_be at h
  refine lv_aload_n hx hb dX4_be_0 rfl (lv_at hl 0 rfl) ?_
  refine lv_iload_n hx hb dX4_be_1 rfl (lv_at hl 1 rfl) ?_
  obtain ⟨x1, g2, h⟩ := bd_ex h
  refine c_V (As := [.int p1]) (rest := []) (w' := (XC g q d)) cx hw (c_X4_isOne l g q N p1 d x1 g2) (cl_X4_72 cx.1.2.2.2.2 ⟨Nat.le_of_ble_eq_true rfl, Nat.le_of_ble_eq_true rfl⟩) (x_recv cx hw (ci := 4) rfl 0 rfl) (Ct.all (XC_ll ..)) hl.1 rfl rfl (Nat.le_of_ble_eq_true rfl) dX4_be_2 ⟨Nat.le_of_ble_eq_true rfl, Nat.le_of_ble_eq_true rfl⟩ (st1 := [.int x1]) rfl (fun H locs hw => ?_)
  refine lv_if_eq (tgt := 27) hx hb dX4_be_5 (by decide) (fun c3 => ?_) (fun c3 => ?_)
  · replace h := ite_t c3 h
    refine lv_aload_n hx hb dX4_be_27 rfl (lv_at hl 0 rfl) ?_
    refine lv_ldc hx hb cx.1.2.2.2.1 (cx.1.2.2.2.2 _ tw_1_202) dX4_be_28 ?_
    obtain ⟨x4, d5, g6, h⟩ := bd2_ex h
    refine c_V (As := [.int (-1000000001 : Int32)]) (rest := []) (w' := (XC g q d5)) cx hw (c_X4_tell l g q N (-1000000001 : Int32) d x4 d5 g6) (cl_X4_45 cx.1.2.2.2.2 ⟨Nat.le_of_ble_eq_true rfl, Nat.le_of_ble_eq_true rfl⟩) (x_recv cx hw (ci := 4) rfl 0 rfl) (Ct.all (XC_ll ..)) hl.1 rfl rfl (Nat.le_of_ble_eq_true rfl) dX4_be_30 ⟨Nat.le_of_ble_eq_true rfl, Nat.le_of_ble_eq_true rfl⟩ (st1 := [.int x4]) rfl (fun H locs hw => ?_)
    exact r_i cx hr hlocks hw (pr1 h) (congrArg (fun z0 => (XC g q z0)) (pr2 h)) dX4_be_33
  · replace h := ite_f c3 h
    refine lv_iload_n hx hb dX4_be_8 rfl (lv_at hl 2 rfl) ?_
    refine lv_iconst (v := 0) hx hb dX4_be_9 (by decide) ?_
    refine lv_bipush (v := 8) hx hb dX4_be_10 (by decide) ?_
    obtain ⟨x7, g8, h⟩ := bd_ex h
    refine c_S (As := [.int p2, .int (0 : Int32), .int (8 : Int32)]) (rest := []) (w' := (XC g q d)) cx hw (c_X4_isWithin l g  N p2 (0 : Int32) (8 : Int32)  x7 g8) (cl_X4_40 cx.1.2.2.2.2 ⟨Nat.le_of_ble_eq_true rfl, Nat.le_of_ble_eq_true rfl⟩) Ct.nil hl.1 rfl rfl (Nat.le_of_ble_eq_true rfl) dX4_be_12 ⟨Nat.le_of_ble_eq_true rfl, Nat.le_of_ble_eq_true rfl⟩ (st1 := [.int x7]) rfl (fun H locs hw => ?_)
    refine lv_if_eq (tgt := 27) hx hb dX4_be_15 (by decide) (fun c9 => ?_) (fun c9 => ?_)
    · replace h := ite_t c9 h
      refine lv_aload_n hx hb dX4_be_27 rfl (lv_at hl 0 rfl) ?_
      refine lv_ldc hx hb cx.1.2.2.2.1 (cx.1.2.2.2.2 _ tw_1_202) dX4_be_28 ?_
      obtain ⟨x10, d11, g12, h⟩ := bd2_ex h
      refine c_V (As := [.int (-1000000001 : Int32)]) (rest := []) (w' := (XC g q d11)) cx hw (c_X4_tell l g q N (-1000000001 : Int32) d x10 d11 g12) (cl_X4_45 cx.1.2.2.2.2 ⟨Nat.le_of_ble_eq_true rfl, Nat.le_of_ble_eq_true rfl⟩) (x_recv cx hw (ci := 4) rfl 0 rfl) (Ct.all (XC_ll ..)) hl.1 rfl rfl (Nat.le_of_ble_eq_true rfl) dX4_be_30 ⟨Nat.le_of_ble_eq_true rfl, Nat.le_of_ble_eq_true rfl⟩ (st1 := [.int x10]) rfl (fun H locs hw => ?_)
      exact r_i cx hr hlocks hw (pr1 h) (congrArg (fun z0 => (XC g q z0)) (pr2 h)) dX4_be_33
    · replace h := ite_f c9 h
      refine lv_iload_n hx hb dX4_be_18 rfl (lv_at hl 3 rfl) ?_
      refine lv_iconst (v := 0) hx hb dX4_be_19 (by decide) ?_
      refine lv_iconst (v := 3) hx hb dX4_be_20 (by decide) ?_
      obtain ⟨x13, g14, h⟩ := bd_ex h
      refine c_S (As := [.int p3, .int (0 : Int32), .int (3 : Int32)]) (rest := []) (w' := (XC g q d)) cx hw (c_X4_isWithin l g  N p3 (0 : Int32) (3 : Int32)  x13 g14) (cl_X4_40 cx.1.2.2.2.2 ⟨Nat.le_of_ble_eq_true rfl, Nat.le_of_ble_eq_true rfl⟩) Ct.nil hl.1 rfl rfl (Nat.le_of_ble_eq_true rfl) dX4_be_21 ⟨Nat.le_of_ble_eq_true rfl, Nat.le_of_ble_eq_true rfl⟩ (st1 := [.int x13]) rfl (fun H locs hw => ?_)
      refine lv_if_ne (tgt := 34) hx hb dX4_be_24 (by decide) (fun c15 => ?_) (fun c15 => ?_)
      · replace h := ite_f c15 h
        refine lv_aload_n hx hb dX4_be_34 rfl (lv_at hl 0 rfl) ?_
        refine gf_X4_12 cx hw 0 rfl rfl dX4_be_35 ?_
        refine gf_X4_102 cx hw 1 rfl rfl dX4_be_38 ?_
        refine lv_iload_n hx hb dX4_be_41 rfl (lv_at hl 1 rfl) ?_
        refine lv_aload_n hx hb dX4_be_42 rfl (lv_at hl 0 rfl) ?_
        refine gf_X4_12 cx hw 0 rfl rfl dX4_be_43 ?_
        refine gf_X4_102 cx hw 1 rfl rfl dX4_be_46 ?_
        refine lv_iload_n hx hb dX4_be_49 rfl (lv_at hl 1 rfl) ?_
        have ix16 := rd_in h
        refine x_iald cx hw 11 rfl ix16 dX4_be_50 ?_
        refine lv_topi (fun x16 ex16 => ?_)
        replace h := rd_nx ex16 h
        refine lv_iload_n hx hb dX4_be_51 rfl (lv_at hl 2 rfl) ?_
        refine lv_iload_n hx hb dX4_be_52 rfl (lv_at hl 3 rfl) ?_
        obtain ⟨x17, g18, h⟩ := bd_ex h
        refine c_S (As := [.int x16, .int p2, .int p3]) (rest := [.int p1, .ref (qs 1 q 10)]) (w' := (XC g q d)) cx hw (c_X4_withWay l g  N x16 p2 p3  x17 g18) (cl_X4_108 cx.1.2.2.2.2 ⟨Nat.le_of_ble_eq_true rfl, Nat.le_of_ble_eq_true rfl⟩) Ct.nil hl.1 rfl rfl (Nat.le_of_ble_eq_true rfl) dX4_be_53 ⟨Nat.le_of_ble_eq_true rfl, Nat.le_of_ble_eq_true rfl⟩ (st1 := [.int x17, .int p1, .ref (qs 1 q 10)]) rfl (fun H locs hw => ?_)
        obtain ⟨x19, f20, g21, h⟩ := bd2_ex h
        refine c_S (As := [.ref (qs 1 q 10), .int p1, .int x17]) (rest := []) (w' := (XC g q (x_set_valley d (v_set_looks (x_valley d) f20)))) cx hw (c_X4_exchange l g (qs 1 q 10) 13 N p1 x17 (v_looks (x_valley d)) x19 f20 g21) (cl_X4_56 cx.1.2.2.2.2 ⟨Nat.le_of_ble_eq_true rfl, Nat.le_of_ble_eq_true rfl⟩) (ct_X__11__A_0 g q d f20) hl.1 rfl rfl (Nat.le_of_ble_eq_true rfl) dX4_be_56 ⟨Nat.le_of_ble_eq_true rfl, Nat.le_of_ble_eq_true rfl⟩ (st1 := [.int x19]) rfl (fun H locs hw => ?_)
        obtain ⟨d22, ed22, h⟩ := lt_ex h
        have hw : Wd g (va_A ((XC g q d)) s.heap.size) ((XC g q d22)) s H locs := by rw [ed22]; exact hw
        refine lv_istore (lv' := [(4, .int x19), (0, .ref (q 0)), (1, .int p1), (2, .int p2), (3, .int p3)]) hx hb dX4_be_59 hl (by decide) rfl (fun ls hl => ?_)
        refine lv_iload hx hb dX4_be_61 (lv_at hl 0 rfl) ?_
        refine lv_iload_n hx hb dX4_be_63 rfl (lv_at hl 3 rfl) ?_
        obtain ⟨x23, g24, h⟩ := bd_ex h
        refine c_S (As := [.int x19, .int p2]) (rest := []) (w' := (XC g q d22)) cx hw (c_X4_wayIn l g  N x19 p2  x23 g24) (cl_X4_105 cx.1.2.2.2.2 ⟨Nat.le_of_ble_eq_true rfl, Nat.le_of_ble_eq_true rfl⟩) Ct.nil hl.1 rfl rfl (Nat.le_of_ble_eq_true rfl) dX4_be_64 ⟨Nat.le_of_ble_eq_true rfl, Nat.le_of_ble_eq_true rfl⟩ (st1 := [.int x23]) rfl (fun H locs hw => ?_)
        exact r_i cx hr hlocks hw (pr1 h) (congrArg (fun z0 => (XC g q z0)) (pr2 h)) dX4_be_67
      · replace h := ite_t c15 h
        refine lv_aload_n hx hb dX4_be_27 rfl (lv_at hl 0 rfl) ?_
        refine lv_ldc hx hb cx.1.2.2.2.1 (cx.1.2.2.2.2 _ tw_1_202) dX4_be_28 ?_
        obtain ⟨x25, d26, g27, h⟩ := bd2_ex h
        refine c_V (As := [.int (-1000000001 : Int32)]) (rest := []) (w' := (XC g q d26)) cx hw (c_X4_tell l g q N (-1000000001 : Int32) d x25 d26 g27) (cl_X4_45 cx.1.2.2.2.2 ⟨Nat.le_of_ble_eq_true rfl, Nat.le_of_ble_eq_true rfl⟩) (x_recv cx hw (ci := 4) rfl 0 rfl) (Ct.all (XC_ll ..)) hl.1 rfl rfl (Nat.le_of_ble_eq_true rfl) dX4_be_30 ⟨Nat.le_of_ble_eq_true rfl, Nat.le_of_ble_eq_true rfl⟩ (st1 := [.int x25]) rfl (fun H locs hw => ?_)
        exact r_i cx hr hlocks hw (pr1 h) (congrArg (fun z0 => (XC g q z0)) (pr2 h)) dX4_be_33
