def f_X4_on (N : Nat)  (p1 : Int32) (p2 : Int32) (d : XD) : Option (Int32 × XD) :=
  (f_X4_isOne N p1 d).bind fun x1 =>
  if x1 = 0 then
    bd2 (f_X4_tell N (-1000000001 : Int32) d) fun x4 d5 =>
    some (x4, d5)
  else
    (f_X4_isWithin N p2 (0 : Int32) (100 : Int32)).bind fun x7 =>
    if x7 = 0 then
      bd2 (f_X4_tell N (-1000000001 : Int32) d) fun x24 d25 =>
      some (x24, d25)
    else
      (f_X4_isTooLate N p2 d).bind fun x10 =>
      if x10 = 0 then
        (f_X3_takeFrom N (x_trial d) (x_valley d)).bind fun d13 =>
        lt (x_set_trial d d13) fun d15 =>
        bd2 (f_X3_goYears N p2 (x_trial d15)) fun x16 d17 =>
        lt (x_set_trial d15 d17) fun d19 =>
        (rd (v_goods (x_trial d19)) 12 p1).bind fun x20 =>
        some (x20, d19)
      else
        bd2 (f_X4_tell N (-1000000005 : Int32) d) fun x21 d22 =>
        some (x21, d22)
def f_X4_living (N : Nat)  (p1 : Int32) (d : XD) : Option (Int32 × XD) :=
  (f_X4_isWithin N p1 (0 : Int32) (100 : Int32)).bind fun x1 =>
  if x1 = 0 then
    bd2 (f_X4_tell N (-1000000001 : Int32) d) fun x17 d18 =>
    some (x17, d18)
  else
    (f_X4_isTooLate N p1 d).bind fun x4 =>
    if x4 = 0 then
      (f_X3_takeFrom N (x_trial d) (x_valley d)).bind fun d7 =>
      lt (x_set_trial d d7) fun d9 =>
      bd2 (f_X3_goYears N p1 (x_trial d9)) fun x10 d11 =>
      lt (x_set_trial d9 d11) fun d13 =>
      some ((v_living (x_trial d13)), d13)
    else
      bd2 (f_X4_tell N (-1000000005 : Int32) d) fun x14 d15 =>
      some (x14, d15)
def f_X4_rich (N : Nat)  (p1 : Int32) (d : XD) : Option (Int32 × XD) :=
  (f_X4_isWithin N p1 (0 : Int32) (100 : Int32)).bind fun x1 =>
  if x1 = 0 then
    bd2 (f_X4_tell N (-1000000001 : Int32) d) fun x23 d24 =>
    some (x23, d24)
  else
    (f_X4_isTooLate N p1 d).bind fun x4 =>
    if x4 = 0 then
      (f_X3_takeFrom N (x_trial d) (x_valley d)).bind fun d7 =>
      lt (x_set_trial d d7) fun d9 =>
      bd2 (f_X3_goYears N p1 (x_trial d9)) fun x10 d11 =>
      lt (x_set_trial d9 d11) fun d13 =>
      (f_X3_richestBut N (-1 : Int32) (x_trial d13)).bind fun x14 =>
      if x14 = (-1 : Int32) then
        bd2 (f_X4_tell N (-1000000004 : Int32) d13) fun x17 d18 =>
        some (x17, d18)
      else
        some (x14, d13)
    else
      bd2 (f_X4_tell N (-1000000005 : Int32) d) fun x20 d21 =>
      some (x20, d21)
def f_X4_when (N : Nat)  (p1 : Int32) (d : XD) : Option (Int32 × XD) :=
  (f_X4_isOne N p1 d).bind fun x1 =>
  if x1 = 0 then
    bd2 (f_X4_tell N (-1000000001 : Int32) d) fun x27 d28 =>
    some (x27, d28)
  else
    (f_X4_isTooLate N (100 : Int32) d).bind fun x4 =>
    if x4 = 0 then
      (f_X3_lives N p1 (x_valley d)).bind fun x7 =>
      if x7 = 0 then
        some ((0 : Int32), d)
      else
        (f_X3_takeFrom N (x_trial d) (x_valley d)).bind fun d10 =>
        lt (x_set_trial d d10) fun d12 =>
        bd2 (f_X3_goYears N (100 : Int32) (x_trial d12)) fun x13 d14 =>
        lt (x_set_trial d12 d14) fun d16 =>
        (f_X3_lives N p1 (x_trial d16)).bind fun x17 =>
        if x17 = 0 then
          (rd (v_deathYears (x_trial d16)) 12 p1).bind fun x20 =>
          some ((x20 - (v_year (x_valley d16))), d16)
        else
          bd2 (f_X4_tell N (-1000000004 : Int32) d16) fun x21 d22 =>
          some (x21, d22)
    else
      bd2 (f_X4_tell N (-1000000005 : Int32) d) fun x24 d25 =>
      some (x24, d25)
def f_X4_gets (N : Nat)  (p1 : Int32) (d : XD) : Option (Int32 × XD) :=
  (f_X4_isOne N p1 d).bind fun x1 =>
  if x1 = 0 then
    bd2 (f_X4_tell N (-1000000001 : Int32) d) fun x30 d31 =>
    some (x30, d31)
  else
    (f_X3_lives N p1 (x_valley d)).bind fun x4 =>
    if x4 = 0 then
      bd2 (f_X4_tell N (-1000000005 : Int32) d) fun x7 d8 =>
      some (x7, d8)
    else
      (f_X4_isTooLate N (100 : Int32) d).bind fun x10 =>
      if x10 = 0 then
        (f_X3_takeFrom N (x_trial d) (x_valley d)).bind fun d13 =>
        lt (x_set_trial d d13) fun d15 =>
        bd2 (f_X3_goYears N (100 : Int32) (x_trial d15)) fun x16 d17 =>
        lt (x_set_trial d15 d17) fun d19 =>
        (f_X3_lives N p1 (x_trial d19)).bind fun x20 =>
        if x20 = 0 then
          (rd (v_gotBy (x_trial d19)) 12 p1).bind fun x23 =>
          some (x23, d19)
        else
          bd2 (f_X4_tell N (-1000000004 : Int32) d19) fun x24 d25 =>
          some (x24, d25)
      else
        bd2 (f_X4_tell N (-1000000005 : Int32) d) fun x27 d28 =>
        some (x27, d28)
def f_X4_leastStep_L24 (N : Nat)  (K14 : Int32 → Int32 → Int32 → Int32 → XD → Option (Int32 × XD)) : Nat → Int32 → Int32 → Int32 → Int32 → Int32 → XD → Option (Int32 × XD)
  | 0, _, _, _, _, _, _ => none
  | n24 + 1, a1, a2, a3, a4, a5, d_ =>
  if (4 : Int32) ≤ a5 then
    lt (a4 + 1) fun x6 =>
    K14 a1 a2 a3 x6 d_
  else
    (rd (v_looks (x_valley d_)) 13 a1).bind fun x7 =>
    (f_X4_withWay N x7 a4 a5).bind fun x8 =>
    (ck a1 13).bind fun _ =>
    lt (x_set_trial d_ (v_set_looks (x_trial d_) (upd (v_looks (x_trial d_)) (a1).toNatClampNeg x8))) fun d11 =>
    (f_X3_heirFor N a2 (x_trial d11)).bind fun x12 =>
    if x12 = a3 then
      some ((((10 : Int32) * a4) + a5), d11)
    else
      lt (a5 + 1) fun x15 =>
      f_X4_leastStep_L24 N  K14 n24 a1 a2 a3 a4 x15 d11
def f_X4_leastStep_L14 (N : Nat)   : Nat → Int32 → Int32 → Int32 → Int32 → XD → Option (Int32 × XD)
  | 0, _, _, _, _, _ => none
  | n14 + 1, a1, a2, a3, a4, d_ =>
  if (9 : Int32) ≤ a4 then
    some ((-1 : Int32), d_)
  else
    f_X4_leastStep_L24 N  (f_X4_leastStep_L14 N   n14) N a1 a2 a3 a4 (0 : Int32) d_
def f_X4_leastStep (N : Nat)  (p1 : Int32) (p2 : Int32) (p3 : Int32) (d : XD) : Option (Int32 × XD) :=
  (f_X3_takeFrom N (x_trial d) (x_valley d)).bind fun d1 =>
  lt (x_set_trial d d1) fun d3 =>
  f_X4_leastStep_L14 N   N p1 p2 p3 (0 : Int32) d3
def f_X4_change (N : Nat)  (p1 : Int32) (p2 : Int32) (d : XD) : Option (Int32 × XD) :=
  (f_X4_areTwo N p1 p2 d).bind fun x1 =>
  if x1 = 0 then
    bd2 (f_X4_tell N (-1000000001 : Int32) d) fun x23 d24 =>
    some (x23, d24)
  else
    (f_X3_lives N p1 (x_valley d)).bind fun x4 =>
    if x4 = 0 then
      bd2 (f_X4_tell N (-1000000005 : Int32) d) fun x7 d8 =>
      some (x7, d8)
    else
      (f_X3_heirFor N p2 (x_valley d)).bind fun x10 =>
      if x10 = p1 then
        bd2 (f_X4_tell N (-1000000005 : Int32) d) fun x20 d21 =>
        some (x20, d21)
      else
        bd2 (f_X4_leastStep N p1 p2 p1 d) fun x13 d14 =>
        if x13 = (-1 : Int32) then
          bd2 (f_X4_tell N (-1000000004 : Int32) d14) fun x17 d18 =>
          some (x17, d18)
        else
          some (x13, d14)
def f_X4_fewest_L51 (N : Nat)   : Nat → Int32 → Int32 → Int32 → Int32 → XD → Option (Int32 × XD)
  | 0, _, _, _, _, _ => none
  | n51 + 1, a1, a2, a3, a4, d_ =>
  if (511 : Int32) < a4 then
    if a3 ≤ (9 : Int32) then
      some (a3, d_)
    else
      bd2 (f_X4_tell N (-1000000004 : Int32) d_) fun x18 d19 =>
      some (x18, d19)
  else
    (rd (v_looks (x_valley d_)) 13 a1).bind fun x21 =>
    (rd (v_looks (x_valley d_)) 13 a2).bind fun x22 =>
    (f_X4_copied N x21 x22 a4).bind fun x23 =>
    (ck a1 13).bind fun _ =>
    lt (x_set_trial d_ (v_set_looks (x_trial d_) (upd (v_looks (x_trial d_)) (a1).toNatClampNeg x23))) fun d26 =>
    (f_X3_heirFor N a2 (x_trial d26)).bind fun x27 =>
    if x27 = a1 then
      (f_J6_bitCount_0f7a4 N a4).bind fun x31 =>
      lt (if x31 < a3 then x31 else a3) fun x33 =>
      lt (a4 + 1) fun x34 =>
      f_X4_fewest_L51 N   n51 a1 a2 x33 x34 d26
    else
      lt (a4 + 1) fun x30 =>
      f_X4_fewest_L51 N   n51 a1 a2 a3 x30 d26
def f_X4_fewest (N : Nat)  (p1 : Int32) (p2 : Int32) (d : XD) : Option (Int32 × XD) :=
  (f_X4_areTwo N p1 p2 d).bind fun x1 =>
  if x1 = 0 then
    bd2 (f_X4_tell N (-1000000001 : Int32) d) fun x13 d14 =>
    some (x13, d14)
  else
    (f_X3_lives N p1 (x_valley d)).bind fun x4 =>
    if x4 = 0 then
      bd2 (f_X4_tell N (-1000000005 : Int32) d) fun x10 d11 =>
      some (x10, d11)
    else
      (f_X3_takeFrom N (x_trial d) (x_valley d)).bind fun d7 =>
      lt (x_set_trial d d7) fun d9 =>
      f_X4_fewest_L51 N   N p1 p2 (10 : Int32) (0 : Int32) d9
def f_X4_worth (N : Nat)  (p1 : Int32) (p2 : Int32) (d : XD) : Option (Int32 × XD) :=
  (f_X4_isOne N p1 d).bind fun x1 =>
  if x1 = 0 then
    bd2 (f_X4_tell N (-1000000001 : Int32) d) fun x4 d5 =>
    some (x4, d5)
  else
    (f_X4_isWithin N p2 (0 : Int32) (8 : Int32)).bind fun x7 =>
    if x7 = 0 then
      bd2 (f_X4_tell N (-1000000001 : Int32) d) fun x26 d27 =>
      some (x26, d27)
    else
      (rd (v_looks (x_valley d)) 13 p1).bind fun x10 =>
      (f_X3_takeFrom N (x_trial d) (x_valley d)).bind fun d11 =>
      lt (x_set_trial d d11) fun d13 =>
      (f_X4_wayIn N x10 p2).bind fun x14 =>
      (f_X4_nextWay N x14).bind fun x16 =>
      (f_X4_withWay N x10 p2 x16).bind fun x18 =>
      (ck p1 13).bind fun _ =>
      lt (x_set_trial d13 (v_set_looks (x_trial d13) (upd (v_looks (x_trial d13)) (p1).toNatClampNeg x18))) fun d21 =>
      (f_X3_expectedBy N p1 (x_valley d21)).bind fun x22 =>
      (f_X3_expectedBy N p1 (x_trial d21)).bind fun x24 =>
      some ((x22 - x24), d21)
def f_X4_best_L61 (N : Nat)  (K51 : Int32 → Int32 → Int32 → Int32 → XD → Option (Int32 × XD)) : Nat → Int32 → Int32 → Int32 → Int32 → Int32 → XD → Option (Int32 × XD)
  | 0, _, _, _, _, _, _ => none
  | n61 + 1, a1, a2, a3, a4, a5, d_ =>
  if (4 : Int32) ≤ a5 then
    lt (a4 + 1) fun x18 =>
    K51 a1 a2 a3 x18 d_
  else
    (rd (v_looks (x_valley d_)) 13 a1).bind fun x19 =>
    (f_X4_withWay N x19 a4 a5).bind fun x20 =>
    (ck a1 13).bind fun _ =>
    lt (x_set_trial d_ (v_set_looks (x_trial d_) (upd (v_looks (x_trial d_)) (a1).toNatClampNeg x20))) fun d23 =>
    (f_X3_expectedBy N a1 (x_trial d23)).bind fun x24 =>
    if x24 ≤ a3 then
      lt (a5 + 1) fun x27 =>
      f_X4_best_L61 N  K51 n61 a1 a2 a3 a4 x27 d23
    else
      lt (((10 : Int32) * a4) + a5) fun x28 =>
      lt (a5 + 1) fun x29 =>
      f_X4_best_L61 N  K51 n61 a1 x28 x24 a4 x29 d23
def f_X4_best_L51 (N : Nat)   : Nat → Int32 → Int32 → Int32 → Int32 → XD → Option (Int32 × XD)
  | 0, _, _, _, _, _ => none
  | n51 + 1, a1, a2, a3, a4, d_ =>
  if (9 : Int32) ≤ a4 then
    some (a2, d_)
  else
    f_X4_best_L61 N  (f_X4_best_L51 N   n51) N a1 a2 a3 a4 (0 : Int32) d_
def f_X4_best (N : Nat)  (p1 : Int32) (d : XD) : Option (Int32 × XD) :=
  (f_X4_isOne N p1 d).bind fun x1 =>
  if x1 = 0 then
    bd2 (f_X4_tell N (-1000000001 : Int32) d) fun x13 d14 =>
    some (x13, d14)
  else
    (f_X3_lives N p1 (x_valley d)).bind fun x4 =>
    if x4 = 0 then
      bd2 (f_X4_tell N (-1000000005 : Int32) d) fun x10 d11 =>
      some (x10, d11)
    else
      (f_X3_takeFrom N (x_trial d) (x_valley d)).bind fun d7 =>
      lt (x_set_trial d d7) fun d9 =>
      f_X4_best_L51 N   N p1 (0 : Int32) (-1 : Int32) (0 : Int32) d9
def f_X4_steer (N : Nat)  (p1 : Int32) (p2 : Int32) (d : XD) : Option (Int32 × XD) :=
  (f_X4_areTwo N p1 p2 d).bind fun x1 =>
  if x1 = 0 then
    bd2 (f_X4_tell N (-1000000001 : Int32) d) fun x23 d24 =>
    some (x23, d24)
  else
    (f_X3_lives N p2 (x_valley d)).bind fun x4 =>
    if x4 = 0 then
      bd2 (f_X4_tell N (-1000000005 : Int32) d) fun x7 d8 =>
      some (x7, d8)
    else
      (f_X3_heirFor N p1 (x_valley d)).bind fun x10 =>
      if x10 = p2 then
        bd2 (f_X4_tell N (-1000000005 : Int32) d) fun x20 d21 =>
        some (x20, d21)
      else
        bd2 (f_X4_leastStep N p1 p1 p2 d) fun x13 d14 =>
        if x13 = (-1 : Int32) then
          bd2 (f_X4_tell N (-1000000004 : Int32) d14) fun x17 d18 =>
          some (x17, d18)
        else
          some (x13, d14)
theorem ct_X__27_28_29_30_31_32_33_34_35_36_37_38_39_1_2_3_4_5_6_7_8_9_10_11_12_13__V_V_0 (g : gE) (q : Nat → Nat) (d : XD) (u0 : VD) : Ct ((XC g q d)) ((VC g (qs 27 q) (x_trial d)) ++ (VC g (qs 1 q) (x_valley d))) ((XC g q (x_set_trial d u0))) ((VC g (qs 27 q) u0) ++ (VC g (qs 1 q) (x_valley d))) := (Ct.swap (Ct.skip _ (Ct.app (Ct.all (VC_ll ..)) (Ct.skip _ (Ct.inl _ (Ct.all (VC_ll ..)) (VC_ll ..))) (VC_ll ..))) (VC_ll ..))
theorem ct_X__27_28_29_30_31_32_33_34_35_36_37_38_39__V_0 (g : gE) (q : Nat → Nat) (d : XD) (u0 : VD) : Ct ((XC g q d)) ((VC g (qs 27 q) (x_trial d))) ((XC g q (x_set_trial d u0))) ((VC g (qs 27 q) u0)) := (Ct.skip _ (Ct.skip _ (Ct.skip _ (Ct.inl _ (Ct.all (VC_ll ..)) (VC_ll ..)))))
theorem ct_X__27_28_29_30_31_32_33_34_35_36_37_38_39__V (g : gE) (q : Nat → Nat) (d : XD)  : Ct ((XC g q d)) ((VC g (qs 27 q) (x_trial d))) ((XC g q d)) ((VC g (qs 27 q) (x_trial d))) := (Ct.skip _ (Ct.skip _ (Ct.skip _ (Ct.inl _ (Ct.all (VC_ll ..)) (VC_ll ..)))))
set_option maxHeartbeats 4000000 in
set_option maxRecDepth 100000 in
theorem c_X4_on (l : Launch) (g : gE) (q : Nat → Nat) (N : Nat) (p1 : Int32) (p2 : Int32) (d : XD) (r : Int32) (d' : XD) (h : f_X4_on N  p1 p2 d = some (r, d')) : MO l yX4_on (Cond.code yX4_on cX4_on 3 (some .int) :: TB) rm_X4_on [.ref (q 0), .int p1, .int p2] g ((XC g q d)) ((XC g q d')) (some (.int r)) 0 0 := by
  refine MO.of (cc := cX4_on) (maxL := 3) (ret := (some .int)) (by decide) ?_
  intro p e s m below meth c cx hw hr hlocks _
  have hx := cx.1.1
  have hb := cx.1.2.1
  refine en_go (lv := [(0, .ref (q 0)), (1, .int p1), (2, .int p2)]) (Nat.le_of_ble_eq_true rfl) rfl (fun ls hl => ?_)
  unfold f_X4_on at h
  refine lv_aload_n hx hb dX4_on_0 rfl (lv_at hl 0 rfl) ?_
  refine lv_iload_n hx hb dX4_on_1 rfl (lv_at hl 1 rfl) ?_
  obtain ⟨x1, g2, h⟩ := bd_ex h
  refine c_V (As := [.int p1]) (rest := []) (w' := (XC g q d)) cx hw (c_X4_isOne l g q N p1 d x1 g2) (cl_X4_72 cx.1.2.2.2.2 ⟨Nat.le_of_ble_eq_true rfl, Nat.le_of_ble_eq_true rfl⟩) (x_recv cx hw (ci := 4) rfl 0 rfl) (Ct.all (XC_ll ..)) hl.1 rfl rfl (Nat.le_of_ble_eq_true rfl) dX4_on_2 ⟨Nat.le_of_ble_eq_true rfl, Nat.le_of_ble_eq_true rfl⟩ (st1 := [.int x1]) rfl (fun H locs hw => ?_)
  refine lv_if_eq (tgt := 18) hx hb dX4_on_5 (by decide) (fun c3 => ?_) (fun c3 => ?_)
  · replace h := ite_t c3 h
    refine lv_aload_n hx hb dX4_on_18 rfl (lv_at hl 0 rfl) ?_
    refine lv_ldc hx hb cx.1.2.2.2.1 (cx.1.2.2.2.2 _ tw_1_202) dX4_on_19 ?_
    obtain ⟨x4, d5, g6, h⟩ := bd2_ex h
    refine c_V (As := [.int (-1000000001 : Int32)]) (rest := []) (w' := (XC g q d5)) cx hw (c_X4_tell l g q N (-1000000001 : Int32) d x4 d5 g6) (cl_X4_45 cx.1.2.2.2.2 ⟨Nat.le_of_ble_eq_true rfl, Nat.le_of_ble_eq_true rfl⟩) (x_recv cx hw (ci := 4) rfl 0 rfl) (Ct.all (XC_ll ..)) hl.1 rfl rfl (Nat.le_of_ble_eq_true rfl) dX4_on_21 ⟨Nat.le_of_ble_eq_true rfl, Nat.le_of_ble_eq_true rfl⟩ (st1 := [.int x4]) rfl (fun H locs hw => ?_)
    exact r_i cx hr hlocks hw (pr1 h) (congrArg (fun z0 => (XC g q z0)) (pr2 h)) dX4_on_24
  · replace h := ite_f c3 h
    refine lv_iload_n hx hb dX4_on_8 rfl (lv_at hl 2 rfl) ?_
    refine lv_iconst (v := 0) hx hb dX4_on_9 (by decide) ?_
    refine lv_bipush (v := 100) hx hb dX4_on_10 (by decide) ?_
    obtain ⟨x7, g8, h⟩ := bd_ex h
    refine c_S (As := [.int p2, .int (0 : Int32), .int (100 : Int32)]) (rest := []) (w' := (XC g q d)) cx hw (c_X4_isWithin l g  N p2 (0 : Int32) (100 : Int32)  x7 g8) (cl_X4_40 cx.1.2.2.2.2 ⟨Nat.le_of_ble_eq_true rfl, Nat.le_of_ble_eq_true rfl⟩) Ct.nil hl.1 rfl rfl (Nat.le_of_ble_eq_true rfl) dX4_on_12 ⟨Nat.le_of_ble_eq_true rfl, Nat.le_of_ble_eq_true rfl⟩ (st1 := [.int x7]) rfl (fun H locs hw => ?_)
    refine lv_if_ne (tgt := 25) hx hb dX4_on_15 (by decide) (fun c9 => ?_) (fun c9 => ?_)
    · replace h := ite_f c9 h
      refine lv_aload_n hx hb dX4_on_25 rfl (lv_at hl 0 rfl) ?_
      refine lv_iload_n hx hb dX4_on_26 rfl (lv_at hl 2 rfl) ?_
      obtain ⟨x10, g11, h⟩ := bd_ex h
      refine c_V (As := [.int p2]) (rest := []) (w' := (XC g q d)) cx hw (c_X4_isTooLate l g q N p2 d x10 g11) (cl_X4_144 cx.1.2.2.2.2 ⟨Nat.le_of_ble_eq_true rfl, Nat.le_of_ble_eq_true rfl⟩) (x_recv cx hw (ci := 4) rfl 0 rfl) (Ct.all (XC_ll ..)) hl.1 rfl rfl (Nat.le_of_ble_eq_true rfl) dX4_on_27 ⟨Nat.le_of_ble_eq_true rfl, Nat.le_of_ble_eq_true rfl⟩ (st1 := [.int x10]) rfl (fun H locs hw => ?_)
      refine lv_if_eq (tgt := 40) hx hb dX4_on_30 (by decide) (fun c12 => ?_) (fun c12 => ?_)
      · replace h := ite_t c12 h
        refine lv_aload_n hx hb dX4_on_40 rfl (lv_at hl 0 rfl) ?_
        refine gf_X4_19 cx hw 0 rfl rfl dX4_on_41 ?_
        refine lv_aload_n hx hb dX4_on_44 rfl (lv_at hl 0 rfl) ?_
        refine gf_X4_12 cx hw 0 rfl rfl dX4_on_45 ?_
        obtain ⟨d13, g14, h⟩ := bd_ex h
        refine c_V (As := [.ref (qs 1 q 0)]) (rest := []) (w' := (XC g q (x_set_trial d d13))) cx hw (c_X3_takeFrom l g (qs 27 q) (qs 1 q) N  (x_trial d) (x_valley d) d13 g14) (cl_X4_164 cx.1.2.2.2.2 ⟨Nat.le_of_ble_eq_true rfl, Nat.le_of_ble_eq_true rfl⟩) (x_recv cx hw (ci := 3) rfl 27 rfl) (ct_X__27_28_29_30_31_32_33_34_35_36_37_38_39_1_2_3_4_5_6_7_8_9_10_11_12_13__V_V_0 g q d d13) hl.1 rfl rfl (Nat.le_of_ble_eq_true rfl) dX4_on_48 ⟨Nat.le_of_ble_eq_true rfl, Nat.le_of_ble_eq_true rfl⟩ (st1 := []) rfl (fun H locs hw => ?_)
        obtain ⟨d15, ed15, h⟩ := lt_ex h
        have hw : Wd g (va_A ((XC g q d)) s.heap.size) ((XC g q d15)) s H locs := by rw [ed15]; exact hw
        refine lv_aload_n hx hb dX4_on_51 rfl (lv_at hl 0 rfl) ?_
        refine gf_X4_19 cx hw 0 rfl rfl dX4_on_52 ?_
        refine lv_iload_n hx hb dX4_on_55 rfl (lv_at hl 2 rfl) ?_
        obtain ⟨x16, d17, g18, h⟩ := bd2_ex h
        refine c_V (As := [.int p2]) (rest := []) (w' := (XC g q (x_set_trial d15 d17))) cx hw (c_X3_goYears l g (qs 27 q) N p2 (x_trial d15) x16 d17 g18) (cl_X4_148 cx.1.2.2.2.2 ⟨Nat.le_of_ble_eq_true rfl, Nat.le_of_ble_eq_true rfl⟩) (x_recv cx hw (ci := 3) rfl 27 rfl) (ct_X__27_28_29_30_31_32_33_34_35_36_37_38_39__V_0 g q d15 d17) hl.1 rfl rfl (Nat.le_of_ble_eq_true rfl) dX4_on_56 ⟨Nat.le_of_ble_eq_true rfl, Nat.le_of_ble_eq_true rfl⟩ (st1 := [.int x16]) rfl (fun H locs hw => ?_)
        obtain ⟨d19, ed19, h⟩ := lt_ex h
        have hw : Wd g (va_A ((XC g q d)) s.heap.size) ((XC g q d19)) s H locs := by rw [ed19]; exact hw
        refine lv_pop hx hb dX4_on_59 rfl ?_
        refine lv_aload_n hx hb dX4_on_60 rfl (lv_at hl 0 rfl) ?_
        refine gf_X4_19 cx hw 0 rfl rfl dX4_on_61 ?_
        refine gf_X4_81 cx hw 27 rfl rfl dX4_on_64 ?_
        refine lv_iload_n hx hb dX4_on_67 rfl (lv_at hl 1 rfl) ?_
        have ix20 := rd_in h
        refine x_iald cx hw 34 rfl ix20 dX4_on_68 ?_
        refine lv_topi (fun x20 ex20 => ?_)
        replace h := rd_nx ex20 h
        exact r_i cx hr hlocks hw (pr1 h) (congrArg (fun z0 => (XC g q z0)) (pr2 h)) dX4_on_69
      · replace h := ite_f c12 h
        refine lv_aload_n hx hb dX4_on_33 rfl (lv_at hl 0 rfl) ?_
        refine lv_ldc hx hb cx.1.2.2.2.1 (cx.1.2.2.2.2 _ tw_2_130) dX4_on_34 ?_
        obtain ⟨x21, d22, g23, h⟩ := bd2_ex h
        refine c_V (As := [.int (-1000000005 : Int32)]) (rest := []) (w' := (XC g q d22)) cx hw (c_X4_tell l g q N (-1000000005 : Int32) d x21 d22 g23) (cl_X4_45 cx.1.2.2.2.2 ⟨Nat.le_of_ble_eq_true rfl, Nat.le_of_ble_eq_true rfl⟩) (x_recv cx hw (ci := 4) rfl 0 rfl) (Ct.all (XC_ll ..)) hl.1 rfl rfl (Nat.le_of_ble_eq_true rfl) dX4_on_36 ⟨Nat.le_of_ble_eq_true rfl, Nat.le_of_ble_eq_true rfl⟩ (st1 := [.int x21]) rfl (fun H locs hw => ?_)
        exact r_i cx hr hlocks hw (pr1 h) (congrArg (fun z0 => (XC g q z0)) (pr2 h)) dX4_on_39
    · replace h := ite_t c9 h
      refine lv_aload_n hx hb dX4_on_18 rfl (lv_at hl 0 rfl) ?_
      refine lv_ldc hx hb cx.1.2.2.2.1 (cx.1.2.2.2.2 _ tw_1_202) dX4_on_19 ?_
      obtain ⟨x24, d25, g26, h⟩ := bd2_ex h
      refine c_V (As := [.int (-1000000001 : Int32)]) (rest := []) (w' := (XC g q d25)) cx hw (c_X4_tell l g q N (-1000000001 : Int32) d x24 d25 g26) (cl_X4_45 cx.1.2.2.2.2 ⟨Nat.le_of_ble_eq_true rfl, Nat.le_of_ble_eq_true rfl⟩) (x_recv cx hw (ci := 4) rfl 0 rfl) (Ct.all (XC_ll ..)) hl.1 rfl rfl (Nat.le_of_ble_eq_true rfl) dX4_on_21 ⟨Nat.le_of_ble_eq_true rfl, Nat.le_of_ble_eq_true rfl⟩ (st1 := [.int x24]) rfl (fun H locs hw => ?_)
      exact r_i cx hr hlocks hw (pr1 h) (congrArg (fun z0 => (XC g q z0)) (pr2 h)) dX4_on_24
set_option maxHeartbeats 4000000 in
set_option maxRecDepth 100000 in
theorem c_X4_living (l : Launch) (g : gE) (q : Nat → Nat) (N : Nat) (p1 : Int32) (d : XD) (r : Int32) (d' : XD) (h : f_X4_living N  p1 d = some (r, d')) : MO l yX4_living (Cond.code yX4_living cX4_living 2 (some .int) :: TB) rm_X4_living [.ref (q 0), .int p1] g ((XC g q d)) ((XC g q d')) (some (.int r)) 0 0 := by
  refine MO.of (cc := cX4_living) (maxL := 2) (ret := (some .int)) (by decide) ?_
  intro p e s m below meth c cx hw hr hlocks _
  have hx := cx.1.1
  have hb := cx.1.2.1
  refine en_go (lv := [(0, .ref (q 0)), (1, .int p1)]) (Nat.le_of_ble_eq_true rfl) rfl (fun ls hl => ?_)
  unfold f_X4_living at h
  refine lv_iload_n hx hb dX4_living_0 rfl (lv_at hl 1 rfl) ?_
  refine lv_iconst (v := 0) hx hb dX4_living_1 (by decide) ?_
  refine lv_bipush (v := 100) hx hb dX4_living_2 (by decide) ?_
  obtain ⟨x1, g2, h⟩ := bd_ex h
  refine c_S (As := [.int p1, .int (0 : Int32), .int (100 : Int32)]) (rest := []) (w' := (XC g q d)) cx hw (c_X4_isWithin l g  N p1 (0 : Int32) (100 : Int32)  x1 g2) (cl_X4_40 cx.1.2.2.2.2 ⟨Nat.le_of_ble_eq_true rfl, Nat.le_of_ble_eq_true rfl⟩) Ct.nil hl.1 rfl rfl (Nat.le_of_ble_eq_true rfl) dX4_living_4 ⟨Nat.le_of_ble_eq_true rfl, Nat.le_of_ble_eq_true rfl⟩ (st1 := [.int x1]) rfl (fun H locs hw => ?_)
  refine lv_if_ne (tgt := 17) hx hb dX4_living_7 (by decide) (fun c3 => ?_) (fun c3 => ?_)
  · replace h := ite_f c3 h
    refine lv_aload_n hx hb dX4_living_17 rfl (lv_at hl 0 rfl) ?_
    refine lv_iload_n hx hb dX4_living_18 rfl (lv_at hl 1 rfl) ?_
    obtain ⟨x4, g5, h⟩ := bd_ex h
    refine c_V (As := [.int p1]) (rest := []) (w' := (XC g q d)) cx hw (c_X4_isTooLate l g q N p1 d x4 g5) (cl_X4_144 cx.1.2.2.2.2 ⟨Nat.le_of_ble_eq_true rfl, Nat.le_of_ble_eq_true rfl⟩) (x_recv cx hw (ci := 4) rfl 0 rfl) (Ct.all (XC_ll ..)) hl.1 rfl rfl (Nat.le_of_ble_eq_true rfl) dX4_living_19 ⟨Nat.le_of_ble_eq_true rfl, Nat.le_of_ble_eq_true rfl⟩ (st1 := [.int x4]) rfl (fun H locs hw => ?_)
    refine lv_if_eq (tgt := 32) hx hb dX4_living_22 (by decide) (fun c6 => ?_) (fun c6 => ?_)
    · replace h := ite_t c6 h
      refine lv_aload_n hx hb dX4_living_32 rfl (lv_at hl 0 rfl) ?_
      refine gf_X4_19 cx hw 0 rfl rfl dX4_living_33 ?_
      refine lv_aload_n hx hb dX4_living_36 rfl (lv_at hl 0 rfl) ?_
      refine gf_X4_12 cx hw 0 rfl rfl dX4_living_37 ?_
      obtain ⟨d7, g8, h⟩ := bd_ex h
      refine c_V (As := [.ref (qs 1 q 0)]) (rest := []) (w' := (XC g q (x_set_trial d d7))) cx hw (c_X3_takeFrom l g (qs 27 q) (qs 1 q) N  (x_trial d) (x_valley d) d7 g8) (cl_X4_164 cx.1.2.2.2.2 ⟨Nat.le_of_ble_eq_true rfl, Nat.le_of_ble_eq_true rfl⟩) (x_recv cx hw (ci := 3) rfl 27 rfl) (ct_X__27_28_29_30_31_32_33_34_35_36_37_38_39_1_2_3_4_5_6_7_8_9_10_11_12_13__V_V_0 g q d d7) hl.1 rfl rfl (Nat.le_of_ble_eq_true rfl) dX4_living_40 ⟨Nat.le_of_ble_eq_true rfl, Nat.le_of_ble_eq_true rfl⟩ (st1 := []) rfl (fun H locs hw => ?_)
      obtain ⟨d9, ed9, h⟩ := lt_ex h
      have hw : Wd g (va_A ((XC g q d)) s.heap.size) ((XC g q d9)) s H locs := by rw [ed9]; exact hw
      refine lv_aload_n hx hb dX4_living_43 rfl (lv_at hl 0 rfl) ?_
      refine gf_X4_19 cx hw 0 rfl rfl dX4_living_44 ?_
      refine lv_iload_n hx hb dX4_living_47 rfl (lv_at hl 1 rfl) ?_
      obtain ⟨x10, d11, g12, h⟩ := bd2_ex h
      refine c_V (As := [.int p1]) (rest := []) (w' := (XC g q (x_set_trial d9 d11))) cx hw (c_X3_goYears l g (qs 27 q) N p1 (x_trial d9) x10 d11 g12) (cl_X4_148 cx.1.2.2.2.2 ⟨Nat.le_of_ble_eq_true rfl, Nat.le_of_ble_eq_true rfl⟩) (x_recv cx hw (ci := 3) rfl 27 rfl) (ct_X__27_28_29_30_31_32_33_34_35_36_37_38_39__V_0 g q d9 d11) hl.1 rfl rfl (Nat.le_of_ble_eq_true rfl) dX4_living_48 ⟨Nat.le_of_ble_eq_true rfl, Nat.le_of_ble_eq_true rfl⟩ (st1 := [.int x10]) rfl (fun H locs hw => ?_)
      obtain ⟨d13, ed13, h⟩ := lt_ex h
      have hw : Wd g (va_A ((XC g q d)) s.heap.size) ((XC g q d13)) s H locs := by rw [ed13]; exact hw
      refine lv_pop hx hb dX4_living_51 rfl ?_
      refine lv_aload_n hx hb dX4_living_52 rfl (lv_at hl 0 rfl) ?_
      refine gf_X4_19 cx hw 0 rfl rfl dX4_living_53 ?_
      refine gf_X4_157 cx hw 27 rfl rfl dX4_living_56 ?_
      exact r_i cx hr hlocks hw (pr1 h) (congrArg (fun z0 => (XC g q z0)) (pr2 h)) dX4_living_59
    · replace h := ite_f c6 h
      refine lv_aload_n hx hb dX4_living_25 rfl (lv_at hl 0 rfl) ?_
      refine lv_ldc hx hb cx.1.2.2.2.1 (cx.1.2.2.2.2 _ tw_2_130) dX4_living_26 ?_
      obtain ⟨x14, d15, g16, h⟩ := bd2_ex h
      refine c_V (As := [.int (-1000000005 : Int32)]) (rest := []) (w' := (XC g q d15)) cx hw (c_X4_tell l g q N (-1000000005 : Int32) d x14 d15 g16) (cl_X4_45 cx.1.2.2.2.2 ⟨Nat.le_of_ble_eq_true rfl, Nat.le_of_ble_eq_true rfl⟩) (x_recv cx hw (ci := 4) rfl 0 rfl) (Ct.all (XC_ll ..)) hl.1 rfl rfl (Nat.le_of_ble_eq_true rfl) dX4_living_28 ⟨Nat.le_of_ble_eq_true rfl, Nat.le_of_ble_eq_true rfl⟩ (st1 := [.int x14]) rfl (fun H locs hw => ?_)
      exact r_i cx hr hlocks hw (pr1 h) (congrArg (fun z0 => (XC g q z0)) (pr2 h)) dX4_living_31
  · replace h := ite_t c3 h
    refine lv_aload_n hx hb dX4_living_10 rfl (lv_at hl 0 rfl) ?_
    refine lv_ldc hx hb cx.1.2.2.2.1 (cx.1.2.2.2.2 _ tw_1_202) dX4_living_11 ?_
    obtain ⟨x17, d18, g19, h⟩ := bd2_ex h
    refine c_V (As := [.int (-1000000001 : Int32)]) (rest := []) (w' := (XC g q d18)) cx hw (c_X4_tell l g q N (-1000000001 : Int32) d x17 d18 g19) (cl_X4_45 cx.1.2.2.2.2 ⟨Nat.le_of_ble_eq_true rfl, Nat.le_of_ble_eq_true rfl⟩) (x_recv cx hw (ci := 4) rfl 0 rfl) (Ct.all (XC_ll ..)) hl.1 rfl rfl (Nat.le_of_ble_eq_true rfl) dX4_living_13 ⟨Nat.le_of_ble_eq_true rfl, Nat.le_of_ble_eq_true rfl⟩ (st1 := [.int x17]) rfl (fun H locs hw => ?_)
    exact r_i cx hr hlocks hw (pr1 h) (congrArg (fun z0 => (XC g q z0)) (pr2 h)) dX4_living_16
set_option maxHeartbeats 4000000 in
set_option maxRecDepth 100000 in
theorem c_X4_rich (l : Launch) (g : gE) (q : Nat → Nat) (N : Nat) (p1 : Int32) (d : XD) (r : Int32) (d' : XD) (h : f_X4_rich N  p1 d = some (r, d')) : MO l yX4_rich (Cond.code yX4_rich cX4_rich 3 (some .int) :: TB) rm_X4_rich [.ref (q 0), .int p1] g ((XC g q d)) ((XC g q d')) (some (.int r)) 0 0 := by
  refine MO.of (cc := cX4_rich) (maxL := 3) (ret := (some .int)) (by decide) ?_
  intro p e s m below meth c cx hw hr hlocks _
  have hx := cx.1.1
  have hb := cx.1.2.1
  refine en_go (lv := [(0, .ref (q 0)), (1, .int p1)]) (Nat.le_of_ble_eq_true rfl) rfl (fun ls hl => ?_)
  unfold f_X4_rich at h
  refine lv_iload_n hx hb dX4_rich_0 rfl (lv_at hl 1 rfl) ?_
  refine lv_iconst (v := 0) hx hb dX4_rich_1 (by decide) ?_
  refine lv_bipush (v := 100) hx hb dX4_rich_2 (by decide) ?_
  obtain ⟨x1, g2, h⟩ := bd_ex h
  refine c_S (As := [.int p1, .int (0 : Int32), .int (100 : Int32)]) (rest := []) (w' := (XC g q d)) cx hw (c_X4_isWithin l g  N p1 (0 : Int32) (100 : Int32)  x1 g2) (cl_X4_40 cx.1.2.2.2.2 ⟨Nat.le_of_ble_eq_true rfl, Nat.le_of_ble_eq_true rfl⟩) Ct.nil hl.1 rfl rfl (Nat.le_of_ble_eq_true rfl) dX4_rich_4 ⟨Nat.le_of_ble_eq_true rfl, Nat.le_of_ble_eq_true rfl⟩ (st1 := [.int x1]) rfl (fun H locs hw => ?_)
  refine lv_if_ne (tgt := 17) hx hb dX4_rich_7 (by decide) (fun c3 => ?_) (fun c3 => ?_)
  · replace h := ite_f c3 h
    refine lv_aload_n hx hb dX4_rich_17 rfl (lv_at hl 0 rfl) ?_
    refine lv_iload_n hx hb dX4_rich_18 rfl (lv_at hl 1 rfl) ?_
    obtain ⟨x4, g5, h⟩ := bd_ex h
    refine c_V (As := [.int p1]) (rest := []) (w' := (XC g q d)) cx hw (c_X4_isTooLate l g q N p1 d x4 g5) (cl_X4_144 cx.1.2.2.2.2 ⟨Nat.le_of_ble_eq_true rfl, Nat.le_of_ble_eq_true rfl⟩) (x_recv cx hw (ci := 4) rfl 0 rfl) (Ct.all (XC_ll ..)) hl.1 rfl rfl (Nat.le_of_ble_eq_true rfl) dX4_rich_19 ⟨Nat.le_of_ble_eq_true rfl, Nat.le_of_ble_eq_true rfl⟩ (st1 := [.int x4]) rfl (fun H locs hw => ?_)
    refine lv_if_eq (tgt := 32) hx hb dX4_rich_22 (by decide) (fun c6 => ?_) (fun c6 => ?_)
    · replace h := ite_t c6 h
      refine lv_aload_n hx hb dX4_rich_32 rfl (lv_at hl 0 rfl) ?_
      refine gf_X4_19 cx hw 0 rfl rfl dX4_rich_33 ?_
      refine lv_aload_n hx hb dX4_rich_36 rfl (lv_at hl 0 rfl) ?_
      refine gf_X4_12 cx hw 0 rfl rfl dX4_rich_37 ?_
      obtain ⟨d7, g8, h⟩ := bd_ex h
      refine c_V (As := [.ref (qs 1 q 0)]) (rest := []) (w' := (XC g q (x_set_trial d d7))) cx hw (c_X3_takeFrom l g (qs 27 q) (qs 1 q) N  (x_trial d) (x_valley d) d7 g8) (cl_X4_164 cx.1.2.2.2.2 ⟨Nat.le_of_ble_eq_true rfl, Nat.le_of_ble_eq_true rfl⟩) (x_recv cx hw (ci := 3) rfl 27 rfl) (ct_X__27_28_29_30_31_32_33_34_35_36_37_38_39_1_2_3_4_5_6_7_8_9_10_11_12_13__V_V_0 g q d d7) hl.1 rfl rfl (Nat.le_of_ble_eq_true rfl) dX4_rich_40 ⟨Nat.le_of_ble_eq_true rfl, Nat.le_of_ble_eq_true rfl⟩ (st1 := []) rfl (fun H locs hw => ?_)
      obtain ⟨d9, ed9, h⟩ := lt_ex h
      have hw : Wd g (va_A ((XC g q d)) s.heap.size) ((XC g q d9)) s H locs := by rw [ed9]; exact hw
      refine lv_aload_n hx hb dX4_rich_43 rfl (lv_at hl 0 rfl) ?_
      refine gf_X4_19 cx hw 0 rfl rfl dX4_rich_44 ?_
      refine lv_iload_n hx hb dX4_rich_47 rfl (lv_at hl 1 rfl) ?_
      obtain ⟨x10, d11, g12, h⟩ := bd2_ex h
      refine c_V (As := [.int p1]) (rest := []) (w' := (XC g q (x_set_trial d9 d11))) cx hw (c_X3_goYears l g (qs 27 q) N p1 (x_trial d9) x10 d11 g12) (cl_X4_148 cx.1.2.2.2.2 ⟨Nat.le_of_ble_eq_true rfl, Nat.le_of_ble_eq_true rfl⟩) (x_recv cx hw (ci := 3) rfl 27 rfl) (ct_X__27_28_29_30_31_32_33_34_35_36_37_38_39__V_0 g q d9 d11) hl.1 rfl rfl (Nat.le_of_ble_eq_true rfl) dX4_rich_48 ⟨Nat.le_of_ble_eq_true rfl, Nat.le_of_ble_eq_true rfl⟩ (st1 := [.int x10]) rfl (fun H locs hw => ?_)
      obtain ⟨d13, ed13, h⟩ := lt_ex h
      have hw : Wd g (va_A ((XC g q d)) s.heap.size) ((XC g q d13)) s H locs := by rw [ed13]; exact hw
      refine lv_pop hx hb dX4_rich_51 rfl ?_
      refine lv_aload_n hx hb dX4_rich_52 rfl (lv_at hl 0 rfl) ?_
      refine gf_X4_19 cx hw 0 rfl rfl dX4_rich_53 ?_
      refine lv_iconst (v := -1) hx hb dX4_rich_56 (by decide) ?_
      obtain ⟨x14, g15, h⟩ := bd_ex h
      refine c_V (As := [.int (-1 : Int32)]) (rest := []) (w' := (XC g q d13)) cx hw (c_X3_richestBut l g (qs 27 q) N (-1 : Int32) (x_trial d13) x14 g15) (cl_X4_168 cx.1.2.2.2.2 ⟨Nat.le_of_ble_eq_true rfl, Nat.le_of_ble_eq_true rfl⟩) (x_recv cx hw (ci := 3) rfl 27 rfl) (ct_X__27_28_29_30_31_32_33_34_35_36_37_38_39__V g q d13 ) hl.1 rfl rfl (Nat.le_of_ble_eq_true rfl) dX4_rich_57 ⟨Nat.le_of_ble_eq_true rfl, Nat.le_of_ble_eq_true rfl⟩ (st1 := [.int x14]) rfl (fun H locs hw => ?_)
      refine lv_istore_n (lv' := [(2, .int x14), (0, .ref (q 0)), (1, .int p1)]) hx hb dX4_rich_60 rfl hl (by decide) rfl (fun ls hl => ?_)
      refine lv_iload_n hx hb dX4_rich_61 rfl (lv_at hl 0 rfl) ?_
      refine lv_iconst (v := -1) hx hb dX4_rich_62 (by decide) ?_
      refine lv_icmp_ne (tgt := 75) hx hb dX4_rich_63 (by decide) (fun c16 => ?_) (fun c16 => ?_)
      · replace h := ite_f c16 h
        refine lv_iload_n hx hb dX4_rich_75 rfl (lv_at hl 0 rfl) ?_
        exact r_i cx hr hlocks hw (pr1 h) (congrArg (fun z0 => (XC g q z0)) (pr2 h)) dX4_rich_76
      · replace h := ite_t c16 h
        refine lv_aload_n hx hb dX4_rich_66 rfl (lv_at hl 1 rfl) ?_
        refine lv_ldc hx hb cx.1.2.2.2.1 (cx.1.2.2.2.2 _ tw_2_92) dX4_rich_67 ?_
        obtain ⟨x17, d18, g19, h⟩ := bd2_ex h
        refine c_V (As := [.int (-1000000004 : Int32)]) (rest := []) (w' := (XC g q d18)) cx hw (c_X4_tell l g q N (-1000000004 : Int32) d13 x17 d18 g19) (cl_X4_45 cx.1.2.2.2.2 ⟨Nat.le_of_ble_eq_true rfl, Nat.le_of_ble_eq_true rfl⟩) (x_recv cx hw (ci := 4) rfl 0 rfl) (Ct.all (XC_ll ..)) hl.1 rfl rfl (Nat.le_of_ble_eq_true rfl) dX4_rich_69 ⟨Nat.le_of_ble_eq_true rfl, Nat.le_of_ble_eq_true rfl⟩ (st1 := [.int x17]) rfl (fun H locs hw => ?_)
        refine lv_goto (tgt := 76) hx hb dX4_rich_72 (by decide) ?_
        exact r_i cx hr hlocks hw (pr1 h) (congrArg (fun z0 => (XC g q z0)) (pr2 h)) dX4_rich_76
    · replace h := ite_f c6 h
      refine lv_aload_n hx hb dX4_rich_25 rfl (lv_at hl 0 rfl) ?_
      refine lv_ldc hx hb cx.1.2.2.2.1 (cx.1.2.2.2.2 _ tw_2_130) dX4_rich_26 ?_
      obtain ⟨x20, d21, g22, h⟩ := bd2_ex h
      refine c_V (As := [.int (-1000000005 : Int32)]) (rest := []) (w' := (XC g q d21)) cx hw (c_X4_tell l g q N (-1000000005 : Int32) d x20 d21 g22) (cl_X4_45 cx.1.2.2.2.2 ⟨Nat.le_of_ble_eq_true rfl, Nat.le_of_ble_eq_true rfl⟩) (x_recv cx hw (ci := 4) rfl 0 rfl) (Ct.all (XC_ll ..)) hl.1 rfl rfl (Nat.le_of_ble_eq_true rfl) dX4_rich_28 ⟨Nat.le_of_ble_eq_true rfl, Nat.le_of_ble_eq_true rfl⟩ (st1 := [.int x20]) rfl (fun H locs hw => ?_)
      exact r_i cx hr hlocks hw (pr1 h) (congrArg (fun z0 => (XC g q z0)) (pr2 h)) dX4_rich_31
  · replace h := ite_t c3 h
    refine lv_aload_n hx hb dX4_rich_10 rfl (lv_at hl 0 rfl) ?_
    refine lv_ldc hx hb cx.1.2.2.2.1 (cx.1.2.2.2.2 _ tw_1_202) dX4_rich_11 ?_
    obtain ⟨x23, d24, g25, h⟩ := bd2_ex h
    refine c_V (As := [.int (-1000000001 : Int32)]) (rest := []) (w' := (XC g q d24)) cx hw (c_X4_tell l g q N (-1000000001 : Int32) d x23 d24 g25) (cl_X4_45 cx.1.2.2.2.2 ⟨Nat.le_of_ble_eq_true rfl, Nat.le_of_ble_eq_true rfl⟩) (x_recv cx hw (ci := 4) rfl 0 rfl) (Ct.all (XC_ll ..)) hl.1 rfl rfl (Nat.le_of_ble_eq_true rfl) dX4_rich_13 ⟨Nat.le_of_ble_eq_true rfl, Nat.le_of_ble_eq_true rfl⟩ (st1 := [.int x23]) rfl (fun H locs hw => ?_)
    exact r_i cx hr hlocks hw (pr1 h) (congrArg (fun z0 => (XC g q z0)) (pr2 h)) dX4_rich_16
set_option maxHeartbeats 4000000 in
set_option maxRecDepth 100000 in
theorem c_X4_when (l : Launch) (g : gE) (q : Nat → Nat) (N : Nat) (p1 : Int32) (d : XD) (r : Int32) (d' : XD) (h : f_X4_when N  p1 d = some (r, d')) : MO l yX4_when (Cond.code yX4_when cX4_when 2 (some .int) :: TB) rm_X4_when [.ref (q 0), .int p1] g ((XC g q d)) ((XC g q d')) (some (.int r)) 0 0 := by
  refine MO.of (cc := cX4_when) (maxL := 2) (ret := (some .int)) (by decide) ?_
  intro p e s m below meth c cx hw hr hlocks _
  have hx := cx.1.1
  have hb := cx.1.2.1
  refine en_go (lv := [(0, .ref (q 0)), (1, .int p1)]) (Nat.le_of_ble_eq_true rfl) rfl (fun ls hl => ?_)
  unfold f_X4_when at h
  refine lv_aload_n hx hb dX4_when_0 rfl (lv_at hl 0 rfl) ?_
  refine lv_iload_n hx hb dX4_when_1 rfl (lv_at hl 1 rfl) ?_
  obtain ⟨x1, g2, h⟩ := bd_ex h
  refine c_V (As := [.int p1]) (rest := []) (w' := (XC g q d)) cx hw (c_X4_isOne l g q N p1 d x1 g2) (cl_X4_72 cx.1.2.2.2.2 ⟨Nat.le_of_ble_eq_true rfl, Nat.le_of_ble_eq_true rfl⟩) (x_recv cx hw (ci := 4) rfl 0 rfl) (Ct.all (XC_ll ..)) hl.1 rfl rfl (Nat.le_of_ble_eq_true rfl) dX4_when_2 ⟨Nat.le_of_ble_eq_true rfl, Nat.le_of_ble_eq_true rfl⟩ (st1 := [.int x1]) rfl (fun H locs hw => ?_)
  refine lv_if_ne (tgt := 15) hx hb dX4_when_5 (by decide) (fun c3 => ?_) (fun c3 => ?_)
  · replace h := ite_f c3 h
    refine lv_aload_n hx hb dX4_when_15 rfl (lv_at hl 0 rfl) ?_
    refine lv_bipush (v := 100) hx hb dX4_when_16 (by decide) ?_
    obtain ⟨x4, g5, h⟩ := bd_ex h
    refine c_V (As := [.int (100 : Int32)]) (rest := []) (w' := (XC g q d)) cx hw (c_X4_isTooLate l g q N (100 : Int32) d x4 g5) (cl_X4_144 cx.1.2.2.2.2 ⟨Nat.le_of_ble_eq_true rfl, Nat.le_of_ble_eq_true rfl⟩) (x_recv cx hw (ci := 4) rfl 0 rfl) (Ct.all (XC_ll ..)) hl.1 rfl rfl (Nat.le_of_ble_eq_true rfl) dX4_when_18 ⟨Nat.le_of_ble_eq_true rfl, Nat.le_of_ble_eq_true rfl⟩ (st1 := [.int x4]) rfl (fun H locs hw => ?_)
    refine lv_if_eq (tgt := 31) hx hb dX4_when_21 (by decide) (fun c6 => ?_) (fun c6 => ?_)
    · replace h := ite_t c6 h
      refine lv_aload_n hx hb dX4_when_31 rfl (lv_at hl 0 rfl) ?_
      refine gf_X4_12 cx hw 0 rfl rfl dX4_when_32 ?_
      refine lv_iload_n hx hb dX4_when_35 rfl (lv_at hl 1 rfl) ?_
      obtain ⟨x7, g8, h⟩ := bd_ex h
      refine c_V (As := [.int p1]) (rest := []) (w' := (XC g q d)) cx hw (c_X3_lives l g (qs 1 q) N p1 (x_valley d) x7 g8) (cl_X4_90 cx.1.2.2.2.2 ⟨Nat.le_of_ble_eq_true rfl, Nat.le_of_ble_eq_true rfl⟩) (x_recv cx hw (ci := 3) rfl 1 rfl) (ct_X__1_2_3_4_5_6_7_8_9_10_11_12_13__V g q d ) hl.1 rfl rfl (Nat.le_of_ble_eq_true rfl) dX4_when_36 ⟨Nat.le_of_ble_eq_true rfl, Nat.le_of_ble_eq_true rfl⟩ (st1 := [.int x7]) rfl (fun H locs hw => ?_)
      refine lv_if_ne (tgt := 44) hx hb dX4_when_39 (by decide) (fun c9 => ?_) (fun c9 => ?_)
      · replace h := ite_f c9 h
        refine lv_aload_n hx hb dX4_when_44 rfl (lv_at hl 0 rfl) ?_
        refine gf_X4_19 cx hw 0 rfl rfl dX4_when_45 ?_
        refine lv_aload_n hx hb dX4_when_48 rfl (lv_at hl 0 rfl) ?_
        refine gf_X4_12 cx hw 0 rfl rfl dX4_when_49 ?_
        obtain ⟨d10, g11, h⟩ := bd_ex h
        refine c_V (As := [.ref (qs 1 q 0)]) (rest := []) (w' := (XC g q (x_set_trial d d10))) cx hw (c_X3_takeFrom l g (qs 27 q) (qs 1 q) N  (x_trial d) (x_valley d) d10 g11) (cl_X4_164 cx.1.2.2.2.2 ⟨Nat.le_of_ble_eq_true rfl, Nat.le_of_ble_eq_true rfl⟩) (x_recv cx hw (ci := 3) rfl 27 rfl) (ct_X__27_28_29_30_31_32_33_34_35_36_37_38_39_1_2_3_4_5_6_7_8_9_10_11_12_13__V_V_0 g q d d10) hl.1 rfl rfl (Nat.le_of_ble_eq_true rfl) dX4_when_52 ⟨Nat.le_of_ble_eq_true rfl, Nat.le_of_ble_eq_true rfl⟩ (st1 := []) rfl (fun H locs hw => ?_)
        obtain ⟨d12, ed12, h⟩ := lt_ex h
        have hw : Wd g (va_A ((XC g q d)) s.heap.size) ((XC g q d12)) s H locs := by rw [ed12]; exact hw
        refine lv_aload_n hx hb dX4_when_55 rfl (lv_at hl 0 rfl) ?_
        refine gf_X4_19 cx hw 0 rfl rfl dX4_when_56 ?_
        refine lv_bipush (v := 100) hx hb dX4_when_59 (by decide) ?_
        obtain ⟨x13, d14, g15, h⟩ := bd2_ex h
        refine c_V (As := [.int (100 : Int32)]) (rest := []) (w' := (XC g q (x_set_trial d12 d14))) cx hw (c_X3_goYears l g (qs 27 q) N (100 : Int32) (x_trial d12) x13 d14 g15) (cl_X4_148 cx.1.2.2.2.2 ⟨Nat.le_of_ble_eq_true rfl, Nat.le_of_ble_eq_true rfl⟩) (x_recv cx hw (ci := 3) rfl 27 rfl) (ct_X__27_28_29_30_31_32_33_34_35_36_37_38_39__V_0 g q d12 d14) hl.1 rfl rfl (Nat.le_of_ble_eq_true rfl) dX4_when_61 ⟨Nat.le_of_ble_eq_true rfl, Nat.le_of_ble_eq_true rfl⟩ (st1 := [.int x13]) rfl (fun H locs hw => ?_)
        obtain ⟨d16, ed16, h⟩ := lt_ex h
        have hw : Wd g (va_A ((XC g q d)) s.heap.size) ((XC g q d16)) s H locs := by rw [ed16]; exact hw
        refine lv_pop hx hb dX4_when_64 rfl ?_
        refine lv_aload_n hx hb dX4_when_65 rfl (lv_at hl 0 rfl) ?_
        refine gf_X4_19 cx hw 0 rfl rfl dX4_when_66 ?_
        refine lv_iload_n hx hb dX4_when_69 rfl (lv_at hl 1 rfl) ?_
        obtain ⟨x17, g18, h⟩ := bd_ex h
        refine c_V (As := [.int p1]) (rest := []) (w' := (XC g q d16)) cx hw (c_X3_lives l g (qs 27 q) N p1 (x_trial d16) x17 g18) (cl_X4_90 cx.1.2.2.2.2 ⟨Nat.le_of_ble_eq_true rfl, Nat.le_of_ble_eq_true rfl⟩) (x_recv cx hw (ci := 3) rfl 27 rfl) (ct_X__27_28_29_30_31_32_33_34_35_36_37_38_39__V g q d16 ) hl.1 rfl rfl (Nat.le_of_ble_eq_true rfl) dX4_when_70 ⟨Nat.le_of_ble_eq_true rfl, Nat.le_of_ble_eq_true rfl⟩ (st1 := [.int x17]) rfl (fun H locs hw => ?_)
        refine lv_if_eq (tgt := 85) hx hb dX4_when_73 (by decide) (fun c19 => ?_) (fun c19 => ?_)
        · replace h := ite_t c19 h
          refine lv_aload_n hx hb dX4_when_85 rfl (lv_at hl 0 rfl) ?_
          refine gf_X4_19 cx hw 0 rfl rfl dX4_when_86 ?_
          refine gf_X4_171 cx hw 27 rfl rfl dX4_when_89 ?_
          refine lv_iload_n hx hb dX4_when_92 rfl (lv_at hl 1 rfl) ?_
          have ix20 := rd_in h
          refine x_iald cx hw 39 rfl ix20 dX4_when_93 ?_
          refine lv_topi (fun x20 ex20 => ?_)
          replace h := rd_nx ex20 h
          refine lv_aload_n hx hb dX4_when_94 rfl (lv_at hl 0 rfl) ?_
          refine gf_X4_12 cx hw 0 rfl rfl dX4_when_95 ?_
          refine gf_X4_154 cx hw 1 rfl rfl dX4_when_98 ?_
          refine lv_isub hx hb dX4_when_101 ?_
          exact r_i cx hr hlocks hw (pr1 h) (congrArg (fun z0 => (XC g q z0)) (pr2 h)) dX4_when_102
        · replace h := ite_f c19 h
          refine lv_aload_n hx hb dX4_when_76 rfl (lv_at hl 0 rfl) ?_
          refine lv_ldc hx hb cx.1.2.2.2.1 (cx.1.2.2.2.2 _ tw_2_92) dX4_when_77 ?_
          obtain ⟨x21, d22, g23, h⟩ := bd2_ex h
          refine c_V (As := [.int (-1000000004 : Int32)]) (rest := []) (w' := (XC g q d22)) cx hw (c_X4_tell l g q N (-1000000004 : Int32) d16 x21 d22 g23) (cl_X4_45 cx.1.2.2.2.2 ⟨Nat.le_of_ble_eq_true rfl, Nat.le_of_ble_eq_true rfl⟩) (x_recv cx hw (ci := 4) rfl 0 rfl) (Ct.all (XC_ll ..)) hl.1 rfl rfl (Nat.le_of_ble_eq_true rfl) dX4_when_79 ⟨Nat.le_of_ble_eq_true rfl, Nat.le_of_ble_eq_true rfl⟩ (st1 := [.int x21]) rfl (fun H locs hw => ?_)
          refine lv_goto (tgt := 102) hx hb dX4_when_82 (by decide) ?_
          exact r_i cx hr hlocks hw (pr1 h) (congrArg (fun z0 => (XC g q z0)) (pr2 h)) dX4_when_102
      · replace h := ite_t c9 h
        refine lv_iconst (v := 0) hx hb dX4_when_42 (by decide) ?_
        exact r_i cx hr hlocks hw (pr1 h) (congrArg (fun z0 => (XC g q z0)) (pr2 h)) dX4_when_43
    · replace h := ite_f c6 h
      refine lv_aload_n hx hb dX4_when_24 rfl (lv_at hl 0 rfl) ?_
      refine lv_ldc hx hb cx.1.2.2.2.1 (cx.1.2.2.2.2 _ tw_2_130) dX4_when_25 ?_
      obtain ⟨x24, d25, g26, h⟩ := bd2_ex h
      refine c_V (As := [.int (-1000000005 : Int32)]) (rest := []) (w' := (XC g q d25)) cx hw (c_X4_tell l g q N (-1000000005 : Int32) d x24 d25 g26) (cl_X4_45 cx.1.2.2.2.2 ⟨Nat.le_of_ble_eq_true rfl, Nat.le_of_ble_eq_true rfl⟩) (x_recv cx hw (ci := 4) rfl 0 rfl) (Ct.all (XC_ll ..)) hl.1 rfl rfl (Nat.le_of_ble_eq_true rfl) dX4_when_27 ⟨Nat.le_of_ble_eq_true rfl, Nat.le_of_ble_eq_true rfl⟩ (st1 := [.int x24]) rfl (fun H locs hw => ?_)
      exact r_i cx hr hlocks hw (pr1 h) (congrArg (fun z0 => (XC g q z0)) (pr2 h)) dX4_when_30
  · replace h := ite_t c3 h
    refine lv_aload_n hx hb dX4_when_8 rfl (lv_at hl 0 rfl) ?_
    refine lv_ldc hx hb cx.1.2.2.2.1 (cx.1.2.2.2.2 _ tw_1_202) dX4_when_9 ?_
    obtain ⟨x27, d28, g29, h⟩ := bd2_ex h
    refine c_V (As := [.int (-1000000001 : Int32)]) (rest := []) (w' := (XC g q d28)) cx hw (c_X4_tell l g q N (-1000000001 : Int32) d x27 d28 g29) (cl_X4_45 cx.1.2.2.2.2 ⟨Nat.le_of_ble_eq_true rfl, Nat.le_of_ble_eq_true rfl⟩) (x_recv cx hw (ci := 4) rfl 0 rfl) (Ct.all (XC_ll ..)) hl.1 rfl rfl (Nat.le_of_ble_eq_true rfl) dX4_when_11 ⟨Nat.le_of_ble_eq_true rfl, Nat.le_of_ble_eq_true rfl⟩ (st1 := [.int x27]) rfl (fun H locs hw => ?_)
    exact r_i cx hr hlocks hw (pr1 h) (congrArg (fun z0 => (XC g q z0)) (pr2 h)) dX4_when_14
set_option maxHeartbeats 4000000 in
set_option maxRecDepth 100000 in
theorem c_X4_gets (l : Launch) (g : gE) (q : Nat → Nat) (N : Nat) (p1 : Int32) (d : XD) (r : Int32) (d' : XD) (h : f_X4_gets N  p1 d = some (r, d')) : MO l yX4_gets (Cond.code yX4_gets cX4_gets 2 (some .int) :: TB) rm_X4_gets [.ref (q 0), .int p1] g ((XC g q d)) ((XC g q d')) (some (.int r)) 0 0 := by
  refine MO.of (cc := cX4_gets) (maxL := 2) (ret := (some .int)) (by decide) ?_
  intro p e s m below meth c cx hw hr hlocks _
  have hx := cx.1.1
  have hb := cx.1.2.1
  refine en_go (lv := [(0, .ref (q 0)), (1, .int p1)]) (Nat.le_of_ble_eq_true rfl) rfl (fun ls hl => ?_)
  unfold f_X4_gets at h
  refine lv_aload_n hx hb dX4_gets_0 rfl (lv_at hl 0 rfl) ?_
  refine lv_iload_n hx hb dX4_gets_1 rfl (lv_at hl 1 rfl) ?_
  obtain ⟨x1, g2, h⟩ := bd_ex h
  refine c_V (As := [.int p1]) (rest := []) (w' := (XC g q d)) cx hw (c_X4_isOne l g q N p1 d x1 g2) (cl_X4_72 cx.1.2.2.2.2 ⟨Nat.le_of_ble_eq_true rfl, Nat.le_of_ble_eq_true rfl⟩) (x_recv cx hw (ci := 4) rfl 0 rfl) (Ct.all (XC_ll ..)) hl.1 rfl rfl (Nat.le_of_ble_eq_true rfl) dX4_gets_2 ⟨Nat.le_of_ble_eq_true rfl, Nat.le_of_ble_eq_true rfl⟩ (st1 := [.int x1]) rfl (fun H locs hw => ?_)
  refine lv_if_ne (tgt := 15) hx hb dX4_gets_5 (by decide) (fun c3 => ?_) (fun c3 => ?_)
  · replace h := ite_f c3 h
    refine lv_aload_n hx hb dX4_gets_15 rfl (lv_at hl 0 rfl) ?_
    refine gf_X4_12 cx hw 0 rfl rfl dX4_gets_16 ?_
    refine lv_iload_n hx hb dX4_gets_19 rfl (lv_at hl 1 rfl) ?_
    obtain ⟨x4, g5, h⟩ := bd_ex h
    refine c_V (As := [.int p1]) (rest := []) (w' := (XC g q d)) cx hw (c_X3_lives l g (qs 1 q) N p1 (x_valley d) x4 g5) (cl_X4_90 cx.1.2.2.2.2 ⟨Nat.le_of_ble_eq_true rfl, Nat.le_of_ble_eq_true rfl⟩) (x_recv cx hw (ci := 3) rfl 1 rfl) (ct_X__1_2_3_4_5_6_7_8_9_10_11_12_13__V g q d ) hl.1 rfl rfl (Nat.le_of_ble_eq_true rfl) dX4_gets_20 ⟨Nat.le_of_ble_eq_true rfl, Nat.le_of_ble_eq_true rfl⟩ (st1 := [.int x4]) rfl (fun H locs hw => ?_)
    refine lv_if_eq (tgt := 35) hx hb dX4_gets_23 (by decide) (fun c6 => ?_) (fun c6 => ?_)
    · replace h := ite_t c6 h
      refine lv_aload_n hx hb dX4_gets_35 rfl (lv_at hl 0 rfl) ?_
      refine lv_ldc hx hb cx.1.2.2.2.1 (cx.1.2.2.2.2 _ tw_2_130) dX4_gets_36 ?_
      obtain ⟨x7, d8, g9, h⟩ := bd2_ex h
      refine c_V (As := [.int (-1000000005 : Int32)]) (rest := []) (w' := (XC g q d8)) cx hw (c_X4_tell l g q N (-1000000005 : Int32) d x7 d8 g9) (cl_X4_45 cx.1.2.2.2.2 ⟨Nat.le_of_ble_eq_true rfl, Nat.le_of_ble_eq_true rfl⟩) (x_recv cx hw (ci := 4) rfl 0 rfl) (Ct.all (XC_ll ..)) hl.1 rfl rfl (Nat.le_of_ble_eq_true rfl) dX4_gets_38 ⟨Nat.le_of_ble_eq_true rfl, Nat.le_of_ble_eq_true rfl⟩ (st1 := [.int x7]) rfl (fun H locs hw => ?_)
      exact r_i cx hr hlocks hw (pr1 h) (congrArg (fun z0 => (XC g q z0)) (pr2 h)) dX4_gets_41
    · replace h := ite_f c6 h
      refine lv_aload_n hx hb dX4_gets_26 rfl (lv_at hl 0 rfl) ?_
      refine lv_bipush (v := 100) hx hb dX4_gets_27 (by decide) ?_
      obtain ⟨x10, g11, h⟩ := bd_ex h
      refine c_V (As := [.int (100 : Int32)]) (rest := []) (w' := (XC g q d)) cx hw (c_X4_isTooLate l g q N (100 : Int32) d x10 g11) (cl_X4_144 cx.1.2.2.2.2 ⟨Nat.le_of_ble_eq_true rfl, Nat.le_of_ble_eq_true rfl⟩) (x_recv cx hw (ci := 4) rfl 0 rfl) (Ct.all (XC_ll ..)) hl.1 rfl rfl (Nat.le_of_ble_eq_true rfl) dX4_gets_29 ⟨Nat.le_of_ble_eq_true rfl, Nat.le_of_ble_eq_true rfl⟩ (st1 := [.int x10]) rfl (fun H locs hw => ?_)
      refine lv_if_eq (tgt := 42) hx hb dX4_gets_32 (by decide) (fun c12 => ?_) (fun c12 => ?_)
      · replace h := ite_t c12 h
        refine lv_aload_n hx hb dX4_gets_42 rfl (lv_at hl 0 rfl) ?_
        refine gf_X4_19 cx hw 0 rfl rfl dX4_gets_43 ?_
        refine lv_aload_n hx hb dX4_gets_46 rfl (lv_at hl 0 rfl) ?_
        refine gf_X4_12 cx hw 0 rfl rfl dX4_gets_47 ?_
        obtain ⟨d13, g14, h⟩ := bd_ex h
        refine c_V (As := [.ref (qs 1 q 0)]) (rest := []) (w' := (XC g q (x_set_trial d d13))) cx hw (c_X3_takeFrom l g (qs 27 q) (qs 1 q) N  (x_trial d) (x_valley d) d13 g14) (cl_X4_164 cx.1.2.2.2.2 ⟨Nat.le_of_ble_eq_true rfl, Nat.le_of_ble_eq_true rfl⟩) (x_recv cx hw (ci := 3) rfl 27 rfl) (ct_X__27_28_29_30_31_32_33_34_35_36_37_38_39_1_2_3_4_5_6_7_8_9_10_11_12_13__V_V_0 g q d d13) hl.1 rfl rfl (Nat.le_of_ble_eq_true rfl) dX4_gets_50 ⟨Nat.le_of_ble_eq_true rfl, Nat.le_of_ble_eq_true rfl⟩ (st1 := []) rfl (fun H locs hw => ?_)
        obtain ⟨d15, ed15, h⟩ := lt_ex h
        have hw : Wd g (va_A ((XC g q d)) s.heap.size) ((XC g q d15)) s H locs := by rw [ed15]; exact hw
        refine lv_aload_n hx hb dX4_gets_53 rfl (lv_at hl 0 rfl) ?_
        refine gf_X4_19 cx hw 0 rfl rfl dX4_gets_54 ?_
        refine lv_bipush (v := 100) hx hb dX4_gets_57 (by decide) ?_
        obtain ⟨x16, d17, g18, h⟩ := bd2_ex h
        refine c_V (As := [.int (100 : Int32)]) (rest := []) (w' := (XC g q (x_set_trial d15 d17))) cx hw (c_X3_goYears l g (qs 27 q) N (100 : Int32) (x_trial d15) x16 d17 g18) (cl_X4_148 cx.1.2.2.2.2 ⟨Nat.le_of_ble_eq_true rfl, Nat.le_of_ble_eq_true rfl⟩) (x_recv cx hw (ci := 3) rfl 27 rfl) (ct_X__27_28_29_30_31_32_33_34_35_36_37_38_39__V_0 g q d15 d17) hl.1 rfl rfl (Nat.le_of_ble_eq_true rfl) dX4_gets_59 ⟨Nat.le_of_ble_eq_true rfl, Nat.le_of_ble_eq_true rfl⟩ (st1 := [.int x16]) rfl (fun H locs hw => ?_)
        obtain ⟨d19, ed19, h⟩ := lt_ex h
        have hw : Wd g (va_A ((XC g q d)) s.heap.size) ((XC g q d19)) s H locs := by rw [ed19]; exact hw
        refine lv_pop hx hb dX4_gets_62 rfl ?_
        refine lv_aload_n hx hb dX4_gets_63 rfl (lv_at hl 0 rfl) ?_
        refine gf_X4_19 cx hw 0 rfl rfl dX4_gets_64 ?_
        refine lv_iload_n hx hb dX4_gets_67 rfl (lv_at hl 1 rfl) ?_
        obtain ⟨x20, g21, h⟩ := bd_ex h
        refine c_V (As := [.int p1]) (rest := []) (w' := (XC g q d19)) cx hw (c_X3_lives l g (qs 27 q) N p1 (x_trial d19) x20 g21) (cl_X4_90 cx.1.2.2.2.2 ⟨Nat.le_of_ble_eq_true rfl, Nat.le_of_ble_eq_true rfl⟩) (x_recv cx hw (ci := 3) rfl 27 rfl) (ct_X__27_28_29_30_31_32_33_34_35_36_37_38_39__V g q d19 ) hl.1 rfl rfl (Nat.le_of_ble_eq_true rfl) dX4_gets_68 ⟨Nat.le_of_ble_eq_true rfl, Nat.le_of_ble_eq_true rfl⟩ (st1 := [.int x20]) rfl (fun H locs hw => ?_)
        refine lv_if_eq (tgt := 83) hx hb dX4_gets_71 (by decide) (fun c22 => ?_) (fun c22 => ?_)
        · replace h := ite_t c22 h
          refine lv_aload_n hx hb dX4_gets_83 rfl (lv_at hl 0 rfl) ?_
          refine gf_X4_19 cx hw 0 rfl rfl dX4_gets_84 ?_
          refine gf_X4_174 cx hw 27 rfl rfl dX4_gets_87 ?_
          refine lv_iload_n hx hb dX4_gets_90 rfl (lv_at hl 1 rfl) ?_
          have ix23 := rd_in h
          refine x_iald cx hw 38 rfl ix23 dX4_gets_91 ?_
          refine lv_topi (fun x23 ex23 => ?_)
          replace h := rd_nx ex23 h
          exact r_i cx hr hlocks hw (pr1 h) (congrArg (fun z0 => (XC g q z0)) (pr2 h)) dX4_gets_92
        · replace h := ite_f c22 h
          refine lv_aload_n hx hb dX4_gets_74 rfl (lv_at hl 0 rfl) ?_
          refine lv_ldc hx hb cx.1.2.2.2.1 (cx.1.2.2.2.2 _ tw_2_92) dX4_gets_75 ?_
          obtain ⟨x24, d25, g26, h⟩ := bd2_ex h
          refine c_V (As := [.int (-1000000004 : Int32)]) (rest := []) (w' := (XC g q d25)) cx hw (c_X4_tell l g q N (-1000000004 : Int32) d19 x24 d25 g26) (cl_X4_45 cx.1.2.2.2.2 ⟨Nat.le_of_ble_eq_true rfl, Nat.le_of_ble_eq_true rfl⟩) (x_recv cx hw (ci := 4) rfl 0 rfl) (Ct.all (XC_ll ..)) hl.1 rfl rfl (Nat.le_of_ble_eq_true rfl) dX4_gets_77 ⟨Nat.le_of_ble_eq_true rfl, Nat.le_of_ble_eq_true rfl⟩ (st1 := [.int x24]) rfl (fun H locs hw => ?_)
          refine lv_goto (tgt := 92) hx hb dX4_gets_80 (by decide) ?_
          exact r_i cx hr hlocks hw (pr1 h) (congrArg (fun z0 => (XC g q z0)) (pr2 h)) dX4_gets_92
      · replace h := ite_f c12 h
        refine lv_aload_n hx hb dX4_gets_35 rfl (lv_at hl 0 rfl) ?_
        refine lv_ldc hx hb cx.1.2.2.2.1 (cx.1.2.2.2.2 _ tw_2_130) dX4_gets_36 ?_
        obtain ⟨x27, d28, g29, h⟩ := bd2_ex h
        refine c_V (As := [.int (-1000000005 : Int32)]) (rest := []) (w' := (XC g q d28)) cx hw (c_X4_tell l g q N (-1000000005 : Int32) d x27 d28 g29) (cl_X4_45 cx.1.2.2.2.2 ⟨Nat.le_of_ble_eq_true rfl, Nat.le_of_ble_eq_true rfl⟩) (x_recv cx hw (ci := 4) rfl 0 rfl) (Ct.all (XC_ll ..)) hl.1 rfl rfl (Nat.le_of_ble_eq_true rfl) dX4_gets_38 ⟨Nat.le_of_ble_eq_true rfl, Nat.le_of_ble_eq_true rfl⟩ (st1 := [.int x27]) rfl (fun H locs hw => ?_)
        exact r_i cx hr hlocks hw (pr1 h) (congrArg (fun z0 => (XC g q z0)) (pr2 h)) dX4_gets_41
  · replace h := ite_t c3 h
    refine lv_aload_n hx hb dX4_gets_8 rfl (lv_at hl 0 rfl) ?_
    refine lv_ldc hx hb cx.1.2.2.2.1 (cx.1.2.2.2.2 _ tw_1_202) dX4_gets_9 ?_
    obtain ⟨x30, d31, g32, h⟩ := bd2_ex h
    refine c_V (As := [.int (-1000000001 : Int32)]) (rest := []) (w' := (XC g q d31)) cx hw (c_X4_tell l g q N (-1000000001 : Int32) d x30 d31 g32) (cl_X4_45 cx.1.2.2.2.2 ⟨Nat.le_of_ble_eq_true rfl, Nat.le_of_ble_eq_true rfl⟩) (x_recv cx hw (ci := 4) rfl 0 rfl) (Ct.all (XC_ll ..)) hl.1 rfl rfl (Nat.le_of_ble_eq_true rfl) dX4_gets_11 ⟨Nat.le_of_ble_eq_true rfl, Nat.le_of_ble_eq_true rfl⟩ (st1 := [.int x30]) rfl (fun H locs hw => ?_)
    exact r_i cx hr hlocks hw (pr1 h) (congrArg (fun z0 => (XC g q z0)) (pr2 h)) dX4_gets_14
set_option maxHeartbeats 4000000 in
set_option maxRecDepth 100000 in
theorem c_X4_leastStep (l : Launch) (g : gE) (q : Nat → Nat) (N : Nat) (p1 : Int32) (p2 : Int32) (p3 : Int32) (d : XD) (r : Int32) (d' : XD) (h : f_X4_leastStep N  p1 p2 p3 d = some (r, d')) : MO l yX4_leastStep (Cond.code yX4_leastStep cX4_leastStep 6 (some .int) :: TB) rm_X4_leastStep [.ref (q 0), .int p1, .int p2, .int p3] g ((XC g q d)) ((XC g q d')) (some (.int r)) 0 0 := by
  refine MO.of (cc := cX4_leastStep) (maxL := 6) (ret := (some .int)) (by decide) ?_
  intro p e s m below meth c cx hw hr hlocks _
  have hx := cx.1.1
  have hb := cx.1.2.1
  refine en_go (lv := [(0, .ref (q 0)), (1, .int p1), (2, .int p2), (3, .int p3)]) (Nat.le_of_ble_eq_true rfl) rfl (fun ls hl => ?_)
  have L14 : ∀ (n14 : Nat) (a1 : Int32) (a2 : Int32) (a3 : Int32) (a4 : Int32) (d_ : XD) (H : Heap) (locs : List Loc) (ls : Array Slot), Wd g (va_A ((XC g q d)) s.heap.size) ((XC g q d_)) s H locs → lv_has ls 6 [(0, .ref (q 0)), (1, .int a1), (2, .int a2), (3, .int a3), (4, .int a4)] → f_X4_leastStep_L14 N   n14 a1 a2 a3 a4 d_ = some (r, d') → W p l e rm_X4_leastStep s m ([.ref (q 0), .int p1, .int p2, .int p3] : List Value).toArray below meth c H locs 0 0 (MQ below (QO (some (.int r)) g ((XC g q d')) (va_A ((XC g q d)) s.heap.size)) ([.ref (q 0), .int p1, .int p2, .int p3] : List Value).toArray s 0 0 (va_A ((XC g q d)) s.heap.size)) (F0 m 14 ls []) := by
    intro n14
    induction n14 with
    | zero => intro a1 a2 a3 a4 d_ H locs ls hw hl h; exact (Option.some_ne_none _ h.symm).elim
    | succ n14 ih14 =>
      have L24 : ∀ (n24 : Nat) (a1 : Int32) (a2 : Int32) (a3 : Int32) (a4 : Int32) (a5 : Int32) (d_ : XD) (H : Heap) (locs : List Loc) (ls : Array Slot), Wd g (va_A ((XC g q d)) s.heap.size) ((XC g q d_)) s H locs → lv_has ls 6 [(0, .ref (q 0)), (1, .int a1), (2, .int a2), (3, .int a3), (4, .int a4), (5, .int a5)] → f_X4_leastStep_L24 N  (f_X4_leastStep_L14 N   n14) n24 a1 a2 a3 a4 a5 d_ = some (r, d') → W p l e rm_X4_leastStep s m ([.ref (q 0), .int p1, .int p2, .int p3] : List Value).toArray below meth c H locs 0 0 (MQ below (QO (some (.int r)) g ((XC g q d')) (va_A ((XC g q d)) s.heap.size)) ([.ref (q 0), .int p1, .int p2, .int p3] : List Value).toArray s 0 0 (va_A ((XC g q d)) s.heap.size)) (F0 m 24 ls []) := by
        intro n24
        induction n24 with
        | zero => intro a1 a2 a3 a4 a5 d_ H locs ls hw hl h; exact (Option.some_ne_none _ h.symm).elim
        | succ n24 ih24 =>
          intro a1 a2 a3 a4 a5 d_ H locs ls hw hl h
          rw [f_X4_leastStep_L24] at h
          refine lv_iload hx hb dX4_leastStep_24 (lv_at hl 5 rfl) ?_
          refine lv_iconst (v := 4) hx hb dX4_leastStep_26 (by decide) ?_
          refine lv_icmp_ge (tgt := 82) hx hb dX4_leastStep_27 (by decide) (fun c16 => ?_) (fun c16 => ?_)
          · replace h := ite_t c16 h
            obtain ⟨x17, ex17⟩ : ∃ y : Int32, y = (a4 + 1) := ⟨_, rfl⟩
            replace h := lt_nx ex17 h
            refine lv_iinc (v := x17) (lv' := [(4, .int x17), (0, .ref (q 0)), (1, .int a1), (2, .int a2), (3, .int a3), (5, .int a5)]) hx hb dX4_leastStep_82 hl (k := 4) rfl (by rw [ex17]; rfl) (by decide) rfl (fun ls hl => ?_)
            refine lv_goto (tgt := 14) hx hb dX4_leastStep_85 (by decide) ?_
            exact ih14 a1 a2 a3 x17 d_ _ _ _ hw (lv_sub hl [1, 2, 3, 4, 0] rfl) h
          · replace h := ite_f c16 h
            refine lv_aload_n hx hb dX4_leastStep_30 rfl (lv_at hl 0 rfl) ?_
            refine gf_X4_19 cx hw 0 rfl rfl dX4_leastStep_31 ?_
            refine gf_X4_102 cx hw 27 rfl rfl dX4_leastStep_34 ?_
            refine lv_iload_n hx hb dX4_leastStep_37 rfl (lv_at hl 1 rfl) ?_
            refine lv_aload_n hx hb dX4_leastStep_38 rfl (lv_at hl 0 rfl) ?_
            refine gf_X4_12 cx hw 0 rfl rfl dX4_leastStep_39 ?_
            refine gf_X4_102 cx hw 1 rfl rfl dX4_leastStep_42 ?_
            refine lv_iload_n hx hb dX4_leastStep_45 rfl (lv_at hl 1 rfl) ?_
            have ix18 := rd_in h
            refine x_iald cx hw 11 rfl ix18 dX4_leastStep_46 ?_
            refine lv_topi (fun x18 ex18 => ?_)
            replace h := rd_nx ex18 h
            refine lv_iload hx hb dX4_leastStep_47 (lv_at hl 4 rfl) ?_
            refine lv_iload hx hb dX4_leastStep_49 (lv_at hl 5 rfl) ?_
            obtain ⟨x19, g20, h⟩ := bd_ex h
            refine c_S (As := [.int x18, .int a4, .int a5]) (rest := [.int a1, .ref (qs 27 q 10)]) (w' := (XC g q d_)) cx hw (c_X4_withWay l g  N x18 a4 a5  x19 g20) (cl_X4_108 cx.1.2.2.2.2 ⟨Nat.le_of_ble_eq_true rfl, Nat.le_of_ble_eq_true rfl⟩) Ct.nil hl.1 rfl rfl (Nat.le_of_ble_eq_true rfl) dX4_leastStep_51 ⟨Nat.le_of_ble_eq_true rfl, Nat.le_of_ble_eq_true rfl⟩ (st1 := [.int x19, .int a1, .ref (qs 27 q 10)]) rfl (fun H locs hw => ?_)
            have i21 := ck_in h
            replace h := ck_nx h
            refine x_iast cx hw 37 rfl i21 dX4_leastStep_54 (fun H locs hw => ?_)
            obtain ⟨d22, ed22, h⟩ := lt_ex h
            have hw : Wd g (va_A ((XC g q d)) s.heap.size) ((XC g q d22)) s H locs := by rw [ed22]; exact hw
            refine lv_aload_n hx hb dX4_leastStep_55 rfl (lv_at hl 0 rfl) ?_
            refine gf_X4_19 cx hw 0 rfl rfl dX4_leastStep_56 ?_
            refine lv_iload_n hx hb dX4_leastStep_59 rfl (lv_at hl 2 rfl) ?_
            obtain ⟨x23, g24, h⟩ := bd_ex h
            refine c_V (As := [.int a2]) (rest := []) (w' := (XC g q d22)) cx hw (c_X3_heirFor l g (qs 27 q) N a2 (x_trial d22) x23 g24) (cl_X4_131 cx.1.2.2.2.2 ⟨Nat.le_of_ble_eq_true rfl, Nat.le_of_ble_eq_true rfl⟩) (x_recv cx hw (ci := 3) rfl 27 rfl) (ct_X__27_28_29_30_31_32_33_34_35_36_37_38_39__V g q d22 ) hl.1 rfl rfl (Nat.le_of_ble_eq_true rfl) dX4_leastStep_60 ⟨Nat.le_of_ble_eq_true rfl, Nat.le_of_ble_eq_true rfl⟩ (st1 := [.int x23]) rfl (fun H locs hw => ?_)
            refine lv_iload_n hx hb dX4_leastStep_63 rfl (lv_at hl 3 rfl) ?_
            refine lv_icmp_ne (tgt := 76) hx hb dX4_leastStep_64 (by decide) (fun c25 => ?_) (fun c25 => ?_)
            · replace h := ite_f c25 h
              obtain ⟨x26, ex26⟩ : ∃ y : Int32, y = (a5 + 1) := ⟨_, rfl⟩
              replace h := lt_nx ex26 h
              refine lv_iinc (v := x26) (lv' := [(5, .int x26), (0, .ref (q 0)), (1, .int a1), (2, .int a2), (3, .int a3), (4, .int a4)]) hx hb dX4_leastStep_76 hl (k := 5) rfl (by rw [ex26]; rfl) (by decide) rfl (fun ls hl => ?_)
              refine lv_goto (tgt := 24) hx hb dX4_leastStep_79 (by decide) ?_
              exact ih24 a1 a2 a3 a4 x26 d22 _ _ _ hw (lv_sub hl [1, 2, 3, 4, 5, 0] rfl) h
            · replace h := ite_t c25 h
              refine lv_bipush (v := 10) hx hb dX4_leastStep_67 (by decide) ?_
              refine lv_iload hx hb dX4_leastStep_69 (lv_at hl 4 rfl) ?_
              refine lv_imul hx hb dX4_leastStep_71 ?_
              refine lv_iload hx hb dX4_leastStep_72 (lv_at hl 5 rfl) ?_
              refine lv_iadd hx hb dX4_leastStep_74 ?_
              exact r_i cx hr hlocks hw (pr1 h) (congrArg (fun z0 => (XC g q z0)) (pr2 h)) dX4_leastStep_75
      intro a1 a2 a3 a4 d_ H locs ls hw hl h
      rw [f_X4_leastStep_L14] at h
      refine lv_iload hx hb dX4_leastStep_14 (lv_at hl 4 rfl) ?_
      refine lv_bipush (v := 9) hx hb dX4_leastStep_16 (by decide) ?_
      refine lv_icmp_ge (tgt := 88) hx hb dX4_leastStep_18 (by decide) (fun c27 => ?_) (fun c27 => ?_)
      · replace h := ite_t c27 h
        refine lv_iconst (v := -1) hx hb dX4_leastStep_88 (by decide) ?_
        exact r_i cx hr hlocks hw (pr1 h) (congrArg (fun z0 => (XC g q z0)) (pr2 h)) dX4_leastStep_89
      · replace h := ite_f c27 h
        refine lv_iconst (v := 0) hx hb dX4_leastStep_21 (by decide) ?_
        refine lv_istore (lv' := [(5, .int (0 : Int32)), (0, .ref (q 0)), (1, .int a1), (2, .int a2), (3, .int a3), (4, .int a4)]) hx hb dX4_leastStep_22 hl (by decide) rfl (fun ls hl => ?_)
        exact L24 N a1 a2 a3 a4 (0 : Int32) d_ _ _ _ hw (lv_sub hl [1, 2, 3, 4, 5, 0] rfl) h
  unfold f_X4_leastStep at h
  refine lv_aload_n hx hb dX4_leastStep_0 rfl (lv_at hl 0 rfl) ?_
  refine gf_X4_19 cx hw 0 rfl rfl dX4_leastStep_1 ?_
  refine lv_aload_n hx hb dX4_leastStep_4 rfl (lv_at hl 0 rfl) ?_
  refine gf_X4_12 cx hw 0 rfl rfl dX4_leastStep_5 ?_
  obtain ⟨d1, g2, h⟩ := bd_ex h
  refine c_V (As := [.ref (qs 1 q 0)]) (rest := []) (w' := (XC g q (x_set_trial d d1))) cx hw (c_X3_takeFrom l g (qs 27 q) (qs 1 q) N  (x_trial d) (x_valley d) d1 g2) (cl_X4_164 cx.1.2.2.2.2 ⟨Nat.le_of_ble_eq_true rfl, Nat.le_of_ble_eq_true rfl⟩) (x_recv cx hw (ci := 3) rfl 27 rfl) (ct_X__27_28_29_30_31_32_33_34_35_36_37_38_39_1_2_3_4_5_6_7_8_9_10_11_12_13__V_V_0 g q d d1) hl.1 rfl rfl (Nat.le_of_ble_eq_true rfl) dX4_leastStep_8 ⟨Nat.le_of_ble_eq_true rfl, Nat.le_of_ble_eq_true rfl⟩ (st1 := []) rfl (fun H locs hw => ?_)
  obtain ⟨d3, ed3, h⟩ := lt_ex h
  have hw : Wd g (va_A ((XC g q d)) s.heap.size) ((XC g q d3)) s H locs := by rw [ed3]; exact hw
  refine lv_iconst (v := 0) hx hb dX4_leastStep_11 (by decide) ?_
  refine lv_istore (lv' := [(4, .int (0 : Int32)), (0, .ref (q 0)), (1, .int p1), (2, .int p2), (3, .int p3)]) hx hb dX4_leastStep_12 hl (by decide) rfl (fun ls hl => ?_)
  exact L14 N p1 p2 p3 (0 : Int32) d3 _ _ _ hw (lv_sub hl [1, 2, 3, 4, 0] rfl) h
set_option maxHeartbeats 4000000 in
set_option maxRecDepth 100000 in
theorem c_X4_change (l : Launch) (g : gE) (q : Nat → Nat) (N : Nat) (p1 : Int32) (p2 : Int32) (d : XD) (r : Int32) (d' : XD) (h : f_X4_change N  p1 p2 d = some (r, d')) : MO l yX4_change (Cond.code yX4_change cX4_change 4 (some .int) :: TB) rm_X4_change [.ref (q 0), .int p1, .int p2] g ((XC g q d)) ((XC g q d')) (some (.int r)) 0 0 := by
  refine MO.of (cc := cX4_change) (maxL := 4) (ret := (some .int)) (by decide) ?_
  intro p e s m below meth c cx hw hr hlocks _
  have hx := cx.1.1
  have hb := cx.1.2.1
  refine en_go (lv := [(0, .ref (q 0)), (1, .int p1), (2, .int p2)]) (Nat.le_of_ble_eq_true rfl) rfl (fun ls hl => ?_)
  unfold f_X4_change at h
  refine lv_aload_n hx hb dX4_change_0 rfl (lv_at hl 0 rfl) ?_
  refine lv_iload_n hx hb dX4_change_1 rfl (lv_at hl 1 rfl) ?_
  refine lv_iload_n hx hb dX4_change_2 rfl (lv_at hl 2 rfl) ?_
  obtain ⟨x1, g2, h⟩ := bd_ex h
  refine c_V (As := [.int p1, .int p2]) (rest := []) (w' := (XC g q d)) cx hw (c_X4_areTwo l g q N p1 p2 d x1 g2) (cl_X4_117 cx.1.2.2.2.2 ⟨Nat.le_of_ble_eq_true rfl, Nat.le_of_ble_eq_true rfl⟩) (x_recv cx hw (ci := 4) rfl 0 rfl) (Ct.all (XC_ll ..)) hl.1 rfl rfl (Nat.le_of_ble_eq_true rfl) dX4_change_3 ⟨Nat.le_of_ble_eq_true rfl, Nat.le_of_ble_eq_true rfl⟩ (st1 := [.int x1]) rfl (fun H locs hw => ?_)
  refine lv_if_ne (tgt := 16) hx hb dX4_change_6 (by decide) (fun c3 => ?_) (fun c3 => ?_)
  · replace h := ite_f c3 h
    refine lv_aload_n hx hb dX4_change_16 rfl (lv_at hl 0 rfl) ?_
    refine gf_X4_12 cx hw 0 rfl rfl dX4_change_17 ?_
    refine lv_iload_n hx hb dX4_change_20 rfl (lv_at hl 1 rfl) ?_
    obtain ⟨x4, g5, h⟩ := bd_ex h
    refine c_V (As := [.int p1]) (rest := []) (w' := (XC g q d)) cx hw (c_X3_lives l g (qs 1 q) N p1 (x_valley d) x4 g5) (cl_X4_90 cx.1.2.2.2.2 ⟨Nat.le_of_ble_eq_true rfl, Nat.le_of_ble_eq_true rfl⟩) (x_recv cx hw (ci := 3) rfl 1 rfl) (ct_X__1_2_3_4_5_6_7_8_9_10_11_12_13__V g q d ) hl.1 rfl rfl (Nat.le_of_ble_eq_true rfl) dX4_change_21 ⟨Nat.le_of_ble_eq_true rfl, Nat.le_of_ble_eq_true rfl⟩ (st1 := [.int x4]) rfl (fun H locs hw => ?_)
    refine lv_if_eq (tgt := 39) hx hb dX4_change_24 (by decide) (fun c6 => ?_) (fun c6 => ?_)
    · replace h := ite_t c6 h
      refine lv_aload_n hx hb dX4_change_39 rfl (lv_at hl 0 rfl) ?_
      refine lv_ldc hx hb cx.1.2.2.2.1 (cx.1.2.2.2.2 _ tw_2_130) dX4_change_40 ?_
      obtain ⟨x7, d8, g9, h⟩ := bd2_ex h
      refine c_V (As := [.int (-1000000005 : Int32)]) (rest := []) (w' := (XC g q d8)) cx hw (c_X4_tell l g q N (-1000000005 : Int32) d x7 d8 g9) (cl_X4_45 cx.1.2.2.2.2 ⟨Nat.le_of_ble_eq_true rfl, Nat.le_of_ble_eq_true rfl⟩) (x_recv cx hw (ci := 4) rfl 0 rfl) (Ct.all (XC_ll ..)) hl.1 rfl rfl (Nat.le_of_ble_eq_true rfl) dX4_change_42 ⟨Nat.le_of_ble_eq_true rfl, Nat.le_of_ble_eq_true rfl⟩ (st1 := [.int x7]) rfl (fun H locs hw => ?_)
      exact r_i cx hr hlocks hw (pr1 h) (congrArg (fun z0 => (XC g q z0)) (pr2 h)) dX4_change_45
    · replace h := ite_f c6 h
      refine lv_aload_n hx hb dX4_change_27 rfl (lv_at hl 0 rfl) ?_
      refine gf_X4_12 cx hw 0 rfl rfl dX4_change_28 ?_
      refine lv_iload_n hx hb dX4_change_31 rfl (lv_at hl 2 rfl) ?_
      obtain ⟨x10, g11, h⟩ := bd_ex h
      refine c_V (As := [.int p2]) (rest := []) (w' := (XC g q d)) cx hw (c_X3_heirFor l g (qs 1 q) N p2 (x_valley d) x10 g11) (cl_X4_131 cx.1.2.2.2.2 ⟨Nat.le_of_ble_eq_true rfl, Nat.le_of_ble_eq_true rfl⟩) (x_recv cx hw (ci := 3) rfl 1 rfl) (ct_X__1_2_3_4_5_6_7_8_9_10_11_12_13__V g q d ) hl.1 rfl rfl (Nat.le_of_ble_eq_true rfl) dX4_change_32 ⟨Nat.le_of_ble_eq_true rfl, Nat.le_of_ble_eq_true rfl⟩ (st1 := [.int x10]) rfl (fun H locs hw => ?_)
      refine lv_iload_n hx hb dX4_change_35 rfl (lv_at hl 1 rfl) ?_
      refine lv_icmp_ne (tgt := 46) hx hb dX4_change_36 (by decide) (fun c12 => ?_) (fun c12 => ?_)
      · replace h := ite_f c12 h
        refine lv_aload_n hx hb dX4_change_46 rfl (lv_at hl 0 rfl) ?_
        refine lv_iload_n hx hb dX4_change_47 rfl (lv_at hl 1 rfl) ?_
        refine lv_iload_n hx hb dX4_change_48 rfl (lv_at hl 2 rfl) ?_
        refine lv_iload_n hx hb dX4_change_49 rfl (lv_at hl 1 rfl) ?_
        obtain ⟨x13, d14, g15, h⟩ := bd2_ex h
        refine c_V (As := [.int p1, .int p2, .int p1]) (rest := []) (w' := (XC g q d14)) cx hw (c_X4_leastStep l g q N p1 p2 p1 d x13 d14 g15) (cl_X4_177 cx.1.2.2.2.2 ⟨Nat.le_of_ble_eq_true rfl, Nat.le_of_ble_eq_true rfl⟩) (x_recv cx hw (ci := 4) rfl 0 rfl) (Ct.all (XC_ll ..)) hl.1 rfl rfl (Nat.le_of_ble_eq_true rfl) dX4_change_50 ⟨Nat.le_of_ble_eq_true rfl, Nat.le_of_ble_eq_true rfl⟩ (st1 := [.int x13]) rfl (fun H locs hw => ?_)
        refine lv_istore_n (lv' := [(3, .int x13), (0, .ref (q 0)), (1, .int p1), (2, .int p2)]) hx hb dX4_change_53 rfl hl (by decide) rfl (fun ls hl => ?_)
        refine lv_iload_n hx hb dX4_change_54 rfl (lv_at hl 0 rfl) ?_
        refine lv_iconst (v := -1) hx hb dX4_change_55 (by decide) ?_
        refine lv_icmp_ne (tgt := 68) hx hb dX4_change_56 (by decide) (fun c16 => ?_) (fun c16 => ?_)
        · replace h := ite_f c16 h
          refine lv_iload_n hx hb dX4_change_68 rfl (lv_at hl 0 rfl) ?_
          exact r_i cx hr hlocks hw (pr1 h) (congrArg (fun z0 => (XC g q z0)) (pr2 h)) dX4_change_69
        · replace h := ite_t c16 h
          refine lv_aload_n hx hb dX4_change_59 rfl (lv_at hl 1 rfl) ?_
          refine lv_ldc hx hb cx.1.2.2.2.1 (cx.1.2.2.2.2 _ tw_2_92) dX4_change_60 ?_
          obtain ⟨x17, d18, g19, h⟩ := bd2_ex h
          refine c_V (As := [.int (-1000000004 : Int32)]) (rest := []) (w' := (XC g q d18)) cx hw (c_X4_tell l g q N (-1000000004 : Int32) d14 x17 d18 g19) (cl_X4_45 cx.1.2.2.2.2 ⟨Nat.le_of_ble_eq_true rfl, Nat.le_of_ble_eq_true rfl⟩) (x_recv cx hw (ci := 4) rfl 0 rfl) (Ct.all (XC_ll ..)) hl.1 rfl rfl (Nat.le_of_ble_eq_true rfl) dX4_change_62 ⟨Nat.le_of_ble_eq_true rfl, Nat.le_of_ble_eq_true rfl⟩ (st1 := [.int x17]) rfl (fun H locs hw => ?_)
          refine lv_goto (tgt := 69) hx hb dX4_change_65 (by decide) ?_
          exact r_i cx hr hlocks hw (pr1 h) (congrArg (fun z0 => (XC g q z0)) (pr2 h)) dX4_change_69
      · replace h := ite_t c12 h
        refine lv_aload_n hx hb dX4_change_39 rfl (lv_at hl 0 rfl) ?_
        refine lv_ldc hx hb cx.1.2.2.2.1 (cx.1.2.2.2.2 _ tw_2_130) dX4_change_40 ?_
        obtain ⟨x20, d21, g22, h⟩ := bd2_ex h
        refine c_V (As := [.int (-1000000005 : Int32)]) (rest := []) (w' := (XC g q d21)) cx hw (c_X4_tell l g q N (-1000000005 : Int32) d x20 d21 g22) (cl_X4_45 cx.1.2.2.2.2 ⟨Nat.le_of_ble_eq_true rfl, Nat.le_of_ble_eq_true rfl⟩) (x_recv cx hw (ci := 4) rfl 0 rfl) (Ct.all (XC_ll ..)) hl.1 rfl rfl (Nat.le_of_ble_eq_true rfl) dX4_change_42 ⟨Nat.le_of_ble_eq_true rfl, Nat.le_of_ble_eq_true rfl⟩ (st1 := [.int x20]) rfl (fun H locs hw => ?_)
        exact r_i cx hr hlocks hw (pr1 h) (congrArg (fun z0 => (XC g q z0)) (pr2 h)) dX4_change_45
  · replace h := ite_t c3 h
    refine lv_aload_n hx hb dX4_change_9 rfl (lv_at hl 0 rfl) ?_
    refine lv_ldc hx hb cx.1.2.2.2.1 (cx.1.2.2.2.2 _ tw_1_202) dX4_change_10 ?_
    obtain ⟨x23, d24, g25, h⟩ := bd2_ex h
    refine c_V (As := [.int (-1000000001 : Int32)]) (rest := []) (w' := (XC g q d24)) cx hw (c_X4_tell l g q N (-1000000001 : Int32) d x23 d24 g25) (cl_X4_45 cx.1.2.2.2.2 ⟨Nat.le_of_ble_eq_true rfl, Nat.le_of_ble_eq_true rfl⟩) (x_recv cx hw (ci := 4) rfl 0 rfl) (Ct.all (XC_ll ..)) hl.1 rfl rfl (Nat.le_of_ble_eq_true rfl) dX4_change_12 ⟨Nat.le_of_ble_eq_true rfl, Nat.le_of_ble_eq_true rfl⟩ (st1 := [.int x23]) rfl (fun H locs hw => ?_)
    exact r_i cx hr hlocks hw (pr1 h) (congrArg (fun z0 => (XC g q z0)) (pr2 h)) dX4_change_15
set_option maxHeartbeats 4000000 in
set_option maxRecDepth 100000 in
theorem c_X4_fewest (l : Launch) (g : gE) (q : Nat → Nat) (N : Nat) (p1 : Int32) (p2 : Int32) (d : XD) (r : Int32) (d' : XD) (h : f_X4_fewest N  p1 p2 d = some (r, d')) : MO l yX4_fewest (Cond.code yX4_fewest cX4_fewest 5 (some .int) :: TB) rm_X4_fewest [.ref (q 0), .int p1, .int p2] g ((XC g q d)) ((XC g q d')) (some (.int r)) 0 0 := by
  refine MO.of (cc := cX4_fewest) (maxL := 5) (ret := (some .int)) (by decide) ?_
  intro p e s m below meth c cx hw hr hlocks _
  have hx := cx.1.1
  have hb := cx.1.2.1
  refine en_go (lv := [(0, .ref (q 0)), (1, .int p1), (2, .int p2)]) (Nat.le_of_ble_eq_true rfl) rfl (fun ls hl => ?_)
  have L51 : ∀ (n51 : Nat) (a1 : Int32) (a2 : Int32) (a3 : Int32) (a4 : Int32) (d_ : XD) (H : Heap) (locs : List Loc) (ls : Array Slot), Wd g (va_A ((XC g q d)) s.heap.size) ((XC g q d_)) s H locs → lv_has ls 5 [(0, .ref (q 0)), (1, .int a1), (2, .int a2), (3, .int a3), (4, .int a4)] → f_X4_fewest_L51 N   n51 a1 a2 a3 a4 d_ = some (r, d') → W p l e rm_X4_fewest s m ([.ref (q 0), .int p1, .int p2] : List Value).toArray below meth c H locs 0 0 (MQ below (QO (some (.int r)) g ((XC g q d')) (va_A ((XC g q d)) s.heap.size)) ([.ref (q 0), .int p1, .int p2] : List Value).toArray s 0 0 (va_A ((XC g q d)) s.heap.size)) (F0 m 51 ls []) := by
    intro n51
    induction n51 with
    | zero => intro a1 a2 a3 a4 d_ H locs ls hw hl h; exact (Option.some_ne_none _ h.symm).elim
    | succ n51 ih51 =>
      intro a1 a2 a3 a4 d_ H locs ls hw hl h
      rw [f_X4_fewest_L51] at h
      refine lv_iload hx hb dX4_fewest_51 (lv_at hl 4 rfl) ?_
      refine lv_sipush (v := 511) hx hb dX4_fewest_53 (by decide) ?_
      refine lv_icmp_gt (tgt := 119) hx hb dX4_fewest_56 (by decide) (fun c35 => ?_) (fun c35 => ?_)
      · replace h := ite_t c35 h
        refine lv_iload_n hx hb dX4_fewest_119 rfl (lv_at hl 3 rfl) ?_
        refine lv_bipush (v := 9) hx hb dX4_fewest_120 (by decide) ?_
        refine lv_icmp_le (tgt := 134) hx hb dX4_fewest_122 (by decide) (fun c36 => ?_) (fun c36 => ?_)
        · replace h := ite_t c36 h
          refine lv_iload_n hx hb dX4_fewest_134 rfl (lv_at hl 3 rfl) ?_
          exact r_i cx hr hlocks hw (pr1 h) (congrArg (fun z0 => (XC g q z0)) (pr2 h)) dX4_fewest_135
        · replace h := ite_f c36 h
          refine lv_aload_n hx hb dX4_fewest_125 rfl (lv_at hl 0 rfl) ?_
          refine lv_ldc hx hb cx.1.2.2.2.1 (cx.1.2.2.2.2 _ tw_2_92) dX4_fewest_126 ?_
          obtain ⟨x37, d38, g39, h⟩ := bd2_ex h
          refine c_V (As := [.int (-1000000004 : Int32)]) (rest := []) (w' := (XC g q d38)) cx hw (c_X4_tell l g q N (-1000000004 : Int32) d_ x37 d38 g39) (cl_X4_45 cx.1.2.2.2.2 ⟨Nat.le_of_ble_eq_true rfl, Nat.le_of_ble_eq_true rfl⟩) (x_recv cx hw (ci := 4) rfl 0 rfl) (Ct.all (XC_ll ..)) hl.1 rfl rfl (Nat.le_of_ble_eq_true rfl) dX4_fewest_128 ⟨Nat.le_of_ble_eq_true rfl, Nat.le_of_ble_eq_true rfl⟩ (st1 := [.int x37]) rfl (fun H locs hw => ?_)
          refine lv_goto (tgt := 135) hx hb dX4_fewest_131 (by decide) ?_
          exact r_i cx hr hlocks hw (pr1 h) (congrArg (fun z0 => (XC g q z0)) (pr2 h)) dX4_fewest_135
      · replace h := ite_f c35 h
        refine lv_aload_n hx hb dX4_fewest_59 rfl (lv_at hl 0 rfl) ?_
        refine gf_X4_19 cx hw 0 rfl rfl dX4_fewest_60 ?_
        refine gf_X4_102 cx hw 27 rfl rfl dX4_fewest_63 ?_
        refine lv_iload_n hx hb dX4_fewest_66 rfl (lv_at hl 1 rfl) ?_
        refine lv_aload_n hx hb dX4_fewest_67 rfl (lv_at hl 0 rfl) ?_
        refine gf_X4_12 cx hw 0 rfl rfl dX4_fewest_68 ?_
        refine gf_X4_102 cx hw 1 rfl rfl dX4_fewest_71 ?_
        refine lv_iload_n hx hb dX4_fewest_74 rfl (lv_at hl 1 rfl) ?_
        have ix40 := rd_in h
        refine x_iald cx hw 11 rfl ix40 dX4_fewest_75 ?_
        refine lv_topi (fun x40 ex40 => ?_)
        replace h := rd_nx ex40 h
        refine lv_aload_n hx hb dX4_fewest_76 rfl (lv_at hl 0 rfl) ?_
        refine gf_X4_12 cx hw 0 rfl rfl dX4_fewest_77 ?_
        refine gf_X4_102 cx hw 1 rfl rfl dX4_fewest_80 ?_
        refine lv_iload_n hx hb dX4_fewest_83 rfl (lv_at hl 2 rfl) ?_
        have ix41 := rd_in h
        refine x_iald cx hw 11 rfl ix41 dX4_fewest_84 ?_
        refine lv_topi (fun x41 ex41 => ?_)
        replace h := rd_nx ex41 h
        refine lv_iload hx hb dX4_fewest_85 (lv_at hl 4 rfl) ?_
        obtain ⟨x42, g43, h⟩ := bd_ex h
        refine c_S (As := [.int x40, .int x41, .int a4]) (rest := [.int a1, .ref (qs 27 q 10)]) (w' := (XC g q d_)) cx hw (c_X4_copied l g  N x40 x41 a4  x42 g43) (cl_X4_180 cx.1.2.2.2.2 ⟨Nat.le_of_ble_eq_true rfl, Nat.le_of_ble_eq_true rfl⟩) Ct.nil hl.1 rfl rfl (Nat.le_of_ble_eq_true rfl) dX4_fewest_87 ⟨Nat.le_of_ble_eq_true rfl, Nat.le_of_ble_eq_true rfl⟩ (st1 := [.int x42, .int a1, .ref (qs 27 q 10)]) rfl (fun H locs hw => ?_)
        have i44 := ck_in h
        replace h := ck_nx h
        refine x_iast cx hw 37 rfl i44 dX4_fewest_90 (fun H locs hw => ?_)
        obtain ⟨d45, ed45, h⟩ := lt_ex h
        have hw : Wd g (va_A ((XC g q d)) s.heap.size) ((XC g q d45)) s H locs := by rw [ed45]; exact hw
        refine lv_aload_n hx hb dX4_fewest_91 rfl (lv_at hl 0 rfl) ?_
        refine gf_X4_19 cx hw 0 rfl rfl dX4_fewest_92 ?_
        refine lv_iload_n hx hb dX4_fewest_95 rfl (lv_at hl 2 rfl) ?_
        obtain ⟨x46, g47, h⟩ := bd_ex h
        refine c_V (As := [.int a2]) (rest := []) (w' := (XC g q d45)) cx hw (c_X3_heirFor l g (qs 27 q) N a2 (x_trial d45) x46 g47) (cl_X4_131 cx.1.2.2.2.2 ⟨Nat.le_of_ble_eq_true rfl, Nat.le_of_ble_eq_true rfl⟩) (x_recv cx hw (ci := 3) rfl 27 rfl) (ct_X__27_28_29_30_31_32_33_34_35_36_37_38_39__V g q d45 ) hl.1 rfl rfl (Nat.le_of_ble_eq_true rfl) dX4_fewest_96 ⟨Nat.le_of_ble_eq_true rfl, Nat.le_of_ble_eq_true rfl⟩ (st1 := [.int x46]) rfl (fun H locs hw => ?_)
        refine lv_iload_n hx hb dX4_fewest_99 rfl (lv_at hl 1 rfl) ?_
        refine lv_icmp_ne (tgt := 113) hx hb dX4_fewest_100 (by decide) (fun c48 => ?_) (fun c48 => ?_)
        · replace h := ite_f c48 h
          obtain ⟨x49, ex49⟩ : ∃ y : Int32, y = (a4 + 1) := ⟨_, rfl⟩
          replace h := lt_nx ex49 h
          refine lv_iinc (v := x49) (lv' := [(4, .int x49), (0, .ref (q 0)), (1, .int a1), (2, .int a2), (3, .int a3)]) hx hb dX4_fewest_113 hl (k := 4) rfl (by rw [ex49]; rfl) (by decide) rfl (fun ls hl => ?_)
          refine lv_goto (tgt := 51) hx hb dX4_fewest_116 (by decide) ?_
          exact ih51 a1 a2 a3 x49 d45 _ _ _ hw (lv_sub hl [1, 2, 3, 4, 0] rfl) h
        · replace h := ite_t c48 h
          refine lv_iload_n hx hb dX4_fewest_103 rfl (lv_at hl 3 rfl) ?_
          refine lv_iload hx hb dX4_fewest_104 (lv_at hl 4 rfl) ?_
          obtain ⟨x50, g51, h⟩ := bd_ex h
          refine c_S (As := [.int a4]) (rest := [.int a3]) (w' := (XC g q d45)) cx hw (c_J6_bitCount_0f7a4 l g  N a4  x50 g51) (cl_X4_126 cx.1.2.2.2.2 ⟨Nat.le_of_ble_eq_true rfl, Nat.le_of_ble_eq_true rfl⟩) Ct.nil hl.1 rfl rfl (Nat.le_of_ble_eq_true rfl) dX4_fewest_106 ⟨Nat.le_of_ble_eq_true rfl, Nat.le_of_ble_eq_true rfl⟩ (st1 := [.int x50, .int a3]) rfl (fun H locs hw => ?_)
          refine va_mmin hx hb (cx.1.2.2.1.trans hl.1.symm) cx.1.2.2.2.1 (cx.1.2.2.2.2 _ tw_2_210) (cx.1.2.2.2.2 _ tw_2_142) (cx.1.2.2.2.2 _ tw_1_9) (cx.1.2.2.2.2 _ tw_2_143) (Nat.le_of_ble_eq_true rfl) (Nat.le_of_ble_eq_true rfl) (Nat.le_of_ble_eq_true rfl) (Nat.le_of_ble_eq_true rfl) dX4_fewest_109 ?_
          refine lv_topi (fun x52 ex52 => ?_)
          replace h := lt_nx ex52 h
          refine lv_istore_n (lv' := [(3, .int x52), (0, .ref (q 0)), (1, .int a1), (2, .int a2), (4, .int a4)]) hx hb dX4_fewest_112 rfl hl (by decide) rfl (fun ls hl => ?_)
          obtain ⟨x53, ex53⟩ : ∃ y : Int32, y = (a4 + 1) := ⟨_, rfl⟩
          replace h := lt_nx ex53 h
          refine lv_iinc (v := x53) (lv' := [(4, .int x53), (3, .int x52), (0, .ref (q 0)), (1, .int a1), (2, .int a2)]) hx hb dX4_fewest_113 hl (k := 4) rfl (by rw [ex53]; rfl) (by decide) rfl (fun ls hl => ?_)
          refine lv_goto (tgt := 51) hx hb dX4_fewest_116 (by decide) ?_
          exact ih51 a1 a2 x52 x53 d45 _ _ _ hw (lv_sub hl [2, 3, 4, 1, 0] rfl) h
  unfold f_X4_fewest at h
  refine lv_aload_n hx hb dX4_fewest_0 rfl (lv_at hl 0 rfl) ?_
  refine lv_iload_n hx hb dX4_fewest_1 rfl (lv_at hl 1 rfl) ?_
  refine lv_iload_n hx hb dX4_fewest_2 rfl (lv_at hl 2 rfl) ?_
  obtain ⟨x1, g2, h⟩ := bd_ex h
  refine c_V (As := [.int p1, .int p2]) (rest := []) (w' := (XC g q d)) cx hw (c_X4_areTwo l g q N p1 p2 d x1 g2) (cl_X4_117 cx.1.2.2.2.2 ⟨Nat.le_of_ble_eq_true rfl, Nat.le_of_ble_eq_true rfl⟩) (x_recv cx hw (ci := 4) rfl 0 rfl) (Ct.all (XC_ll ..)) hl.1 rfl rfl (Nat.le_of_ble_eq_true rfl) dX4_fewest_3 ⟨Nat.le_of_ble_eq_true rfl, Nat.le_of_ble_eq_true rfl⟩ (st1 := [.int x1]) rfl (fun H locs hw => ?_)
  refine lv_if_ne (tgt := 16) hx hb dX4_fewest_6 (by decide) (fun c3 => ?_) (fun c3 => ?_)
  · replace h := ite_f c3 h
    refine lv_aload_n hx hb dX4_fewest_16 rfl (lv_at hl 0 rfl) ?_
    refine gf_X4_12 cx hw 0 rfl rfl dX4_fewest_17 ?_
    refine lv_iload_n hx hb dX4_fewest_20 rfl (lv_at hl 1 rfl) ?_
    obtain ⟨x4, g5, h⟩ := bd_ex h
    refine c_V (As := [.int p1]) (rest := []) (w' := (XC g q d)) cx hw (c_X3_lives l g (qs 1 q) N p1 (x_valley d) x4 g5) (cl_X4_90 cx.1.2.2.2.2 ⟨Nat.le_of_ble_eq_true rfl, Nat.le_of_ble_eq_true rfl⟩) (x_recv cx hw (ci := 3) rfl 1 rfl) (ct_X__1_2_3_4_5_6_7_8_9_10_11_12_13__V g q d ) hl.1 rfl rfl (Nat.le_of_ble_eq_true rfl) dX4_fewest_21 ⟨Nat.le_of_ble_eq_true rfl, Nat.le_of_ble_eq_true rfl⟩ (st1 := [.int x4]) rfl (fun H locs hw => ?_)
    refine lv_if_ne (tgt := 34) hx hb dX4_fewest_24 (by decide) (fun c6 => ?_) (fun c6 => ?_)
    · replace h := ite_f c6 h
      refine lv_aload_n hx hb dX4_fewest_34 rfl (lv_at hl 0 rfl) ?_
      refine gf_X4_19 cx hw 0 rfl rfl dX4_fewest_35 ?_
      refine lv_aload_n hx hb dX4_fewest_38 rfl (lv_at hl 0 rfl) ?_
      refine gf_X4_12 cx hw 0 rfl rfl dX4_fewest_39 ?_
      obtain ⟨d7, g8, h⟩ := bd_ex h
      refine c_V (As := [.ref (qs 1 q 0)]) (rest := []) (w' := (XC g q (x_set_trial d d7))) cx hw (c_X3_takeFrom l g (qs 27 q) (qs 1 q) N  (x_trial d) (x_valley d) d7 g8) (cl_X4_164 cx.1.2.2.2.2 ⟨Nat.le_of_ble_eq_true rfl, Nat.le_of_ble_eq_true rfl⟩) (x_recv cx hw (ci := 3) rfl 27 rfl) (ct_X__27_28_29_30_31_32_33_34_35_36_37_38_39_1_2_3_4_5_6_7_8_9_10_11_12_13__V_V_0 g q d d7) hl.1 rfl rfl (Nat.le_of_ble_eq_true rfl) dX4_fewest_42 ⟨Nat.le_of_ble_eq_true rfl, Nat.le_of_ble_eq_true rfl⟩ (st1 := []) rfl (fun H locs hw => ?_)
      obtain ⟨d9, ed9, h⟩ := lt_ex h
      have hw : Wd g (va_A ((XC g q d)) s.heap.size) ((XC g q d9)) s H locs := by rw [ed9]; exact hw
      refine lv_bipush (v := 10) hx hb dX4_fewest_45 (by decide) ?_
      refine lv_istore_n (lv' := [(3, .int (10 : Int32)), (0, .ref (q 0)), (1, .int p1), (2, .int p2)]) hx hb dX4_fewest_47 rfl hl (by decide) rfl (fun ls hl => ?_)
      refine lv_iconst (v := 0) hx hb dX4_fewest_48 (by decide) ?_
      refine lv_istore (lv' := [(4, .int (0 : Int32)), (3, .int (10 : Int32)), (0, .ref (q 0)), (1, .int p1), (2, .int p2)]) hx hb dX4_fewest_49 hl (by decide) rfl (fun ls hl => ?_)
      exact L51 N p1 p2 (10 : Int32) (0 : Int32) d9 _ _ _ hw (lv_sub hl [2, 3, 4, 1, 0] rfl) h
    · replace h := ite_t c6 h
      refine lv_aload_n hx hb dX4_fewest_27 rfl (lv_at hl 0 rfl) ?_
      refine lv_ldc hx hb cx.1.2.2.2.1 (cx.1.2.2.2.2 _ tw_2_130) dX4_fewest_28 ?_
      obtain ⟨x10, d11, g12, h⟩ := bd2_ex h
      refine c_V (As := [.int (-1000000005 : Int32)]) (rest := []) (w' := (XC g q d11)) cx hw (c_X4_tell l g q N (-1000000005 : Int32) d x10 d11 g12) (cl_X4_45 cx.1.2.2.2.2 ⟨Nat.le_of_ble_eq_true rfl, Nat.le_of_ble_eq_true rfl⟩) (x_recv cx hw (ci := 4) rfl 0 rfl) (Ct.all (XC_ll ..)) hl.1 rfl rfl (Nat.le_of_ble_eq_true rfl) dX4_fewest_30 ⟨Nat.le_of_ble_eq_true rfl, Nat.le_of_ble_eq_true rfl⟩ (st1 := [.int x10]) rfl (fun H locs hw => ?_)
      exact r_i cx hr hlocks hw (pr1 h) (congrArg (fun z0 => (XC g q z0)) (pr2 h)) dX4_fewest_33
  · replace h := ite_t c3 h
    refine lv_aload_n hx hb dX4_fewest_9 rfl (lv_at hl 0 rfl) ?_
    refine lv_ldc hx hb cx.1.2.2.2.1 (cx.1.2.2.2.2 _ tw_1_202) dX4_fewest_10 ?_
    obtain ⟨x13, d14, g15, h⟩ := bd2_ex h
    refine c_V (As := [.int (-1000000001 : Int32)]) (rest := []) (w' := (XC g q d14)) cx hw (c_X4_tell l g q N (-1000000001 : Int32) d x13 d14 g15) (cl_X4_45 cx.1.2.2.2.2 ⟨Nat.le_of_ble_eq_true rfl, Nat.le_of_ble_eq_true rfl⟩) (x_recv cx hw (ci := 4) rfl 0 rfl) (Ct.all (XC_ll ..)) hl.1 rfl rfl (Nat.le_of_ble_eq_true rfl) dX4_fewest_12 ⟨Nat.le_of_ble_eq_true rfl, Nat.le_of_ble_eq_true rfl⟩ (st1 := [.int x13]) rfl (fun H locs hw => ?_)
    exact r_i cx hr hlocks hw (pr1 h) (congrArg (fun z0 => (XC g q z0)) (pr2 h)) dX4_fewest_15
set_option maxHeartbeats 4000000 in
set_option maxRecDepth 100000 in
theorem c_X4_worth (l : Launch) (g : gE) (q : Nat → Nat) (N : Nat) (p1 : Int32) (p2 : Int32) (d : XD) (r : Int32) (d' : XD) (h : f_X4_worth N  p1 p2 d = some (r, d')) : MO l yX4_worth (Cond.code yX4_worth cX4_worth 4 (some .int) :: TB) rm_X4_worth [.ref (q 0), .int p1, .int p2] g ((XC g q d)) ((XC g q d')) (some (.int r)) 0 0 := by
  refine MO.of (cc := cX4_worth) (maxL := 4) (ret := (some .int)) (by decide) ?_
  intro p e s m below meth c cx hw hr hlocks _
  have hx := cx.1.1
  have hb := cx.1.2.1
  refine en_go (lv := [(0, .ref (q 0)), (1, .int p1), (2, .int p2)]) (Nat.le_of_ble_eq_true rfl) rfl (fun ls hl => ?_)
  unfold f_X4_worth at h
  refine lv_aload_n hx hb dX4_worth_0 rfl (lv_at hl 0 rfl) ?_
  refine lv_iload_n hx hb dX4_worth_1 rfl (lv_at hl 1 rfl) ?_
  obtain ⟨x1, g2, h⟩ := bd_ex h
  refine c_V (As := [.int p1]) (rest := []) (w' := (XC g q d)) cx hw (c_X4_isOne l g q N p1 d x1 g2) (cl_X4_72 cx.1.2.2.2.2 ⟨Nat.le_of_ble_eq_true rfl, Nat.le_of_ble_eq_true rfl⟩) (x_recv cx hw (ci := 4) rfl 0 rfl) (Ct.all (XC_ll ..)) hl.1 rfl rfl (Nat.le_of_ble_eq_true rfl) dX4_worth_2 ⟨Nat.le_of_ble_eq_true rfl, Nat.le_of_ble_eq_true rfl⟩ (st1 := [.int x1]) rfl (fun H locs hw => ?_)
  refine lv_if_eq (tgt := 18) hx hb dX4_worth_5 (by decide) (fun c3 => ?_) (fun c3 => ?_)
  · replace h := ite_t c3 h
    refine lv_aload_n hx hb dX4_worth_18 rfl (lv_at hl 0 rfl) ?_
    refine lv_ldc hx hb cx.1.2.2.2.1 (cx.1.2.2.2.2 _ tw_1_202) dX4_worth_19 ?_
    obtain ⟨x4, d5, g6, h⟩ := bd2_ex h
    refine c_V (As := [.int (-1000000001 : Int32)]) (rest := []) (w' := (XC g q d5)) cx hw (c_X4_tell l g q N (-1000000001 : Int32) d x4 d5 g6) (cl_X4_45 cx.1.2.2.2.2 ⟨Nat.le_of_ble_eq_true rfl, Nat.le_of_ble_eq_true rfl⟩) (x_recv cx hw (ci := 4) rfl 0 rfl) (Ct.all (XC_ll ..)) hl.1 rfl rfl (Nat.le_of_ble_eq_true rfl) dX4_worth_21 ⟨Nat.le_of_ble_eq_true rfl, Nat.le_of_ble_eq_true rfl⟩ (st1 := [.int x4]) rfl (fun H locs hw => ?_)
    exact r_i cx hr hlocks hw (pr1 h) (congrArg (fun z0 => (XC g q z0)) (pr2 h)) dX4_worth_24
  · replace h := ite_f c3 h
    refine lv_iload_n hx hb dX4_worth_8 rfl (lv_at hl 2 rfl) ?_
    refine lv_iconst (v := 0) hx hb dX4_worth_9 (by decide) ?_
    refine lv_bipush (v := 8) hx hb dX4_worth_10 (by decide) ?_
    obtain ⟨x7, g8, h⟩ := bd_ex h
    refine c_S (As := [.int p2, .int (0 : Int32), .int (8 : Int32)]) (rest := []) (w' := (XC g q d)) cx hw (c_X4_isWithin l g  N p2 (0 : Int32) (8 : Int32)  x7 g8) (cl_X4_40 cx.1.2.2.2.2 ⟨Nat.le_of_ble_eq_true rfl, Nat.le_of_ble_eq_true rfl⟩) Ct.nil hl.1 rfl rfl (Nat.le_of_ble_eq_true rfl) dX4_worth_12 ⟨Nat.le_of_ble_eq_true rfl, Nat.le_of_ble_eq_true rfl⟩ (st1 := [.int x7]) rfl (fun H locs hw => ?_)
    refine lv_if_ne (tgt := 25) hx hb dX4_worth_15 (by decide) (fun c9 => ?_) (fun c9 => ?_)
    · replace h := ite_f c9 h
      refine lv_aload_n hx hb dX4_worth_25 rfl (lv_at hl 0 rfl) ?_
      refine gf_X4_12 cx hw 0 rfl rfl dX4_worth_26 ?_
      refine gf_X4_102 cx hw 1 rfl rfl dX4_worth_29 ?_
      refine lv_iload_n hx hb dX4_worth_32 rfl (lv_at hl 1 rfl) ?_
      have ix10 := rd_in h
      refine x_iald cx hw 11 rfl ix10 dX4_worth_33 ?_
      refine lv_topi (fun x10 ex10 => ?_)
      replace h := rd_nx ex10 h
      refine lv_istore_n (lv' := [(3, .int x10), (0, .ref (q 0)), (1, .int p1), (2, .int p2)]) hx hb dX4_worth_34 rfl hl (by decide) rfl (fun ls hl => ?_)
      refine lv_aload_n hx hb dX4_worth_35 rfl (lv_at hl 1 rfl) ?_
      refine gf_X4_19 cx hw 0 rfl rfl dX4_worth_36 ?_
      refine lv_aload_n hx hb dX4_worth_39 rfl (lv_at hl 1 rfl) ?_
      refine gf_X4_12 cx hw 0 rfl rfl dX4_worth_40 ?_
      obtain ⟨d11, g12, h⟩ := bd_ex h
      refine c_V (As := [.ref (qs 1 q 0)]) (rest := []) (w' := (XC g q (x_set_trial d d11))) cx hw (c_X3_takeFrom l g (qs 27 q) (qs 1 q) N  (x_trial d) (x_valley d) d11 g12) (cl_X4_164 cx.1.2.2.2.2 ⟨Nat.le_of_ble_eq_true rfl, Nat.le_of_ble_eq_true rfl⟩) (x_recv cx hw (ci := 3) rfl 27 rfl) (ct_X__27_28_29_30_31_32_33_34_35_36_37_38_39_1_2_3_4_5_6_7_8_9_10_11_12_13__V_V_0 g q d d11) hl.1 rfl rfl (Nat.le_of_ble_eq_true rfl) dX4_worth_43 ⟨Nat.le_of_ble_eq_true rfl, Nat.le_of_ble_eq_true rfl⟩ (st1 := []) rfl (fun H locs hw => ?_)
      obtain ⟨d13, ed13, h⟩ := lt_ex h
      have hw : Wd g (va_A ((XC g q d)) s.heap.size) ((XC g q d13)) s H locs := by rw [ed13]; exact hw
      refine lv_aload_n hx hb dX4_worth_46 rfl (lv_at hl 1 rfl) ?_
      refine gf_X4_19 cx hw 0 rfl rfl dX4_worth_47 ?_
      refine gf_X4_102 cx hw 27 rfl rfl dX4_worth_50 ?_
      refine lv_iload_n hx hb dX4_worth_53 rfl (lv_at hl 2 rfl) ?_
      refine lv_iload_n hx hb dX4_worth_54 rfl (lv_at hl 0 rfl) ?_
      refine lv_iload_n hx hb dX4_worth_55 rfl (lv_at hl 3 rfl) ?_
      refine lv_iload_n hx hb dX4_worth_56 rfl (lv_at hl 0 rfl) ?_
      refine lv_iload_n hx hb dX4_worth_57 rfl (lv_at hl 3 rfl) ?_
      obtain ⟨x14, g15, h⟩ := bd_ex h
      refine c_S (As := [.int x10, .int p2]) (rest := [.int p2, .int x10, .int p1, .ref (qs 27 q 10)]) (w' := (XC g q d13)) cx hw (c_X4_wayIn l g  N x10 p2  x14 g15) (cl_X4_105 cx.1.2.2.2.2 ⟨Nat.le_of_ble_eq_true rfl, Nat.le_of_ble_eq_true rfl⟩) Ct.nil hl.1 rfl rfl (Nat.le_of_ble_eq_true rfl) dX4_worth_58 ⟨Nat.le_of_ble_eq_true rfl, Nat.le_of_ble_eq_true rfl⟩ (st1 := [.int x14, .int p2, .int x10, .int p1, .ref (qs 27 q 10)]) rfl (fun H locs hw => ?_)
      obtain ⟨x16, g17, h⟩ := bd_ex h
      refine c_S (As := [.int x14]) (rest := [.int p2, .int x10, .int p1, .ref (qs 27 q 10)]) (w' := (XC g q d13)) cx hw (c_X4_nextWay l g  N x14  x16 g17) (cl_X4_188 cx.1.2.2.2.2 ⟨Nat.le_of_ble_eq_true rfl, Nat.le_of_ble_eq_true rfl⟩) Ct.nil hl.1 rfl rfl (Nat.le_of_ble_eq_true rfl) dX4_worth_61 ⟨Nat.le_of_ble_eq_true rfl, Nat.le_of_ble_eq_true rfl⟩ (st1 := [.int x16, .int p2, .int x10, .int p1, .ref (qs 27 q 10)]) rfl (fun H locs hw => ?_)
      obtain ⟨x18, g19, h⟩ := bd_ex h
      refine c_S (As := [.int x10, .int p2, .int x16]) (rest := [.int p1, .ref (qs 27 q 10)]) (w' := (XC g q d13)) cx hw (c_X4_withWay l g  N x10 p2 x16  x18 g19) (cl_X4_108 cx.1.2.2.2.2 ⟨Nat.le_of_ble_eq_true rfl, Nat.le_of_ble_eq_true rfl⟩) Ct.nil hl.1 rfl rfl (Nat.le_of_ble_eq_true rfl) dX4_worth_64 ⟨Nat.le_of_ble_eq_true rfl, Nat.le_of_ble_eq_true rfl⟩ (st1 := [.int x18, .int p1, .ref (qs 27 q 10)]) rfl (fun H locs hw => ?_)
      have i20 := ck_in h
      replace h := ck_nx h
      refine x_iast cx hw 37 rfl i20 dX4_worth_67 (fun H locs hw => ?_)
      obtain ⟨d21, ed21, h⟩ := lt_ex h
      have hw : Wd g (va_A ((XC g q d)) s.heap.size) ((XC g q d21)) s H locs := by rw [ed21]; exact hw
      refine lv_aload_n hx hb dX4_worth_68 rfl (lv_at hl 1 rfl) ?_
      refine gf_X4_12 cx hw 0 rfl rfl dX4_worth_69 ?_
      refine lv_iload_n hx hb dX4_worth_72 rfl (lv_at hl 2 rfl) ?_
      obtain ⟨x22, g23, h⟩ := bd_ex h
      refine c_V (As := [.int p1]) (rest := []) (w' := (XC g q d21)) cx hw (c_X3_expectedBy l g (qs 1 q) N p1 (x_valley d21) x22 g23) (cl_X4_191 cx.1.2.2.2.2 ⟨Nat.le_of_ble_eq_true rfl, Nat.le_of_ble_eq_true rfl⟩) (x_recv cx hw (ci := 3) rfl 1 rfl) (ct_X__1_2_3_4_5_6_7_8_9_10_11_12_13__V g q d21 ) hl.1 rfl rfl (Nat.le_of_ble_eq_true rfl) dX4_worth_73 ⟨Nat.le_of_ble_eq_true rfl, Nat.le_of_ble_eq_true rfl⟩ (st1 := [.int x22]) rfl (fun H locs hw => ?_)
      refine lv_aload_n hx hb dX4_worth_76 rfl (lv_at hl 1 rfl) ?_
      refine gf_X4_19 cx hw 0 rfl rfl dX4_worth_77 ?_
      refine lv_iload_n hx hb dX4_worth_80 rfl (lv_at hl 2 rfl) ?_
      obtain ⟨x24, g25, h⟩ := bd_ex h
      refine c_V (As := [.int p1]) (rest := [.int x22]) (w' := (XC g q d21)) cx hw (c_X3_expectedBy l g (qs 27 q) N p1 (x_trial d21) x24 g25) (cl_X4_191 cx.1.2.2.2.2 ⟨Nat.le_of_ble_eq_true rfl, Nat.le_of_ble_eq_true rfl⟩) (x_recv cx hw (ci := 3) rfl 27 rfl) (ct_X__27_28_29_30_31_32_33_34_35_36_37_38_39__V g q d21 ) hl.1 rfl rfl (Nat.le_of_ble_eq_true rfl) dX4_worth_81 ⟨Nat.le_of_ble_eq_true rfl, Nat.le_of_ble_eq_true rfl⟩ (st1 := [.int x24, .int x22]) rfl (fun H locs hw => ?_)
      refine lv_isub hx hb dX4_worth_84 ?_
      exact r_i cx hr hlocks hw (pr1 h) (congrArg (fun z0 => (XC g q z0)) (pr2 h)) dX4_worth_85
    · replace h := ite_t c9 h
      refine lv_aload_n hx hb dX4_worth_18 rfl (lv_at hl 0 rfl) ?_
      refine lv_ldc hx hb cx.1.2.2.2.1 (cx.1.2.2.2.2 _ tw_1_202) dX4_worth_19 ?_
      obtain ⟨x26, d27, g28, h⟩ := bd2_ex h
      refine c_V (As := [.int (-1000000001 : Int32)]) (rest := []) (w' := (XC g q d27)) cx hw (c_X4_tell l g q N (-1000000001 : Int32) d x26 d27 g28) (cl_X4_45 cx.1.2.2.2.2 ⟨Nat.le_of_ble_eq_true rfl, Nat.le_of_ble_eq_true rfl⟩) (x_recv cx hw (ci := 4) rfl 0 rfl) (Ct.all (XC_ll ..)) hl.1 rfl rfl (Nat.le_of_ble_eq_true rfl) dX4_worth_21 ⟨Nat.le_of_ble_eq_true rfl, Nat.le_of_ble_eq_true rfl⟩ (st1 := [.int x26]) rfl (fun H locs hw => ?_)
      exact r_i cx hr hlocks hw (pr1 h) (congrArg (fun z0 => (XC g q z0)) (pr2 h)) dX4_worth_24
set_option maxHeartbeats 4000000 in
set_option maxRecDepth 100000 in
theorem c_X4_best (l : Launch) (g : gE) (q : Nat → Nat) (N : Nat) (p1 : Int32) (d : XD) (r : Int32) (d' : XD) (h : f_X4_best N  p1 d = some (r, d')) : MO l yX4_best (Cond.code yX4_best cX4_best 7 (some .int) :: TB) rm_X4_best [.ref (q 0), .int p1] g ((XC g q d)) ((XC g q d')) (some (.int r)) 0 0 := by
  refine MO.of (cc := cX4_best) (maxL := 7) (ret := (some .int)) (by decide) ?_
  intro p e s m below meth c cx hw hr hlocks _
  have hx := cx.1.1
  have hb := cx.1.2.1
  refine en_go (lv := [(0, .ref (q 0)), (1, .int p1)]) (Nat.le_of_ble_eq_true rfl) rfl (fun ls hl => ?_)
  have L51 : ∀ (n51 : Nat) (a1 : Int32) (a2 : Int32) (a3 : Int32) (a4 : Int32) (d_ : XD) (H : Heap) (locs : List Loc) (ls : Array Slot), Wd g (va_A ((XC g q d)) s.heap.size) ((XC g q d_)) s H locs → lv_has ls 7 [(0, .ref (q 0)), (1, .int a1), (2, .int a2), (3, .int a3), (4, .int a4)] → f_X4_best_L51 N   n51 a1 a2 a3 a4 d_ = some (r, d') → W p l e rm_X4_best s m ([.ref (q 0), .int p1] : List Value).toArray below meth c H locs 0 0 (MQ below (QO (some (.int r)) g ((XC g q d')) (va_A ((XC g q d)) s.heap.size)) ([.ref (q 0), .int p1] : List Value).toArray s 0 0 (va_A ((XC g q d)) s.heap.size)) (F0 m 51 ls []) := by
    intro n51
    induction n51 with
    | zero => intro a1 a2 a3 a4 d_ H locs ls hw hl h; exact (Option.some_ne_none _ h.symm).elim
    | succ n51 ih51 =>
      have L61 : ∀ (n61 : Nat) (a1 : Int32) (a2 : Int32) (a3 : Int32) (a4 : Int32) (a5 : Int32) (d_ : XD) (H : Heap) (locs : List Loc) (ls : Array Slot), Wd g (va_A ((XC g q d)) s.heap.size) ((XC g q d_)) s H locs → lv_has ls 7 [(0, .ref (q 0)), (1, .int a1), (2, .int a2), (3, .int a3), (4, .int a4), (5, .int a5)] → f_X4_best_L61 N  (f_X4_best_L51 N   n51) n61 a1 a2 a3 a4 a5 d_ = some (r, d') → W p l e rm_X4_best s m ([.ref (q 0), .int p1] : List Value).toArray below meth c H locs 0 0 (MQ below (QO (some (.int r)) g ((XC g q d')) (va_A ((XC g q d)) s.heap.size)) ([.ref (q 0), .int p1] : List Value).toArray s 0 0 (va_A ((XC g q d)) s.heap.size)) (F0 m 61 ls []) := by
        intro n61
        induction n61 with
        | zero => intro a1 a2 a3 a4 a5 d_ H locs ls hw hl h; exact (Option.some_ne_none _ h.symm).elim
        | succ n61 ih61 =>
          intro a1 a2 a3 a4 a5 d_ H locs ls hw hl h
          rw [f_X4_best_L61] at h
          refine lv_iload hx hb dX4_best_61 (lv_at hl 5 rfl) ?_
          refine lv_iconst (v := 4) hx hb dX4_best_63 (by decide) ?_
          refine lv_icmp_ge (tgt := 126) hx hb dX4_best_64 (by decide) (fun c30 => ?_) (fun c30 => ?_)
          · replace h := ite_t c30 h
            obtain ⟨x31, ex31⟩ : ∃ y : Int32, y = (a4 + 1) := ⟨_, rfl⟩
            replace h := lt_nx ex31 h
            refine lv_iinc (v := x31) (lv' := [(4, .int x31), (0, .ref (q 0)), (1, .int a1), (2, .int a2), (3, .int a3), (5, .int a5)]) hx hb dX4_best_126 hl (k := 4) rfl (by rw [ex31]; rfl) (by decide) rfl (fun ls hl => ?_)
            refine lv_goto (tgt := 51) hx hb dX4_best_129 (by decide) ?_
            exact ih51 a1 a2 a3 x31 d_ _ _ _ hw (lv_sub hl [1, 2, 3, 4, 0] rfl) h
          · replace h := ite_f c30 h
            refine lv_aload_n hx hb dX4_best_67 rfl (lv_at hl 0 rfl) ?_
            refine gf_X4_19 cx hw 0 rfl rfl dX4_best_68 ?_
            refine gf_X4_102 cx hw 27 rfl rfl dX4_best_71 ?_
            refine lv_iload_n hx hb dX4_best_74 rfl (lv_at hl 1 rfl) ?_
            refine lv_aload_n hx hb dX4_best_75 rfl (lv_at hl 0 rfl) ?_
            refine gf_X4_12 cx hw 0 rfl rfl dX4_best_76 ?_
            refine gf_X4_102 cx hw 1 rfl rfl dX4_best_79 ?_
            refine lv_iload_n hx hb dX4_best_82 rfl (lv_at hl 1 rfl) ?_
            have ix32 := rd_in h
            refine x_iald cx hw 11 rfl ix32 dX4_best_83 ?_
            refine lv_topi (fun x32 ex32 => ?_)
            replace h := rd_nx ex32 h
            refine lv_iload hx hb dX4_best_84 (lv_at hl 4 rfl) ?_
            refine lv_iload hx hb dX4_best_86 (lv_at hl 5 rfl) ?_
            obtain ⟨x33, g34, h⟩ := bd_ex h
            refine c_S (As := [.int x32, .int a4, .int a5]) (rest := [.int a1, .ref (qs 27 q 10)]) (w' := (XC g q d_)) cx hw (c_X4_withWay l g  N x32 a4 a5  x33 g34) (cl_X4_108 cx.1.2.2.2.2 ⟨Nat.le_of_ble_eq_true rfl, Nat.le_of_ble_eq_true rfl⟩) Ct.nil hl.1 rfl rfl (Nat.le_of_ble_eq_true rfl) dX4_best_88 ⟨Nat.le_of_ble_eq_true rfl, Nat.le_of_ble_eq_true rfl⟩ (st1 := [.int x33, .int a1, .ref (qs 27 q 10)]) rfl (fun H locs hw => ?_)
            have i35 := ck_in h
            replace h := ck_nx h
            refine x_iast cx hw 37 rfl i35 dX4_best_91 (fun H locs hw => ?_)
            obtain ⟨d36, ed36, h⟩ := lt_ex h
            have hw : Wd g (va_A ((XC g q d)) s.heap.size) ((XC g q d36)) s H locs := by rw [ed36]; exact hw
            refine lv_aload_n hx hb dX4_best_92 rfl (lv_at hl 0 rfl) ?_
            refine gf_X4_19 cx hw 0 rfl rfl dX4_best_93 ?_
            refine lv_iload_n hx hb dX4_best_96 rfl (lv_at hl 1 rfl) ?_
            obtain ⟨x37, g38, h⟩ := bd_ex h
            refine c_V (As := [.int a1]) (rest := []) (w' := (XC g q d36)) cx hw (c_X3_expectedBy l g (qs 27 q) N a1 (x_trial d36) x37 g38) (cl_X4_191 cx.1.2.2.2.2 ⟨Nat.le_of_ble_eq_true rfl, Nat.le_of_ble_eq_true rfl⟩) (x_recv cx hw (ci := 3) rfl 27 rfl) (ct_X__27_28_29_30_31_32_33_34_35_36_37_38_39__V g q d36 ) hl.1 rfl rfl (Nat.le_of_ble_eq_true rfl) dX4_best_97 ⟨Nat.le_of_ble_eq_true rfl, Nat.le_of_ble_eq_true rfl⟩ (st1 := [.int x37]) rfl (fun H locs hw => ?_)
            refine lv_istore (lv' := [(6, .int x37), (0, .ref (q 0)), (1, .int a1), (2, .int a2), (3, .int a3), (4, .int a4), (5, .int a5)]) hx hb dX4_best_100 hl (by decide) rfl (fun ls hl => ?_)
            refine lv_iload hx hb dX4_best_102 (lv_at hl 0 rfl) ?_
            refine lv_iload_n hx hb dX4_best_104 rfl (lv_at hl 4 rfl) ?_
            refine lv_icmp_le (tgt := 120) hx hb dX4_best_105 (by decide) (fun c39 => ?_) (fun c39 => ?_)
            · replace h := ite_t c39 h
              obtain ⟨x40, ex40⟩ : ∃ y : Int32, y = (a5 + 1) := ⟨_, rfl⟩
              replace h := lt_nx ex40 h
              refine lv_iinc (v := x40) (lv' := [(5, .int x40), (6, .int x37), (0, .ref (q 0)), (1, .int a1), (2, .int a2), (3, .int a3), (4, .int a4)]) hx hb dX4_best_120 hl (k := 6) rfl (by rw [ex40]; rfl) (by decide) rfl (fun ls hl => ?_)
              refine lv_goto (tgt := 61) hx hb dX4_best_123 (by decide) ?_
              exact ih61 a1 a2 a3 a4 x40 d36 _ _ _ hw (lv_sub hl [2, 3, 4, 5, 6, 0] rfl) h
            · replace h := ite_f c39 h
              refine lv_iload hx hb dX4_best_108 (lv_at hl 0 rfl) ?_
              refine lv_istore_n (lv' := [(3, .int x37), (6, .int x37), (0, .ref (q 0)), (1, .int a1), (2, .int a2), (4, .int a4), (5, .int a5)]) hx hb dX4_best_110 rfl hl (by decide) rfl (fun ls hl => ?_)
              refine lv_bipush (v := 10) hx hb dX4_best_111 (by decide) ?_
              refine lv_iload hx hb dX4_best_113 (lv_at hl 5 rfl) ?_
              refine lv_imul hx hb dX4_best_115 ?_
              refine lv_iload hx hb dX4_best_116 (lv_at hl 6 rfl) ?_
              refine lv_iadd hx hb dX4_best_118 ?_
              refine lv_topi (fun x41 ex41 => ?_)
              replace h := lt_nx ex41 h
              refine lv_istore_n (lv' := [(2, .int x41), (3, .int x37), (6, .int x37), (0, .ref (q 0)), (1, .int a1), (4, .int a4), (5, .int a5)]) hx hb dX4_best_119 rfl hl (by decide) rfl (fun ls hl => ?_)
              obtain ⟨x42, ex42⟩ : ∃ y : Int32, y = (a5 + 1) := ⟨_, rfl⟩
              replace h := lt_nx ex42 h
              refine lv_iinc (v := x42) (lv' := [(5, .int x42), (2, .int x41), (3, .int x37), (6, .int x37), (0, .ref (q 0)), (1, .int a1), (4, .int a4)]) hx hb dX4_best_120 hl (k := 6) rfl (by rw [ex42]; rfl) (by decide) rfl (fun ls hl => ?_)
              refine lv_goto (tgt := 61) hx hb dX4_best_123 (by decide) ?_
              exact ih61 a1 x41 x37 a4 x42 d36 _ _ _ hw (lv_sub hl [4, 5, 1, 2, 6, 0] rfl) h
      intro a1 a2 a3 a4 d_ H locs ls hw hl h
      rw [f_X4_best_L51] at h
      refine lv_iload hx hb dX4_best_51 (lv_at hl 4 rfl) ?_
      refine lv_bipush (v := 9) hx hb dX4_best_53 (by decide) ?_
      refine lv_icmp_ge (tgt := 132) hx hb dX4_best_55 (by decide) (fun c43 => ?_) (fun c43 => ?_)
      · replace h := ite_t c43 h
        refine lv_iload_n hx hb dX4_best_132 rfl (lv_at hl 2 rfl) ?_
        exact r_i cx hr hlocks hw (pr1 h) (congrArg (fun z0 => (XC g q z0)) (pr2 h)) dX4_best_133
      · replace h := ite_f c43 h
        refine lv_iconst (v := 0) hx hb dX4_best_58 (by decide) ?_
        refine lv_istore (lv' := [(5, .int (0 : Int32)), (0, .ref (q 0)), (1, .int a1), (2, .int a2), (3, .int a3), (4, .int a4)]) hx hb dX4_best_59 hl (by decide) rfl (fun ls hl => ?_)
        exact L61 N a1 a2 a3 a4 (0 : Int32) d_ _ _ _ hw (lv_sub hl [1, 2, 3, 4, 5, 0] rfl) h
  unfold f_X4_best at h
  refine lv_aload_n hx hb dX4_best_0 rfl (lv_at hl 0 rfl) ?_
  refine lv_iload_n hx hb dX4_best_1 rfl (lv_at hl 1 rfl) ?_
  obtain ⟨x1, g2, h⟩ := bd_ex h
  refine c_V (As := [.int p1]) (rest := []) (w' := (XC g q d)) cx hw (c_X4_isOne l g q N p1 d x1 g2) (cl_X4_72 cx.1.2.2.2.2 ⟨Nat.le_of_ble_eq_true rfl, Nat.le_of_ble_eq_true rfl⟩) (x_recv cx hw (ci := 4) rfl 0 rfl) (Ct.all (XC_ll ..)) hl.1 rfl rfl (Nat.le_of_ble_eq_true rfl) dX4_best_2 ⟨Nat.le_of_ble_eq_true rfl, Nat.le_of_ble_eq_true rfl⟩ (st1 := [.int x1]) rfl (fun H locs hw => ?_)
  refine lv_if_ne (tgt := 15) hx hb dX4_best_5 (by decide) (fun c3 => ?_) (fun c3 => ?_)
  · replace h := ite_f c3 h
    refine lv_aload_n hx hb dX4_best_15 rfl (lv_at hl 0 rfl) ?_
    refine gf_X4_12 cx hw 0 rfl rfl dX4_best_16 ?_
    refine lv_iload_n hx hb dX4_best_19 rfl (lv_at hl 1 rfl) ?_
    obtain ⟨x4, g5, h⟩ := bd_ex h
    refine c_V (As := [.int p1]) (rest := []) (w' := (XC g q d)) cx hw (c_X3_lives l g (qs 1 q) N p1 (x_valley d) x4 g5) (cl_X4_90 cx.1.2.2.2.2 ⟨Nat.le_of_ble_eq_true rfl, Nat.le_of_ble_eq_true rfl⟩) (x_recv cx hw (ci := 3) rfl 1 rfl) (ct_X__1_2_3_4_5_6_7_8_9_10_11_12_13__V g q d ) hl.1 rfl rfl (Nat.le_of_ble_eq_true rfl) dX4_best_20 ⟨Nat.le_of_ble_eq_true rfl, Nat.le_of_ble_eq_true rfl⟩ (st1 := [.int x4]) rfl (fun H locs hw => ?_)
    refine lv_if_ne (tgt := 33) hx hb dX4_best_23 (by decide) (fun c6 => ?_) (fun c6 => ?_)
    · replace h := ite_f c6 h
      refine lv_aload_n hx hb dX4_best_33 rfl (lv_at hl 0 rfl) ?_
      refine gf_X4_19 cx hw 0 rfl rfl dX4_best_34 ?_
      refine lv_aload_n hx hb dX4_best_37 rfl (lv_at hl 0 rfl) ?_
      refine gf_X4_12 cx hw 0 rfl rfl dX4_best_38 ?_
      obtain ⟨d7, g8, h⟩ := bd_ex h
      refine c_V (As := [.ref (qs 1 q 0)]) (rest := []) (w' := (XC g q (x_set_trial d d7))) cx hw (c_X3_takeFrom l g (qs 27 q) (qs 1 q) N  (x_trial d) (x_valley d) d7 g8) (cl_X4_164 cx.1.2.2.2.2 ⟨Nat.le_of_ble_eq_true rfl, Nat.le_of_ble_eq_true rfl⟩) (x_recv cx hw (ci := 3) rfl 27 rfl) (ct_X__27_28_29_30_31_32_33_34_35_36_37_38_39_1_2_3_4_5_6_7_8_9_10_11_12_13__V_V_0 g q d d7) hl.1 rfl rfl (Nat.le_of_ble_eq_true rfl) dX4_best_41 ⟨Nat.le_of_ble_eq_true rfl, Nat.le_of_ble_eq_true rfl⟩ (st1 := []) rfl (fun H locs hw => ?_)
      obtain ⟨d9, ed9, h⟩ := lt_ex h
      have hw : Wd g (va_A ((XC g q d)) s.heap.size) ((XC g q d9)) s H locs := by rw [ed9]; exact hw
      refine lv_iconst (v := 0) hx hb dX4_best_44 (by decide) ?_
      refine lv_istore_n (lv' := [(2, .int (0 : Int32)), (0, .ref (q 0)), (1, .int p1)]) hx hb dX4_best_45 rfl hl (by decide) rfl (fun ls hl => ?_)
      refine lv_iconst (v := -1) hx hb dX4_best_46 (by decide) ?_
      refine lv_istore_n (lv' := [(3, .int (-1 : Int32)), (2, .int (0 : Int32)), (0, .ref (q 0)), (1, .int p1)]) hx hb dX4_best_47 rfl hl (by decide) rfl (fun ls hl => ?_)
      refine lv_iconst (v := 0) hx hb dX4_best_48 (by decide) ?_
      refine lv_istore (lv' := [(4, .int (0 : Int32)), (3, .int (-1 : Int32)), (2, .int (0 : Int32)), (0, .ref (q 0)), (1, .int p1)]) hx hb dX4_best_49 hl (by decide) rfl (fun ls hl => ?_)
      exact L51 N p1 (0 : Int32) (-1 : Int32) (0 : Int32) d9 _ _ _ hw (lv_sub hl [3, 4, 2, 1, 0] rfl) h
    · replace h := ite_t c6 h
      refine lv_aload_n hx hb dX4_best_26 rfl (lv_at hl 0 rfl) ?_
      refine lv_ldc hx hb cx.1.2.2.2.1 (cx.1.2.2.2.2 _ tw_2_130) dX4_best_27 ?_
      obtain ⟨x10, d11, g12, h⟩ := bd2_ex h
      refine c_V (As := [.int (-1000000005 : Int32)]) (rest := []) (w' := (XC g q d11)) cx hw (c_X4_tell l g q N (-1000000005 : Int32) d x10 d11 g12) (cl_X4_45 cx.1.2.2.2.2 ⟨Nat.le_of_ble_eq_true rfl, Nat.le_of_ble_eq_true rfl⟩) (x_recv cx hw (ci := 4) rfl 0 rfl) (Ct.all (XC_ll ..)) hl.1 rfl rfl (Nat.le_of_ble_eq_true rfl) dX4_best_29 ⟨Nat.le_of_ble_eq_true rfl, Nat.le_of_ble_eq_true rfl⟩ (st1 := [.int x10]) rfl (fun H locs hw => ?_)
      exact r_i cx hr hlocks hw (pr1 h) (congrArg (fun z0 => (XC g q z0)) (pr2 h)) dX4_best_32
  · replace h := ite_t c3 h
    refine lv_aload_n hx hb dX4_best_8 rfl (lv_at hl 0 rfl) ?_
    refine lv_ldc hx hb cx.1.2.2.2.1 (cx.1.2.2.2.2 _ tw_1_202) dX4_best_9 ?_
    obtain ⟨x13, d14, g15, h⟩ := bd2_ex h
    refine c_V (As := [.int (-1000000001 : Int32)]) (rest := []) (w' := (XC g q d14)) cx hw (c_X4_tell l g q N (-1000000001 : Int32) d x13 d14 g15) (cl_X4_45 cx.1.2.2.2.2 ⟨Nat.le_of_ble_eq_true rfl, Nat.le_of_ble_eq_true rfl⟩) (x_recv cx hw (ci := 4) rfl 0 rfl) (Ct.all (XC_ll ..)) hl.1 rfl rfl (Nat.le_of_ble_eq_true rfl) dX4_best_11 ⟨Nat.le_of_ble_eq_true rfl, Nat.le_of_ble_eq_true rfl⟩ (st1 := [.int x13]) rfl (fun H locs hw => ?_)
    exact r_i cx hr hlocks hw (pr1 h) (congrArg (fun z0 => (XC g q z0)) (pr2 h)) dX4_best_14
set_option maxHeartbeats 4000000 in
set_option maxRecDepth 100000 in
theorem c_X4_steer (l : Launch) (g : gE) (q : Nat → Nat) (N : Nat) (p1 : Int32) (p2 : Int32) (d : XD) (r : Int32) (d' : XD) (h : f_X4_steer N  p1 p2 d = some (r, d')) : MO l yX4_steer (Cond.code yX4_steer cX4_steer 4 (some .int) :: TB) rm_X4_steer [.ref (q 0), .int p1, .int p2] g ((XC g q d)) ((XC g q d')) (some (.int r)) 0 0 := by
  refine MO.of (cc := cX4_steer) (maxL := 4) (ret := (some .int)) (by decide) ?_
  intro p e s m below meth c cx hw hr hlocks _
  have hx := cx.1.1
  have hb := cx.1.2.1
  refine en_go (lv := [(0, .ref (q 0)), (1, .int p1), (2, .int p2)]) (Nat.le_of_ble_eq_true rfl) rfl (fun ls hl => ?_)
  unfold f_X4_steer at h
  refine lv_aload_n hx hb dX4_steer_0 rfl (lv_at hl 0 rfl) ?_
  refine lv_iload_n hx hb dX4_steer_1 rfl (lv_at hl 1 rfl) ?_
  refine lv_iload_n hx hb dX4_steer_2 rfl (lv_at hl 2 rfl) ?_
  obtain ⟨x1, g2, h⟩ := bd_ex h
  refine c_V (As := [.int p1, .int p2]) (rest := []) (w' := (XC g q d)) cx hw (c_X4_areTwo l g q N p1 p2 d x1 g2) (cl_X4_117 cx.1.2.2.2.2 ⟨Nat.le_of_ble_eq_true rfl, Nat.le_of_ble_eq_true rfl⟩) (x_recv cx hw (ci := 4) rfl 0 rfl) (Ct.all (XC_ll ..)) hl.1 rfl rfl (Nat.le_of_ble_eq_true rfl) dX4_steer_3 ⟨Nat.le_of_ble_eq_true rfl, Nat.le_of_ble_eq_true rfl⟩ (st1 := [.int x1]) rfl (fun H locs hw => ?_)
  refine lv_if_ne (tgt := 16) hx hb dX4_steer_6 (by decide) (fun c3 => ?_) (fun c3 => ?_)
  · replace h := ite_f c3 h
    refine lv_aload_n hx hb dX4_steer_16 rfl (lv_at hl 0 rfl) ?_
    refine gf_X4_12 cx hw 0 rfl rfl dX4_steer_17 ?_
    refine lv_iload_n hx hb dX4_steer_20 rfl (lv_at hl 2 rfl) ?_
    obtain ⟨x4, g5, h⟩ := bd_ex h
    refine c_V (As := [.int p2]) (rest := []) (w' := (XC g q d)) cx hw (c_X3_lives l g (qs 1 q) N p2 (x_valley d) x4 g5) (cl_X4_90 cx.1.2.2.2.2 ⟨Nat.le_of_ble_eq_true rfl, Nat.le_of_ble_eq_true rfl⟩) (x_recv cx hw (ci := 3) rfl 1 rfl) (ct_X__1_2_3_4_5_6_7_8_9_10_11_12_13__V g q d ) hl.1 rfl rfl (Nat.le_of_ble_eq_true rfl) dX4_steer_21 ⟨Nat.le_of_ble_eq_true rfl, Nat.le_of_ble_eq_true rfl⟩ (st1 := [.int x4]) rfl (fun H locs hw => ?_)
    refine lv_if_eq (tgt := 39) hx hb dX4_steer_24 (by decide) (fun c6 => ?_) (fun c6 => ?_)
    · replace h := ite_t c6 h
      refine lv_aload_n hx hb dX4_steer_39 rfl (lv_at hl 0 rfl) ?_
      refine lv_ldc hx hb cx.1.2.2.2.1 (cx.1.2.2.2.2 _ tw_2_130) dX4_steer_40 ?_
      obtain ⟨x7, d8, g9, h⟩ := bd2_ex h
      refine c_V (As := [.int (-1000000005 : Int32)]) (rest := []) (w' := (XC g q d8)) cx hw (c_X4_tell l g q N (-1000000005 : Int32) d x7 d8 g9) (cl_X4_45 cx.1.2.2.2.2 ⟨Nat.le_of_ble_eq_true rfl, Nat.le_of_ble_eq_true rfl⟩) (x_recv cx hw (ci := 4) rfl 0 rfl) (Ct.all (XC_ll ..)) hl.1 rfl rfl (Nat.le_of_ble_eq_true rfl) dX4_steer_42 ⟨Nat.le_of_ble_eq_true rfl, Nat.le_of_ble_eq_true rfl⟩ (st1 := [.int x7]) rfl (fun H locs hw => ?_)
      exact r_i cx hr hlocks hw (pr1 h) (congrArg (fun z0 => (XC g q z0)) (pr2 h)) dX4_steer_45
    · replace h := ite_f c6 h
      refine lv_aload_n hx hb dX4_steer_27 rfl (lv_at hl 0 rfl) ?_
      refine gf_X4_12 cx hw 0 rfl rfl dX4_steer_28 ?_
      refine lv_iload_n hx hb dX4_steer_31 rfl (lv_at hl 1 rfl) ?_
      obtain ⟨x10, g11, h⟩ := bd_ex h
      refine c_V (As := [.int p1]) (rest := []) (w' := (XC g q d)) cx hw (c_X3_heirFor l g (qs 1 q) N p1 (x_valley d) x10 g11) (cl_X4_131 cx.1.2.2.2.2 ⟨Nat.le_of_ble_eq_true rfl, Nat.le_of_ble_eq_true rfl⟩) (x_recv cx hw (ci := 3) rfl 1 rfl) (ct_X__1_2_3_4_5_6_7_8_9_10_11_12_13__V g q d ) hl.1 rfl rfl (Nat.le_of_ble_eq_true rfl) dX4_steer_32 ⟨Nat.le_of_ble_eq_true rfl, Nat.le_of_ble_eq_true rfl⟩ (st1 := [.int x10]) rfl (fun H locs hw => ?_)
      refine lv_iload_n hx hb dX4_steer_35 rfl (lv_at hl 2 rfl) ?_
      refine lv_icmp_ne (tgt := 46) hx hb dX4_steer_36 (by decide) (fun c12 => ?_) (fun c12 => ?_)
      · replace h := ite_f c12 h
        refine lv_aload_n hx hb dX4_steer_46 rfl (lv_at hl 0 rfl) ?_
        refine lv_iload_n hx hb dX4_steer_47 rfl (lv_at hl 1 rfl) ?_
        refine lv_iload_n hx hb dX4_steer_48 rfl (lv_at hl 1 rfl) ?_
        refine lv_iload_n hx hb dX4_steer_49 rfl (lv_at hl 2 rfl) ?_
        obtain ⟨x13, d14, g15, h⟩ := bd2_ex h
        refine c_V (As := [.int p1, .int p1, .int p2]) (rest := []) (w' := (XC g q d14)) cx hw (c_X4_leastStep l g q N p1 p1 p2 d x13 d14 g15) (cl_X4_177 cx.1.2.2.2.2 ⟨Nat.le_of_ble_eq_true rfl, Nat.le_of_ble_eq_true rfl⟩) (x_recv cx hw (ci := 4) rfl 0 rfl) (Ct.all (XC_ll ..)) hl.1 rfl rfl (Nat.le_of_ble_eq_true rfl) dX4_steer_50 ⟨Nat.le_of_ble_eq_true rfl, Nat.le_of_ble_eq_true rfl⟩ (st1 := [.int x13]) rfl (fun H locs hw => ?_)
        refine lv_istore_n (lv' := [(3, .int x13), (0, .ref (q 0)), (1, .int p1), (2, .int p2)]) hx hb dX4_steer_53 rfl hl (by decide) rfl (fun ls hl => ?_)
        refine lv_iload_n hx hb dX4_steer_54 rfl (lv_at hl 0 rfl) ?_
        refine lv_iconst (v := -1) hx hb dX4_steer_55 (by decide) ?_
        refine lv_icmp_ne (tgt := 68) hx hb dX4_steer_56 (by decide) (fun c16 => ?_) (fun c16 => ?_)
        · replace h := ite_f c16 h
          refine lv_iload_n hx hb dX4_steer_68 rfl (lv_at hl 0 rfl) ?_
          exact r_i cx hr hlocks hw (pr1 h) (congrArg (fun z0 => (XC g q z0)) (pr2 h)) dX4_steer_69
        · replace h := ite_t c16 h
          refine lv_aload_n hx hb dX4_steer_59 rfl (lv_at hl 1 rfl) ?_
          refine lv_ldc hx hb cx.1.2.2.2.1 (cx.1.2.2.2.2 _ tw_2_92) dX4_steer_60 ?_
          obtain ⟨x17, d18, g19, h⟩ := bd2_ex h
          refine c_V (As := [.int (-1000000004 : Int32)]) (rest := []) (w' := (XC g q d18)) cx hw (c_X4_tell l g q N (-1000000004 : Int32) d14 x17 d18 g19) (cl_X4_45 cx.1.2.2.2.2 ⟨Nat.le_of_ble_eq_true rfl, Nat.le_of_ble_eq_true rfl⟩) (x_recv cx hw (ci := 4) rfl 0 rfl) (Ct.all (XC_ll ..)) hl.1 rfl rfl (Nat.le_of_ble_eq_true rfl) dX4_steer_62 ⟨Nat.le_of_ble_eq_true rfl, Nat.le_of_ble_eq_true rfl⟩ (st1 := [.int x17]) rfl (fun H locs hw => ?_)
          refine lv_goto (tgt := 69) hx hb dX4_steer_65 (by decide) ?_
          exact r_i cx hr hlocks hw (pr1 h) (congrArg (fun z0 => (XC g q z0)) (pr2 h)) dX4_steer_69
      · replace h := ite_t c12 h
        refine lv_aload_n hx hb dX4_steer_39 rfl (lv_at hl 0 rfl) ?_
        refine lv_ldc hx hb cx.1.2.2.2.1 (cx.1.2.2.2.2 _ tw_2_130) dX4_steer_40 ?_
        obtain ⟨x20, d21, g22, h⟩ := bd2_ex h
        refine c_V (As := [.int (-1000000005 : Int32)]) (rest := []) (w' := (XC g q d21)) cx hw (c_X4_tell l g q N (-1000000005 : Int32) d x20 d21 g22) (cl_X4_45 cx.1.2.2.2.2 ⟨Nat.le_of_ble_eq_true rfl, Nat.le_of_ble_eq_true rfl⟩) (x_recv cx hw (ci := 4) rfl 0 rfl) (Ct.all (XC_ll ..)) hl.1 rfl rfl (Nat.le_of_ble_eq_true rfl) dX4_steer_42 ⟨Nat.le_of_ble_eq_true rfl, Nat.le_of_ble_eq_true rfl⟩ (st1 := [.int x20]) rfl (fun H locs hw => ?_)
        exact r_i cx hr hlocks hw (pr1 h) (congrArg (fun z0 => (XC g q z0)) (pr2 h)) dX4_steer_45
  · replace h := ite_t c3 h
    refine lv_aload_n hx hb dX4_steer_9 rfl (lv_at hl 0 rfl) ?_
    refine lv_ldc hx hb cx.1.2.2.2.1 (cx.1.2.2.2.2 _ tw_1_202) dX4_steer_10 ?_
    obtain ⟨x23, d24, g25, h⟩ := bd2_ex h
    refine c_V (As := [.int (-1000000001 : Int32)]) (rest := []) (w' := (XC g q d24)) cx hw (c_X4_tell l g q N (-1000000001 : Int32) d x23 d24 g25) (cl_X4_45 cx.1.2.2.2.2 ⟨Nat.le_of_ble_eq_true rfl, Nat.le_of_ble_eq_true rfl⟩) (x_recv cx hw (ci := 4) rfl 0 rfl) (Ct.all (XC_ll ..)) hl.1 rfl rfl (Nat.le_of_ble_eq_true rfl) dX4_steer_12 ⟨Nat.le_of_ble_eq_true rfl, Nat.le_of_ble_eq_true rfl⟩ (st1 := [.int x23]) rfl (fun H locs hw => ?_)
    exact r_i cx hr hlocks hw (pr1 h) (congrArg (fun z0 => (XC g q z0)) (pr2 h)) dX4_steer_15
