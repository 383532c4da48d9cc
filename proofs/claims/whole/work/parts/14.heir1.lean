def f_X4_turn (N : Nat)  (p1 : Int32) (p2 : Int32) (d : XD) : Option (Int32 × XD) :=
  (f_X4_isOne N p1 d).bind fun x1 =>
  if x1 = 0 then
    bd2 (f_X4_tell N (-1000000001 : Int32) d) fun x4 d5 =>
    some (x4, d5)
  else
    (f_X4_isKind N p2).bind fun x7 =>
    if x7 = 0 then
      bd2 (f_X4_tell N (-1000000001 : Int32) d) fun x14 d15 =>
      some (x14, d15)
    else
      bd2 (f_X4_exchange N 12 p1 p2 (v_kinds (x_valley d))) fun x10 f11 =>
      lt (x_set_valley d (v_set_kinds (x_valley d) f11)) fun d13 =>
      some (x10, d13)
def f_X4_like (N : Nat)  (p1 : Int32) (p2 : Int32) (d : XD) : Option (Int32 × XD) :=
  (f_X4_areTwo N p1 p2 d).bind fun x1 =>
  if x1 = 0 then
    bd2 (f_X4_tell N (-1000000001 : Int32) d) fun x6 d7 =>
    some (x6, d7)
  else
    (f_X3_likeness N p1 p2 (x_valley d)).bind fun x4 =>
    some (x4, d)
def f_X4_same (N : Nat)  (p1 : Int32) (p2 : Int32) (d : XD) : Option (Int32 × XD) :=
  (f_X4_areTwo N p1 p2 d).bind fun x1 =>
  if x1 = 0 then
    bd2 (f_X4_tell N (-1000000001 : Int32) d) fun x10 d11 =>
    some (x10, d11)
  else
    (rd (v_looks (x_valley d)) 13 p1).bind fun x4 =>
    (rd (v_looks (x_valley d)) 13 p2).bind fun x5 =>
    (f_X4_unlike N x4 x5).bind fun x6 =>
    (f_J6_bitCount_0f7a4 N x6).bind fun x8 =>
    some (((9 : Int32) - x8), d)
def f_X4_heir (N : Nat)  (p1 : Int32) (d : XD) : Option (Int32 × XD) :=
  (f_X4_isOne N p1 d).bind fun x1 =>
  if x1 = 0 then
    bd2 (f_X4_tell N (-1000000001 : Int32) d) fun x10 d11 =>
    some (x10, d11)
  else
    (f_X3_heirFor N p1 (x_valley d)).bind fun x4 =>
    if x4 = (-1 : Int32) then
      bd2 (f_X4_tell N (-1000000004 : Int32) d) fun x7 d8 =>
      some (x7, d8)
    else
      some (x4, d)
def f_X4_heirOf (N : Nat)  (p1 : Int32) (d : XD) : Option (Int32 × XD) :=
  (f_X4_isOne N p1 d).bind fun x1 =>
  if x1 = 0 then
    bd2 (f_X4_tell N (-1000000001 : Int32) d) fun x4 d5 =>
    some (x4, d5)
  else
    (f_X3_leaversTo N p1 (x_valley d)).bind fun x7 =>
    some (x7, d)
def f_X4_watched (N : Nat)  (p1 : Int32) (d : XD) : Option (Int32 × XD) :=
  (f_X4_isOne N p1 d).bind fun x1 =>
  if x1 = 0 then
    bd2 (f_X4_tell N (-1000000001 : Int32) d) fun x4 d5 =>
    some (x4, d5)
  else
    (f_X3_watchersOf N p1 (x_valley d)).bind fun x7 =>
    some (x7, d)
def f_X4_changes_J38 (N : Nat)   (t0 : Int32) (d_ : XD) : Option (Int32 × XD) :=
  if t0 = (-1 : Int32) then
    bd2 (f_X4_tell N (-1000000004 : Int32) d_) fun x13 d14 =>
    some (x13, d14)
  else
    some ((t0 / (10 : Int32)), d_)
def f_X4_changes (N : Nat)  (p1 : Int32) (d : XD) : Option (Int32 × XD) :=
  (f_X4_isOne N p1 d).bind fun x1 =>
  if x1 = 0 then
    bd2 (f_X4_tell N (-1000000001 : Int32) d) fun x9 d10 =>
    some (x9, d10)
  else
    (f_X3_lives N p1 (x_valley d)).bind fun x4 =>
    if x4 = 0 then
      f_X4_changes_J38 N   (-1 : Int32) d
    else
      (f_X3_planOf N p1 (x_valley d)).bind fun x7 =>
      f_X4_changes_J38 N   x7 d
def f_X4_isTooLate (N : Nat)  (p1 : Int32) (d : XD) : Option (Int32) :=
  if ((v_year (x_valley d)) + p1) ≤ (9999 : Int32) then
    some (0 : Int32)
  else
    some (1 : Int32)
def f_X4_years (N : Nat)  (p1 : Int32) (d : XD) : Option (Int32 × XD) :=
  (f_X4_isWithin N p1 (1 : Int32) (100 : Int32)).bind fun x1 =>
  if x1 = 0 then
    bd2 (f_X4_tell N (-1000000001 : Int32) d) fun x14 d15 =>
    some (x14, d15)
  else
    (f_X4_isTooLate N p1 d).bind fun x4 =>
    if x4 = 0 then
      bd2 (f_X3_goYears N p1 (x_valley d)) fun x7 d8 =>
      lt (x_set_valley d d8) fun d10 =>
      some (x7, d10)
    else
      bd2 (f_X4_tell N (-1000000005 : Int32) d) fun x11 d12 =>
      some (x11, d12)
def f_X4_dies (N : Nat)  (p1 : Int32) (d : XD) : Option (Int32 × XD) :=
  (f_X4_isOne N p1 d).bind fun x1 =>
  if x1 = 0 then
    bd2 (f_X4_tell N (-1000000001 : Int32) d) fun x14 d15 =>
    some (x14, d15)
  else
    (f_X3_lives N p1 (x_valley d)).bind fun x4 =>
    if x4 = 0 then
      bd2 (f_X4_tell N (-1000000005 : Int32) d) fun x11 d12 =>
      some (x11, d12)
    else
      bd2 (f_X3_letDie N p1 (x_valley d)) fun x7 d8 =>
      lt (x_set_valley d d8) fun d10 =>
      some (x7, d10)
def f_X4_now (N : Nat)  (p1 : Int32) (d : XD) : Option (Int32 × XD) :=
  if p1 = 0 then
    some ((v_year (x_valley d)), d)
  else
    if p1 = 1 then
      some ((v_law (x_valley d)), d)
    else
      if p1 = 2 then
        (f_J6_bitCount_0f7a4 N (v_living (x_valley d))).bind fun x4 =>
        some (x4, d)
      else
        if p1 = 3 then
          (f_X3_sumOf N 12 (v_living (x_valley d)) (x_valley d) (v_goods (x_valley d))).bind fun x7 =>
          some (x7, d)
        else
          bd2 (f_X4_tell N (-1000000001 : Int32) d) fun x9 d10 =>
          some (x9, d10)
theorem ct_X__6__A_0 (g : gE) (q : Nat → Nat) (d : XD) (u0 : (Nat → Int32)) : Ct ((XC g q d)) ((ACI g (qs 1 q 5) 12 (v_kinds (x_valley d)))) ((XC g q (x_set_valley d (v_set_kinds (x_valley d) u0)))) ((ACI g (qs 1 q 5) 12 u0)) := (Ct.skip _ (Ct.inl _ (ctV_A_5 ..) (VC_ll ..)))
theorem ct_X__1_8__VO_A (g : gE) (q : Nat → Nat) (d : XD)  : Ct ((XC g q d)) ((VO g (qs 1 q) (x_valley d)) ++ (ACI g (qs 1 q 7) 12 (v_goods (x_valley d)))) ((XC g q d)) ((VO g (qs 1 q) (x_valley d)) ++ (ACI g (qs 1 q 7) 12 (v_goods (x_valley d)))) := (Ct.skip _ (Ct.inl _ (ctV_OA_7 ..) (VC_ll ..)))
set_option maxHeartbeats 4000000 in
set_option maxRecDepth 100000 in
theorem c_X4_turn (l : Launch) (g : gE) (q : Nat → Nat) (N : Nat) (p1 : Int32) (p2 : Int32) (d : XD) (r : Int32) (d' : XD) (h : f_X4_turn N  p1 p2 d = some (r, d')) : MO l yX4_turn (Cond.code yX4_turn cX4_turn 3 (some .int) :: TB) rm_X4_turn [.ref (q 0), .int p1, .int p2] g ((XC g q d)) ((XC g q d')) (some (.int r)) 0 0 := by
  refine MO.of (cc := cX4_turn) (maxL := 3) (ret := (some .int)) (by decide) ?_
  intro p e s m below meth c cx hw hr hlocks _
  have hx := cx.1.1
  have hb := cx.1.2.1
  refine en_go (lv := [(0, .ref (q 0)), (1, .int p1), (2, .int p2)]) (Nat.le_of_ble_eq_true rfl) rfl (fun ls hl => ?_)
  unfold f_X4_turn at h
  refine lv_aload_n hx hb dX4_turn_0 rfl (lv_at hl 0 rfl) ?_
  refine lv_iload_n hx hb dX4_turn_1 rfl (lv_at hl 1 rfl) ?_
  obtain ⟨x1, g2, h⟩ := bd_ex h
  refine c_V (As := [.int p1]) (rest := []) (w' := (XC g q d)) cx hw (c_X4_isOne l g q N p1 d x1 g2) (cl_X4_72 cx.1.2.2.2.2 ⟨Nat.le_of_ble_eq_true rfl, Nat.le_of_ble_eq_true rfl⟩) (x_recv cx hw (ci := 4) rfl 0 rfl) (Ct.all (XC_ll ..)) hl.1 rfl rfl (Nat.le_of_ble_eq_true rfl) dX4_turn_2 ⟨Nat.le_of_ble_eq_true rfl, Nat.le_of_ble_eq_true rfl⟩ (st1 := [.int x1]) rfl (fun H locs hw => ?_)
  refine lv_if_eq (tgt := 15) hx hb dX4_turn_5 (by decide) (fun c3 => ?_) (fun c3 => ?_)
  · replace h := ite_t c3 h
    refine lv_aload_n hx hb dX4_turn_15 rfl (lv_at hl 0 rfl) ?_
    refine lv_ldc hx hb cx.1.2.2.2.1 (cx.1.2.2.2.2 _ tw_1_202) dX4_turn_16 ?_
    obtain ⟨x4, d5, g6, h⟩ := bd2_ex h
    refine c_V (As := [.int (-1000000001 : Int32)]) (rest := []) (w' := (XC g q d5)) cx hw (c_X4_tell l g q N (-1000000001 : Int32) d x4 d5 g6) (cl_X4_45 cx.1.2.2.2.2 ⟨Nat.le_of_ble_eq_true rfl, Nat.le_of_ble_eq_true rfl⟩) (x_recv cx hw (ci := 4) rfl 0 rfl) (Ct.all (XC_ll ..)) hl.1 rfl rfl (Nat.le_of_ble_eq_true rfl) dX4_turn_18 ⟨Nat.le_of_ble_eq_true rfl, Nat.le_of_ble_eq_true rfl⟩ (st1 := [.int x4]) rfl (fun H locs hw => ?_)
    exact r_i cx hr hlocks hw (pr1 h) (congrArg (fun z0 => (XC g q z0)) (pr2 h)) dX4_turn_21
  · replace h := ite_f c3 h
    refine lv_iload_n hx hb dX4_turn_8 rfl (lv_at hl 2 rfl) ?_
    obtain ⟨x7, g8, h⟩ := bd_ex h
    refine c_S (As := [.int p2]) (rest := []) (w' := (XC g q d)) cx hw (c_X4_isKind l g  N p2  x7 g8) (cl_X4_64 cx.1.2.2.2.2 ⟨Nat.le_of_ble_eq_true rfl, Nat.le_of_ble_eq_true rfl⟩) Ct.nil hl.1 rfl rfl (Nat.le_of_ble_eq_true rfl) dX4_turn_9 ⟨Nat.le_of_ble_eq_true rfl, Nat.le_of_ble_eq_true rfl⟩ (st1 := [.int x7]) rfl (fun H locs hw => ?_)
    refine lv_if_ne (tgt := 22) hx hb dX4_turn_12 (by decide) (fun c9 => ?_) (fun c9 => ?_)
    · replace h := ite_f c9 h
      refine lv_aload_n hx hb dX4_turn_22 rfl (lv_at hl 0 rfl) ?_
      refine gf_X4_12 cx hw 0 rfl rfl dX4_turn_23 ?_
      refine gf_X4_75 cx hw 1 rfl rfl dX4_turn_26 ?_
      refine lv_iload_n hx hb dX4_turn_29 rfl (lv_at hl 1 rfl) ?_
      refine lv_iload_n hx hb dX4_turn_30 rfl (lv_at hl 2 rfl) ?_
      obtain ⟨x10, f11, g12, h⟩ := bd2_ex h
      refine c_S (As := [.ref (qs 1 q 5), .int p1, .int p2]) (rest := []) (w' := (XC g q (x_set_valley d (v_set_kinds (x_valley d) f11)))) cx hw (c_X4_exchange l g (qs 1 q 5) 12 N p1 p2 (v_kinds (x_valley d)) x10 f11 g12) (cl_X4_56 cx.1.2.2.2.2 ⟨Nat.le_of_ble_eq_true rfl, Nat.le_of_ble_eq_true rfl⟩) (ct_X__6__A_0 g q d f11) hl.1 rfl rfl (Nat.le_of_ble_eq_true rfl) dX4_turn_31 ⟨Nat.le_of_ble_eq_true rfl, Nat.le_of_ble_eq_true rfl⟩ (st1 := [.int x10]) rfl (fun H locs hw => ?_)
      obtain ⟨d13, ed13, h⟩ := lt_ex h
      have hw : Wd g (va_A ((XC g q d)) s.heap.size) ((XC g q d13)) s H locs := by rw [ed13]; exact hw
      exact r_i cx hr hlocks hw (pr1 h) (congrArg (fun z0 => (XC g q z0)) (pr2 h)) dX4_turn_34
    · replace h := ite_t c9 h
      refine lv_aload_n hx hb dX4_turn_15 rfl (lv_at hl 0 rfl) ?_
      refine lv_ldc hx hb cx.1.2.2.2.1 (cx.1.2.2.2.2 _ tw_1_202) dX4_turn_16 ?_
      obtain ⟨x14, d15, g16, h⟩ := bd2_ex h
      refine c_V (As := [.int (-1000000001 : Int32)]) (rest := []) (w' := (XC g q d15)) cx hw (c_X4_tell l g q N (-1000000001 : Int32) d x14 d15 g16) (cl_X4_45 cx.1.2.2.2.2 ⟨Nat.le_of_ble_eq_true rfl, Nat.le_of_ble_eq_true rfl⟩) (x_recv cx hw (ci := 4) rfl 0 rfl) (Ct.all (XC_ll ..)) hl.1 rfl rfl (Nat.le_of_ble_eq_true rfl) dX4_turn_18 ⟨Nat.le_of_ble_eq_true rfl, Nat.le_of_ble_eq_true rfl⟩ (st1 := [.int x14]) rfl (fun H locs hw => ?_)
      exact r_i cx hr hlocks hw (pr1 h) (congrArg (fun z0 => (XC g q z0)) (pr2 h)) dX4_turn_21
set_option maxHeartbeats 4000000 in
set_option maxRecDepth 100000 in
theorem c_X4_like (l : Launch) (g : gE) (q : Nat → Nat) (N : Nat) (p1 : Int32) (p2 : Int32) (d : XD) (r : Int32) (d' : XD) (h : f_X4_like N  p1 p2 d = some (r, d')) : MO l yX4_like (Cond.code yX4_like cX4_like 3 (some .int) :: TB) rm_X4_like [.ref (q 0), .int p1, .int p2] g ((XC g q d)) ((XC g q d')) (some (.int r)) 0 0 := by
  refine MO.of (cc := cX4_like) (maxL := 3) (ret := (some .int)) (by decide) ?_
  intro p e s m below meth c cx hw hr hlocks _
  have hx := cx.1.1
  have hb := cx.1.2.1
  refine en_go (lv := [(0, .ref (q 0)), (1, .int p1), (2, .int p2)]) (Nat.le_of_ble_eq_true rfl) rfl (fun ls hl => ?_)
  unfold f_X4_like at h
  refine lv_aload_n hx hb dX4_like_0 rfl (lv_at hl 0 rfl) ?_
  refine lv_iload_n hx hb dX4_like_1 rfl (lv_at hl 1 rfl) ?_
  refine lv_iload_n hx hb dX4_like_2 rfl (lv_at hl 2 rfl) ?_
  obtain ⟨x1, g2, h⟩ := bd_ex h
  refine c_V (As := [.int p1, .int p2]) (rest := []) (w' := (XC g q d)) cx hw (c_X4_areTwo l g q N p1 p2 d x1 g2) (cl_X4_117 cx.1.2.2.2.2 ⟨Nat.le_of_ble_eq_true rfl, Nat.le_of_ble_eq_true rfl⟩) (x_recv cx hw (ci := 4) rfl 0 rfl) (Ct.all (XC_ll ..)) hl.1 rfl rfl (Nat.le_of_ble_eq_true rfl) dX4_like_3 ⟨Nat.le_of_ble_eq_true rfl, Nat.le_of_ble_eq_true rfl⟩ (st1 := [.int x1]) rfl (fun H locs hw => ?_)
  refine lv_if_ne (tgt := 16) hx hb dX4_like_6 (by decide) (fun c3 => ?_) (fun c3 => ?_)
  · replace h := ite_f c3 h
    refine lv_aload_n hx hb dX4_like_16 rfl (lv_at hl 0 rfl) ?_
    refine gf_X4_12 cx hw 0 rfl rfl dX4_like_17 ?_
    refine lv_iload_n hx hb dX4_like_20 rfl (lv_at hl 1 rfl) ?_
    refine lv_iload_n hx hb dX4_like_21 rfl (lv_at hl 2 rfl) ?_
    obtain ⟨x4, g5, h⟩ := bd_ex h
    refine c_V (As := [.int p1, .int p2]) (rest := []) (w' := (XC g q d)) cx hw (c_X3_likeness l g (qs 1 q) N p1 p2 (x_valley d) x4 g5) (cl_X4_120 cx.1.2.2.2.2 ⟨Nat.le_of_ble_eq_true rfl, Nat.le_of_ble_eq_true rfl⟩) (x_recv cx hw (ci := 3) rfl 1 rfl) (ct_X__1_2_3_4_5_6_7_8_9_10_11_12_13__V g q d ) hl.1 rfl rfl (Nat.le_of_ble_eq_true rfl) dX4_like_22 ⟨Nat.le_of_ble_eq_true rfl, Nat.le_of_ble_eq_true rfl⟩ (st1 := [.int x4]) rfl (fun H locs hw => ?_)
    exact r_i cx hr hlocks hw (pr1 h) (congrArg (fun z0 => (XC g q z0)) (pr2 h)) dX4_like_25
  · replace h := ite_t c3 h
    refine lv_aload_n hx hb dX4_like_9 rfl (lv_at hl 0 rfl) ?_
    refine lv_ldc hx hb cx.1.2.2.2.1 (cx.1.2.2.2.2 _ tw_1_202) dX4_like_10 ?_
    obtain ⟨x6, d7, g8, h⟩ := bd2_ex h
    refine c_V (As := [.int (-1000000001 : Int32)]) (rest := []) (w' := (XC g q d7)) cx hw (c_X4_tell l g q N (-1000000001 : Int32) d x6 d7 g8) (cl_X4_45 cx.1.2.2.2.2 ⟨Nat.le_of_ble_eq_true rfl, Nat.le_of_ble_eq_true rfl⟩) (x_recv cx hw (ci := 4) rfl 0 rfl) (Ct.all (XC_ll ..)) hl.1 rfl rfl (Nat.le_of_ble_eq_true rfl) dX4_like_12 ⟨Nat.le_of_ble_eq_true rfl, Nat.le_of_ble_eq_true rfl⟩ (st1 := [.int x6]) rfl (fun H locs hw => ?_)
    exact r_i cx hr hlocks hw (pr1 h) (congrArg (fun z0 => (XC g q z0)) (pr2 h)) dX4_like_15
set_option maxHeartbeats 4000000 in
set_option maxRecDepth 100000 in
theorem c_X4_same (l : Launch) (g : gE) (q : Nat → Nat) (N : Nat) (p1 : Int32) (p2 : Int32) (d : XD) (r : Int32) (d' : XD) (h : f_X4_same N  p1 p2 d = some (r, d')) : MO l yX4_same (Cond.code yX4_same cX4_same 3 (some .int) :: TB) rm_X4_same [.ref (q 0), .int p1, .int p2] g ((XC g q d)) ((XC g q d')) (some (.int r)) 0 0 := by
  refine MO.of (cc := cX4_same) (maxL := 3) (ret := (some .int)) (by decide) ?_
  intro p e s m below meth c cx hw hr hlocks _
  have hx := cx.1.1
  have hb := cx.1.2.1
  refine en_go (lv := [(0, .ref (q 0)), (1, .int p1), (2, .int p2)]) (Nat.le_of_ble_eq_true rfl) rfl (fun ls hl => ?_)
  unfold f_X4_same at h
  refine lv_aload_n hx hb dX4_same_0 rfl (lv_at hl 0 rfl) ?_
  refine lv_iload_n hx hb dX4_same_1 rfl (lv_at hl 1 rfl) ?_
  refine lv_iload_n hx hb dX4_same_2 rfl (lv_at hl 2 rfl) ?_
  obtain ⟨x1, g2, h⟩ := bd_ex h
  refine c_V (As := [.int p1, .int p2]) (rest := []) (w' := (XC g q d)) cx hw (c_X4_areTwo l g q N p1 p2 d x1 g2) (cl_X4_117 cx.1.2.2.2.2 ⟨Nat.le_of_ble_eq_true rfl, Nat.le_of_ble_eq_true rfl⟩) (x_recv cx hw (ci := 4) rfl 0 rfl) (Ct.all (XC_ll ..)) hl.1 rfl rfl (Nat.le_of_ble_eq_true rfl) dX4_same_3 ⟨Nat.le_of_ble_eq_true rfl, Nat.le_of_ble_eq_true rfl⟩ (st1 := [.int x1]) rfl (fun H locs hw => ?_)
  refine lv_if_ne (tgt := 16) hx hb dX4_same_6 (by decide) (fun c3 => ?_) (fun c3 => ?_)
  · replace h := ite_f c3 h
    refine lv_bipush (v := 9) hx hb dX4_same_16 (by decide) ?_
    refine lv_aload_n hx hb dX4_same_18 rfl (lv_at hl 0 rfl) ?_
    refine gf_X4_12 cx hw 0 rfl rfl dX4_same_19 ?_
    refine gf_X4_102 cx hw 1 rfl rfl dX4_same_22 ?_
    refine lv_iload_n hx hb dX4_same_25 rfl (lv_at hl 1 rfl) ?_
    have ix4 := rd_in h
    refine x_iald cx hw 11 rfl ix4 dX4_same_26 ?_
    refine lv_topi (fun x4 ex4 => ?_)
    replace h := rd_nx ex4 h
    refine lv_aload_n hx hb dX4_same_27 rfl (lv_at hl 0 rfl) ?_
    refine gf_X4_12 cx hw 0 rfl rfl dX4_same_28 ?_
    refine gf_X4_102 cx hw 1 rfl rfl dX4_same_31 ?_
    refine lv_iload_n hx hb dX4_same_34 rfl (lv_at hl 2 rfl) ?_
    have ix5 := rd_in h
    refine x_iald cx hw 11 rfl ix5 dX4_same_35 ?_
    refine lv_topi (fun x5 ex5 => ?_)
    replace h := rd_nx ex5 h
    obtain ⟨x6, g7, h⟩ := bd_ex h
    refine c_S (As := [.int x4, .int x5]) (rest := [.int (9 : Int32)]) (w' := (XC g q d)) cx hw (c_X4_unlike l g  N x4 x5  x6 g7) (cl_X4_123 cx.1.2.2.2.2 ⟨Nat.le_of_ble_eq_true rfl, Nat.le_of_ble_eq_true rfl⟩) Ct.nil hl.1 rfl rfl (Nat.le_of_ble_eq_true rfl) dX4_same_36 ⟨Nat.le_of_ble_eq_true rfl, Nat.le_of_ble_eq_true rfl⟩ (st1 := [.int x6, .int (9 : Int32)]) rfl (fun H locs hw => ?_)
    obtain ⟨x8, g9, h⟩ := bd_ex h
    refine c_S (As := [.int x6]) (rest := [.int (9 : Int32)]) (w' := (XC g q d)) cx hw (c_J6_bitCount_0f7a4 l g  N x6  x8 g9) (cl_X4_126 cx.1.2.2.2.2 ⟨Nat.le_of_ble_eq_true rfl, Nat.le_of_ble_eq_true rfl⟩) Ct.nil hl.1 rfl rfl (Nat.le_of_ble_eq_true rfl) dX4_same_39 ⟨Nat.le_of_ble_eq_true rfl, Nat.le_of_ble_eq_true rfl⟩ (st1 := [.int x8, .int (9 : Int32)]) rfl (fun H locs hw => ?_)
    refine lv_isub hx hb dX4_same_42 ?_
    exact r_i cx hr hlocks hw (pr1 h) (congrArg (fun z0 => (XC g q z0)) (pr2 h)) dX4_same_43
  · replace h := ite_t c3 h
    refine lv_aload_n hx hb dX4_same_9 rfl (lv_at hl 0 rfl) ?_
    refine lv_ldc hx hb cx.1.2.2.2.1 (cx.1.2.2.2.2 _ tw_1_202) dX4_same_10 ?_
    obtain ⟨x10, d11, g12, h⟩ := bd2_ex h
    refine c_V (As := [.int (-1000000001 : Int32)]) (rest := []) (w' := (XC g q d11)) cx hw (c_X4_tell l g q N (-1000000001 : Int32) d x10 d11 g12) (cl_X4_45 cx.1.2.2.2.2 ⟨Nat.le_of_ble_eq_true rfl, Nat.le_of_ble_eq_true rfl⟩) (x_recv cx hw (ci := 4) rfl 0 rfl) (Ct.all (XC_ll ..)) hl.1 rfl rfl (Nat.le_of_ble_eq_true rfl) dX4_same_12 ⟨Nat.le_of_ble_eq_true rfl, Nat.le_of_ble_eq_true rfl⟩ (st1 := [.int x10]) rfl (fun H locs hw => ?_)
    exact r_i cx hr hlocks hw (pr1 h) (congrArg (fun z0 => (XC g q z0)) (pr2 h)) dX4_same_15
set_option maxHeartbeats 4000000 in
set_option maxRecDepth 100000 in
theorem c_X4_heir (l : Launch) (g : gE) (q : Nat → Nat) (N : Nat) (p1 : Int32) (d : XD) (r : Int32) (d' : XD) (h : f_X4_heir N  p1 d = some (r, d')) : MO l yX4_heir (Cond.code yX4_heir cX4_heir 3 (some .int) :: TB) rm_X4_heir [.ref (q 0), .int p1] g ((XC g q d)) ((XC g q d')) (some (.int r)) 0 0 := by
  refine MO.of (cc := cX4_heir) (maxL := 3) (ret := (some .int)) (by decide) ?_
  intro p e s m below meth c cx hw hr hlocks _
  have hx := cx.1.1
  have hb := cx.1.2.1
  refine en_go (lv := [(0, .ref (q 0)), (1, .int p1)]) (Nat.le_of_ble_eq_true rfl) rfl (fun ls hl => ?_)
  unfold f_X4_heir at h
  refine lv_aload_n hx hb dX4_heir_0 rfl (lv_at hl 0 rfl) ?_
  refine lv_iload_n hx hb dX4_heir_1 rfl (lv_at hl 1 rfl) ?_
  obtain ⟨x1, g2, h⟩ := bd_ex h
  refine c_V (As := [.int p1]) (rest := []) (w' := (XC g q d)) cx hw (c_X4_isOne l g q N p1 d x1 g2) (cl_X4_72 cx.1.2.2.2.2 ⟨Nat.le_of_ble_eq_true rfl, Nat.le_of_ble_eq_true rfl⟩) (x_recv cx hw (ci := 4) rfl 0 rfl) (Ct.all (XC_ll ..)) hl.1 rfl rfl (Nat.le_of_ble_eq_true rfl) dX4_heir_2 ⟨Nat.le_of_ble_eq_true rfl, Nat.le_of_ble_eq_true rfl⟩ (st1 := [.int x1]) rfl (fun H locs hw => ?_)
  refine lv_if_ne (tgt := 15) hx hb dX4_heir_5 (by decide) (fun c3 => ?_) (fun c3 => ?_)
  · replace h := ite_f c3 h
    refine lv_aload_n hx hb dX4_heir_15 rfl (lv_at hl 0 rfl) ?_
    refine gf_X4_12 cx hw 0 rfl rfl dX4_heir_16 ?_
    refine lv_iload_n hx hb dX4_heir_19 rfl (lv_at hl 1 rfl) ?_
    obtain ⟨x4, g5, h⟩ := bd_ex h
    refine c_V (As := [.int p1]) (rest := []) (w' := (XC g q d)) cx hw (c_X3_heirFor l g (qs 1 q) N p1 (x_valley d) x4 g5) (cl_X4_131 cx.1.2.2.2.2 ⟨Nat.le_of_ble_eq_true rfl, Nat.le_of_ble_eq_true rfl⟩) (x_recv cx hw (ci := 3) rfl 1 rfl) (ct_X__1_2_3_4_5_6_7_8_9_10_11_12_13__V g q d ) hl.1 rfl rfl (Nat.le_of_ble_eq_true rfl) dX4_heir_20 ⟨Nat.le_of_ble_eq_true rfl, Nat.le_of_ble_eq_true rfl⟩ (st1 := [.int x4]) rfl (fun H locs hw => ?_)
    refine lv_istore_n (lv' := [(2, .int x4), (0, .ref (q 0)), (1, .int p1)]) hx hb dX4_heir_23 rfl hl (by decide) rfl (fun ls hl => ?_)
    refine lv_iload_n hx hb dX4_heir_24 rfl (lv_at hl 0 rfl) ?_
    refine lv_iconst (v := -1) hx hb dX4_heir_25 (by decide) ?_
    refine lv_icmp_ne (tgt := 38) hx hb dX4_heir_26 (by decide) (fun c6 => ?_) (fun c6 => ?_)
    · replace h := ite_f c6 h
      refine lv_iload_n hx hb dX4_heir_38 rfl (lv_at hl 0 rfl) ?_
      exact r_i cx hr hlocks hw (pr1 h) (congrArg (fun z0 => (XC g q z0)) (pr2 h)) dX4_heir_39
    · replace h := ite_t c6 h
      refine lv_aload_n hx hb dX4_heir_29 rfl (lv_at hl 1 rfl) ?_
      refine lv_ldc hx hb cx.1.2.2.2.1 (cx.1.2.2.2.2 _ tw_2_92) dX4_heir_30 ?_
      obtain ⟨x7, d8, g9, h⟩ := bd2_ex h
      refine c_V (As := [.int (-1000000004 : Int32)]) (rest := []) (w' := (XC g q d8)) cx hw (c_X4_tell l g q N (-1000000004 : Int32) d x7 d8 g9) (cl_X4_45 cx.1.2.2.2.2 ⟨Nat.le_of_ble_eq_true rfl, Nat.le_of_ble_eq_true rfl⟩) (x_recv cx hw (ci := 4) rfl 0 rfl) (Ct.all (XC_ll ..)) hl.1 rfl rfl (Nat.le_of_ble_eq_true rfl) dX4_heir_32 ⟨Nat.le_of_ble_eq_true rfl, Nat.le_of_ble_eq_true rfl⟩ (st1 := [.int x7]) rfl (fun H locs hw => ?_)
      refine lv_goto (tgt := 39) hx hb dX4_heir_35 (by decide) ?_
      exact r_i cx hr hlocks hw (pr1 h) (congrArg (fun z0 => (XC g q z0)) (pr2 h)) dX4_heir_39
  · replace h := ite_t c3 h
    refine lv_aload_n hx hb dX4_heir_8 rfl (lv_at hl 0 rfl) ?_
    refine lv_ldc hx hb cx.1.2.2.2.1 (cx.1.2.2.2.2 _ tw_1_202) dX4_heir_9 ?_
    obtain ⟨x10, d11, g12, h⟩ := bd2_ex h
    refine c_V (As := [.int (-1000000001 : Int32)]) (rest := []) (w' := (XC g q d11)) cx hw (c_X4_tell l g q N (-1000000001 : Int32) d x10 d11 g12) (cl_X4_45 cx.1.2.2.2.2 ⟨Nat.le_of_ble_eq_true rfl, Nat.le_of_ble_eq_true rfl⟩) (x_recv cx hw (ci := 4) rfl 0 rfl) (Ct.all (XC_ll ..)) hl.1 rfl rfl (Nat.le_of_ble_eq_true rfl) dX4_heir_11 ⟨Nat.le_of_ble_eq_true rfl, Nat.le_of_ble_eq_true rfl⟩ (st1 := [.int x10]) rfl (fun H locs hw => ?_)
    exact r_i cx hr hlocks hw (pr1 h) (congrArg (fun z0 => (XC g q z0)) (pr2 h)) dX4_heir_14
set_option maxHeartbeats 4000000 in
set_option maxRecDepth 100000 in
theorem c_X4_heirOf (l : Launch) (g : gE) (q : Nat → Nat) (N : Nat) (p1 : Int32) (d : XD) (r : Int32) (d' : XD) (h : f_X4_heirOf N  p1 d = some (r, d')) : MO l yX4_heirOf (Cond.code yX4_heirOf cX4_heirOf 2 (some .int) :: TB) rm_X4_heirOf [.ref (q 0), .int p1] g ((XC g q d)) ((XC g q d')) (some (.int r)) 0 0 := by
  refine MO.of (cc := cX4_heirOf) (maxL := 2) (ret := (some .int)) (by decide) ?_
  intro p e s m below meth c cx hw hr hlocks _
  have hx := cx.1.1
  have hb := cx.1.2.1
  refine en_go (lv := [(0, .ref (q 0)), (1, .int p1)]) (Nat.le_of_ble_eq_true rfl) rfl (fun ls hl => ?_)
  unfold f_X4_heirOf at h
  refine lv_aload_n hx hb dX4_heirOf_0 rfl (lv_at hl 0 rfl) ?_
  refine lv_iload_n hx hb dX4_heirOf_1 rfl (lv_at hl 1 rfl) ?_
  obtain ⟨x1, g2, h⟩ := bd_ex h
  refine c_V (As := [.int p1]) (rest := []) (w' := (XC g q d)) cx hw (c_X4_isOne l g q N p1 d x1 g2) (cl_X4_72 cx.1.2.2.2.2 ⟨Nat.le_of_ble_eq_true rfl, Nat.le_of_ble_eq_true rfl⟩) (x_recv cx hw (ci := 4) rfl 0 rfl) (Ct.all (XC_ll ..)) hl.1 rfl rfl (Nat.le_of_ble_eq_true rfl) dX4_heirOf_2 ⟨Nat.le_of_ble_eq_true rfl, Nat.le_of_ble_eq_true rfl⟩ (st1 := [.int x1]) rfl (fun H locs hw => ?_)
  refine lv_if_eq (tgt := 19) hx hb dX4_heirOf_5 (by decide) (fun c3 => ?_) (fun c3 => ?_)
  · replace h := ite_t c3 h
    refine lv_aload_n hx hb dX4_heirOf_19 rfl (lv_at hl 0 rfl) ?_
    refine lv_ldc hx hb cx.1.2.2.2.1 (cx.1.2.2.2.2 _ tw_1_202) dX4_heirOf_20 ?_
    obtain ⟨x4, d5, g6, h⟩ := bd2_ex h
    refine c_V (As := [.int (-1000000001 : Int32)]) (rest := []) (w' := (XC g q d5)) cx hw (c_X4_tell l g q N (-1000000001 : Int32) d x4 d5 g6) (cl_X4_45 cx.1.2.2.2.2 ⟨Nat.le_of_ble_eq_true rfl, Nat.le_of_ble_eq_true rfl⟩) (x_recv cx hw (ci := 4) rfl 0 rfl) (Ct.all (XC_ll ..)) hl.1 rfl rfl (Nat.le_of_ble_eq_true rfl) dX4_heirOf_22 ⟨Nat.le_of_ble_eq_true rfl, Nat.le_of_ble_eq_true rfl⟩ (st1 := [.int x4]) rfl (fun H locs hw => ?_)
    exact r_i cx hr hlocks hw (pr1 h) (congrArg (fun z0 => (XC g q z0)) (pr2 h)) dX4_heirOf_25
  · replace h := ite_f c3 h
    refine lv_aload_n hx hb dX4_heirOf_8 rfl (lv_at hl 0 rfl) ?_
    refine gf_X4_12 cx hw 0 rfl rfl dX4_heirOf_9 ?_
    refine lv_iload_n hx hb dX4_heirOf_12 rfl (lv_at hl 1 rfl) ?_
    obtain ⟨x7, g8, h⟩ := bd_ex h
    refine c_V (As := [.int p1]) (rest := []) (w' := (XC g q d)) cx hw (c_X3_leaversTo l g (qs 1 q) N p1 (x_valley d) x7 g8) (cl_X4_135 cx.1.2.2.2.2 ⟨Nat.le_of_ble_eq_true rfl, Nat.le_of_ble_eq_true rfl⟩) (x_recv cx hw (ci := 3) rfl 1 rfl) (ct_X__1_2_3_4_5_6_7_8_9_10_11_12_13__V g q d ) hl.1 rfl rfl (Nat.le_of_ble_eq_true rfl) dX4_heirOf_13 ⟨Nat.le_of_ble_eq_true rfl, Nat.le_of_ble_eq_true rfl⟩ (st1 := [.int x7]) rfl (fun H locs hw => ?_)
    refine lv_goto (tgt := 25) hx hb dX4_heirOf_16 (by decide) ?_
    exact r_i cx hr hlocks hw (pr1 h) (congrArg (fun z0 => (XC g q z0)) (pr2 h)) dX4_heirOf_25
set_option maxHeartbeats 4000000 in
set_option maxRecDepth 100000 in
theorem c_X4_watched (l : Launch) (g : gE) (q : Nat → Nat) (N : Nat) (p1 : Int32) (d : XD) (r : Int32) (d' : XD) (h : f_X4_watched N  p1 d = some (r, d')) : MO l yX4_watched (Cond.code yX4_watched cX4_watched 2 (some .int) :: TB) rm_X4_watched [.ref (q 0), .int p1] g ((XC g q d)) ((XC g q d')) (some (.int r)) 0 0 := by
  refine MO.of (cc := cX4_watched) (maxL := 2) (ret := (some .int)) (by decide) ?_
  intro p e s m below meth c cx hw hr hlocks _
  have hx := cx.1.1
  have hb := cx.1.2.1
  refine en_go (lv := [(0, .ref (q 0)), (1, .int p1)]) (Nat.le_of_ble_eq_true rfl) rfl (fun ls hl => ?_)
  unfold f_X4_watched at h
  refine lv_aload_n hx hb dX4_watched_0 rfl (lv_at hl 0 rfl) ?_
  refine lv_iload_n hx hb dX4_watched_1 rfl (lv_at hl 1 rfl) ?_
  obtain ⟨x1, g2, h⟩ := bd_ex h
  refine c_V (As := [.int p1]) (rest := []) (w' := (XC g q d)) cx hw (c_X4_isOne l g q N p1 d x1 g2) (cl_X4_72 cx.1.2.2.2.2 ⟨Nat.le_of_ble_eq_true rfl, Nat.le_of_ble_eq_true rfl⟩) (x_recv cx hw (ci := 4) rfl 0 rfl) (Ct.all (XC_ll ..)) hl.1 rfl rfl (Nat.le_of_ble_eq_true rfl) dX4_watched_2 ⟨Nat.le_of_ble_eq_true rfl, Nat.le_of_ble_eq_true rfl⟩ (st1 := [.int x1]) rfl (fun H locs hw => ?_)
  refine lv_if_eq (tgt := 19) hx hb dX4_watched_5 (by decide) (fun c3 => ?_) (fun c3 => ?_)
  · replace h := ite_t c3 h
    refine lv_aload_n hx hb dX4_watched_19 rfl (lv_at hl 0 rfl) ?_
    refine lv_ldc hx hb cx.1.2.2.2.1 (cx.1.2.2.2.2 _ tw_1_202) dX4_watched_20 ?_
    obtain ⟨x4, d5, g6, h⟩ := bd2_ex h
    refine c_V (As := [.int (-1000000001 : Int32)]) (rest := []) (w' := (XC g q d5)) cx hw (c_X4_tell l g q N (-1000000001 : Int32) d x4 d5 g6) (cl_X4_45 cx.1.2.2.2.2 ⟨Nat.le_of_ble_eq_true rfl, Nat.le_of_ble_eq_true rfl⟩) (x_recv cx hw (ci := 4) rfl 0 rfl) (Ct.all (XC_ll ..)) hl.1 rfl rfl (Nat.le_of_ble_eq_true rfl) dX4_watched_22 ⟨Nat.le_of_ble_eq_true rfl, Nat.le_of_ble_eq_true rfl⟩ (st1 := [.int x4]) rfl (fun H locs hw => ?_)
    exact r_i cx hr hlocks hw (pr1 h) (congrArg (fun z0 => (XC g q z0)) (pr2 h)) dX4_watched_25
  · replace h := ite_f c3 h
    refine lv_aload_n hx hb dX4_watched_8 rfl (lv_at hl 0 rfl) ?_
    refine gf_X4_12 cx hw 0 rfl rfl dX4_watched_9 ?_
    refine lv_iload_n hx hb dX4_watched_12 rfl (lv_at hl 1 rfl) ?_
    obtain ⟨x7, g8, h⟩ := bd_ex h
    refine c_V (As := [.int p1]) (rest := []) (w' := (XC g q d)) cx hw (c_X3_watchersOf l g (qs 1 q) N p1 (x_valley d) x7 g8) (cl_X4_138 cx.1.2.2.2.2 ⟨Nat.le_of_ble_eq_true rfl, Nat.le_of_ble_eq_true rfl⟩) (x_recv cx hw (ci := 3) rfl 1 rfl) (ct_X__1_2_3_4_5_6_7_8_9_10_11_12_13__V g q d ) hl.1 rfl rfl (Nat.le_of_ble_eq_true rfl) dX4_watched_13 ⟨Nat.le_of_ble_eq_true rfl, Nat.le_of_ble_eq_true rfl⟩ (st1 := [.int x7]) rfl (fun H locs hw => ?_)
    refine lv_goto (tgt := 25) hx hb dX4_watched_16 (by decide) ?_
    exact r_i cx hr hlocks hw (pr1 h) (congrArg (fun z0 => (XC g q z0)) (pr2 h)) dX4_watched_25
set_option maxHeartbeats 4000000 in
set_option maxRecDepth 100000 in
theorem c_X4_changes (l : Launch) (g : gE) (q : Nat → Nat) (N : Nat) (p1 : Int32) (d : XD) (r : Int32) (d' : XD) (h : f_X4_changes N  p1 d = some (r, d')) : MO l yX4_changes (Cond.code yX4_changes cX4_changes 3 (some .int) :: TB) rm_X4_changes [.ref (q 0), .int p1] g ((XC g q d)) ((XC g q d')) (some (.int r)) 0 0 := by
  refine MO.of (cc := cX4_changes) (maxL := 3) (ret := (some .int)) (by decide) ?_
  intro p e s m below meth c cx hw hr hlocks _
  have hx := cx.1.1
  have hb := cx.1.2.1
  refine en_go (lv := [(0, .ref (q 0)), (1, .int p1)]) (Nat.le_of_ble_eq_true rfl) rfl (fun ls hl => ?_)
  have J38 : ∀ (t0 : Int32) (d_ : XD) (H : Heap) (locs : List Loc) (ls : Array Slot), Wd g (va_A ((XC g q d)) s.heap.size) ((XC g q d_)) s H locs → lv_has ls 3 [(0, .ref (q 0))] → f_X4_changes_J38 N   t0 d_ = some (r, d') → W p l e rm_X4_changes s m ([.ref (q 0), .int p1] : List Value).toArray below meth c H locs 0 0 (MQ below (QO (some (.int r)) g ((XC g q d')) (va_A ((XC g q d)) s.heap.size)) ([.ref (q 0), .int p1] : List Value).toArray s 0 0 (va_A ((XC g q d)) s.heap.size)) (F0 m 38 ls [.int t0]) := by
    intro t0 d_ H locs ls hw hl h
    unfold f_X4_changes_J38 at h
    refine lv_istore_n (lv' := [(2, .int t0), (0, .ref (q 0))]) hx hb dX4_changes_38 rfl hl (by decide) rfl (fun ls hl => ?_)
    refine lv_iload_n hx hb dX4_changes_39 rfl (lv_at hl 0 rfl) ?_
    refine lv_iconst (v := -1) hx hb dX4_changes_40 (by decide) ?_
    refine lv_icmp_ne (tgt := 53) hx hb dX4_changes_41 (by decide) (fun c16 => ?_) (fun c16 => ?_)
    · replace h := ite_f c16 h
      refine lv_iload_n hx hb dX4_changes_53 rfl (lv_at hl 0 rfl) ?_
      refine lv_bipush (v := 10) hx hb dX4_changes_54 (by decide) ?_
      refine lv_idiv hx hb dX4_changes_56 (by decide) ?_
      exact r_i cx hr hlocks hw (pr1 h) (congrArg (fun z0 => (XC g q z0)) (pr2 h)) dX4_changes_57
    · replace h := ite_t c16 h
      refine lv_aload_n hx hb dX4_changes_44 rfl (lv_at hl 1 rfl) ?_
      refine lv_ldc hx hb cx.1.2.2.2.1 (cx.1.2.2.2.2 _ tw_2_92) dX4_changes_45 ?_
      obtain ⟨x17, d18, g19, h⟩ := bd2_ex h
      refine c_V (As := [.int (-1000000004 : Int32)]) (rest := []) (w' := (XC g q d18)) cx hw (c_X4_tell l g q N (-1000000004 : Int32) d_ x17 d18 g19) (cl_X4_45 cx.1.2.2.2.2 ⟨Nat.le_of_ble_eq_true rfl, Nat.le_of_ble_eq_true rfl⟩) (x_recv cx hw (ci := 4) rfl 0 rfl) (Ct.all (XC_ll ..)) hl.1 rfl rfl (Nat.le_of_ble_eq_true rfl) dX4_changes_47 ⟨Nat.le_of_ble_eq_true rfl, Nat.le_of_ble_eq_true rfl⟩ (st1 := [.int x17]) rfl (fun H locs hw => ?_)
      refine lv_goto (tgt := 57) hx hb dX4_changes_50 (by decide) ?_
      exact r_i cx hr hlocks hw (pr1 h) (congrArg (fun z0 => (XC g q z0)) (pr2 h)) dX4_changes_57
  unfold f_X4_changes at h
  refine lv_aload_n hx hb dX4_changes_0 rfl (lv_at hl 0 rfl) ?_
  refine lv_iload_n hx hb dX4_changes_1 rfl (lv_at hl 1 rfl) ?_
  obtain ⟨x1, g2, h⟩ := bd_ex h
  refine c_V (As := [.int p1]) (rest := []) (w' := (XC g q d)) cx hw (c_X4_isOne l g q N p1 d x1 g2) (cl_X4_72 cx.1.2.2.2.2 ⟨Nat.le_of_ble_eq_true rfl, Nat.le_of_ble_eq_true rfl⟩) (x_recv cx hw (ci := 4) rfl 0 rfl) (Ct.all (XC_ll ..)) hl.1 rfl rfl (Nat.le_of_ble_eq_true rfl) dX4_changes_2 ⟨Nat.le_of_ble_eq_true rfl, Nat.le_of_ble_eq_true rfl⟩ (st1 := [.int x1]) rfl (fun H locs hw => ?_)
  refine lv_if_ne (tgt := 15) hx hb dX4_changes_5 (by decide) (fun c3 => ?_) (fun c3 => ?_)
  · replace h := ite_f c3 h
    refine lv_aload_n hx hb dX4_changes_15 rfl (lv_at hl 0 rfl) ?_
    refine gf_X4_12 cx hw 0 rfl rfl dX4_changes_16 ?_
    refine lv_iload_n hx hb dX4_changes_19 rfl (lv_at hl 1 rfl) ?_
    obtain ⟨x4, g5, h⟩ := bd_ex h
    refine c_V (As := [.int p1]) (rest := []) (w' := (XC g q d)) cx hw (c_X3_lives l g (qs 1 q) N p1 (x_valley d) x4 g5) (cl_X4_90 cx.1.2.2.2.2 ⟨Nat.le_of_ble_eq_true rfl, Nat.le_of_ble_eq_true rfl⟩) (x_recv cx hw (ci := 3) rfl 1 rfl) (ct_X__1_2_3_4_5_6_7_8_9_10_11_12_13__V g q d ) hl.1 rfl rfl (Nat.le_of_ble_eq_true rfl) dX4_changes_20 ⟨Nat.le_of_ble_eq_true rfl, Nat.le_of_ble_eq_true rfl⟩ (st1 := [.int x4]) rfl (fun H locs hw => ?_)
    refine lv_if_eq (tgt := 37) hx hb dX4_changes_23 (by decide) (fun c6 => ?_) (fun c6 => ?_)
    · replace h := ite_t c6 h
      refine lv_iconst (v := -1) hx hb dX4_changes_37 (by decide) ?_
      exact J38 (-1 : Int32) d _ _ _ hw (lv_sub hl [0] rfl) h
    · replace h := ite_f c6 h
      refine lv_aload_n hx hb dX4_changes_26 rfl (lv_at hl 0 rfl) ?_
      refine gf_X4_12 cx hw 0 rfl rfl dX4_changes_27 ?_
      refine lv_iload_n hx hb dX4_changes_30 rfl (lv_at hl 1 rfl) ?_
      obtain ⟨x7, g8, h⟩ := bd_ex h
      refine c_V (As := [.int p1]) (rest := []) (w' := (XC g q d)) cx hw (c_X3_planOf l g (qs 1 q) N p1 (x_valley d) x7 g8) (cl_X4_141 cx.1.2.2.2.2 ⟨Nat.le_of_ble_eq_true rfl, Nat.le_of_ble_eq_true rfl⟩) (x_recv cx hw (ci := 3) rfl 1 rfl) (ct_X__1_2_3_4_5_6_7_8_9_10_11_12_13__V g q d ) hl.1 rfl rfl (Nat.le_of_ble_eq_true rfl) dX4_changes_31 ⟨Nat.le_of_ble_eq_true rfl, Nat.le_of_ble_eq_true rfl⟩ (st1 := [.int x7]) rfl (fun H locs hw => ?_)
      refine lv_goto (tgt := 38) hx hb dX4_changes_34 (by decide) ?_
      exact J38 x7 d _ _ _ hw (lv_sub hl [0] rfl) h
  · replace h := ite_t c3 h
    refine lv_aload_n hx hb dX4_changes_8 rfl (lv_at hl 0 rfl) ?_
    refine lv_ldc hx hb cx.1.2.2.2.1 (cx.1.2.2.2.2 _ tw_1_202) dX4_changes_9 ?_
    obtain ⟨x9, d10, g11, h⟩ := bd2_ex h
    refine c_V (As := [.int (-1000000001 : Int32)]) (rest := []) (w' := (XC g q d10)) cx hw (c_X4_tell l g q N (-1000000001 : Int32) d x9 d10 g11) (cl_X4_45 cx.1.2.2.2.2 ⟨Nat.le_of_ble_eq_true rfl, Nat.le_of_ble_eq_true rfl⟩) (x_recv cx hw (ci := 4) rfl 0 rfl) (Ct.all (XC_ll ..)) hl.1 rfl rfl (Nat.le_of_ble_eq_true rfl) dX4_changes_11 ⟨Nat.le_of_ble_eq_true rfl, Nat.le_of_ble_eq_true rfl⟩ (st1 := [.int x9]) rfl (fun H locs hw => ?_)
    exact r_i cx hr hlocks hw (pr1 h) (congrArg (fun z0 => (XC g q z0)) (pr2 h)) dX4_changes_14
set_option maxHeartbeats 4000000 in
set_option maxRecDepth 100000 in
theorem c_X4_isTooLate (l : Launch) (g : gE) (q : Nat → Nat) (N : Nat) (p1 : Int32) (d : XD) (r : Int32) (h : f_X4_isTooLate N  p1 d = some r) : MO l yX4_isTooLate (Cond.code yX4_isTooLate cX4_isTooLate 2 (some .boolean) :: TB) rm_X4_isTooLate [.ref (q 0), .int p1] g ((XC g q d)) ((XC g q d)) (some (.int r)) 0 0 := by
  refine MO.of (cc := cX4_isTooLate) (maxL := 2) (ret := (some .boolean)) (by decide) ?_
  intro p e s m below meth c cx hw hr hlocks _
  have hx := cx.1.1
  have hb := cx.1.2.1
  refine en_go (lv := [(0, .ref (q 0)), (1, .int p1)]) (Nat.le_of_ble_eq_true rfl) rfl (fun ls hl => ?_)
  unfold f_X4_isTooLate at h
  refine lv_aload_n hx hb dX4_isTooLate_0 rfl (lv_at hl 0 rfl) ?_
  refine gf_X4_12 cx hw 0 rfl rfl dX4_isTooLate_1 ?_
  refine gf_X4_154 cx hw 1 rfl rfl dX4_isTooLate_4 ?_
  refine lv_iload_n hx hb dX4_isTooLate_7 rfl (lv_at hl 1 rfl) ?_
  refine lv_iadd hx hb dX4_isTooLate_8 ?_
  refine lv_sipush (v := 9999) hx hb dX4_isTooLate_9 (by decide) ?_
  refine lv_icmp_le (tgt := 19) hx hb dX4_isTooLate_12 (by decide) (fun c1 => ?_) (fun c1 => ?_)
  · replace h := ite_t c1 h
    refine lv_iconst (v := 0) hx hb dX4_isTooLate_19 (by decide) ?_
    exact r_z cx hr hlocks rfl hw (sm_eq h) rfl dX4_isTooLate_20
  · replace h := ite_f c1 h
    refine lv_iconst (v := 1) hx hb dX4_isTooLate_15 (by decide) ?_
    refine lv_goto (tgt := 20) hx hb dX4_isTooLate_16 (by decide) ?_
    exact r_z cx hr hlocks rfl hw (sm_eq h) rfl dX4_isTooLate_20
set_option maxHeartbeats 4000000 in
set_option maxRecDepth 100000 in
theorem c_X4_years (l : Launch) (g : gE) (q : Nat → Nat) (N : Nat) (p1 : Int32) (d : XD) (r : Int32) (d' : XD) (h : f_X4_years N  p1 d = some (r, d')) : MO l yX4_years (Cond.code yX4_years cX4_years 2 (some .int) :: TB) rm_X4_years [.ref (q 0), .int p1] g ((XC g q d)) ((XC g q d')) (some (.int r)) 0 0 := by
  refine MO.of (cc := cX4_years) (maxL := 2) (ret := (some .int)) (by decide) ?_
  intro p e s m below meth c cx hw hr hlocks _
  have hx := cx.1.1
  have hb := cx.1.2.1
  refine en_go (lv := [(0, .ref (q 0)), (1, .int p1)]) (Nat.le_of_ble_eq_true rfl) rfl (fun ls hl => ?_)
  unfold f_X4_years at h
  refine lv_iload_n hx hb dX4_years_0 rfl (lv_at hl 1 rfl) ?_
  refine lv_iconst (v := 1) hx hb dX4_years_1 (by decide) ?_
  refine lv_bipush (v := 100) hx hb dX4_years_2 (by decide) ?_
  obtain ⟨x1, g2, h⟩ := bd_ex h
  refine c_S (As := [.int p1, .int (1 : Int32), .int (100 : Int32)]) (rest := []) (w' := (XC g q d)) cx hw (c_X4_isWithin l g  N p1 (1 : Int32) (100 : Int32)  x1 g2) (cl_X4_40 cx.1.2.2.2.2 ⟨Nat.le_of_ble_eq_true rfl, Nat.le_of_ble_eq_true rfl⟩) Ct.nil hl.1 rfl rfl (Nat.le_of_ble_eq_true rfl) dX4_years_4 ⟨Nat.le_of_ble_eq_true rfl, Nat.le_of_ble_eq_true rfl⟩ (st1 := [.int x1]) rfl (fun H locs hw => ?_)
  refine lv_if_ne (tgt := 17) hx hb dX4_years_7 (by decide) (fun c3 => ?_) (fun c3 => ?_)
  · replace h := ite_f c3 h
    refine lv_aload_n hx hb dX4_years_17 rfl (lv_at hl 0 rfl) ?_
    refine lv_iload_n hx hb dX4_years_18 rfl (lv_at hl 1 rfl) ?_
    obtain ⟨x4, g5, h⟩ := bd_ex h
    refine c_V (As := [.int p1]) (rest := []) (w' := (XC g q d)) cx hw (c_X4_isTooLate l g q N p1 d x4 g5) (cl_X4_144 cx.1.2.2.2.2 ⟨Nat.le_of_ble_eq_true rfl, Nat.le_of_ble_eq_true rfl⟩) (x_recv cx hw (ci := 4) rfl 0 rfl) (Ct.all (XC_ll ..)) hl.1 rfl rfl (Nat.le_of_ble_eq_true rfl) dX4_years_19 ⟨Nat.le_of_ble_eq_true rfl, Nat.le_of_ble_eq_true rfl⟩ (st1 := [.int x4]) rfl (fun H locs hw => ?_)
    refine lv_if_eq (tgt := 32) hx hb dX4_years_22 (by decide) (fun c6 => ?_) (fun c6 => ?_)
    · replace h := ite_t c6 h
      refine lv_aload_n hx hb dX4_years_32 rfl (lv_at hl 0 rfl) ?_
      refine gf_X4_12 cx hw 0 rfl rfl dX4_years_33 ?_
      refine lv_iload_n hx hb dX4_years_36 rfl (lv_at hl 1 rfl) ?_
      obtain ⟨x7, d8, g9, h⟩ := bd2_ex h
      refine c_V (As := [.int p1]) (rest := []) (w' := (XC g q (x_set_valley d d8))) cx hw (c_X3_goYears l g (qs 1 q) N p1 (x_valley d) x7 d8 g9) (cl_X4_148 cx.1.2.2.2.2 ⟨Nat.le_of_ble_eq_true rfl, Nat.le_of_ble_eq_true rfl⟩) (x_recv cx hw (ci := 3) rfl 1 rfl) (ct_X__1_2_3_4_5_6_7_8_9_10_11_12_13__V_0 g q d d8) hl.1 rfl rfl (Nat.le_of_ble_eq_true rfl) dX4_years_37 ⟨Nat.le_of_ble_eq_true rfl, Nat.le_of_ble_eq_true rfl⟩ (st1 := [.int x7]) rfl (fun H locs hw => ?_)
      obtain ⟨d10, ed10, h⟩ := lt_ex h
      have hw : Wd g (va_A ((XC g q d)) s.heap.size) ((XC g q d10)) s H locs := by rw [ed10]; exact hw
      exact r_i cx hr hlocks hw (pr1 h) (congrArg (fun z0 => (XC g q z0)) (pr2 h)) dX4_years_40
    · replace h := ite_f c6 h
      refine lv_aload_n hx hb dX4_years_25 rfl (lv_at hl 0 rfl) ?_
      refine lv_ldc hx hb cx.1.2.2.2.1 (cx.1.2.2.2.2 _ tw_2_130) dX4_years_26 ?_
      obtain ⟨x11, d12, g13, h⟩ := bd2_ex h
      refine c_V (As := [.int (-1000000005 : Int32)]) (rest := []) (w' := (XC g q d12)) cx hw (c_X4_tell l g q N (-1000000005 : Int32) d x11 d12 g13) (cl_X4_45 cx.1.2.2.2.2 ⟨Nat.le_of_ble_eq_true rfl, Nat.le_of_ble_eq_true rfl⟩) (x_recv cx hw (ci := 4) rfl 0 rfl) (Ct.all (XC_ll ..)) hl.1 rfl rfl (Nat.le_of_ble_eq_true rfl) dX4_years_28 ⟨Nat.le_of_ble_eq_true rfl, Nat.le_of_ble_eq_true rfl⟩ (st1 := [.int x11]) rfl (fun H locs hw => ?_)
      exact r_i cx hr hlocks hw (pr1 h) (congrArg (fun z0 => (XC g q z0)) (pr2 h)) dX4_years_31
  · replace h := ite_t c3 h
    refine lv_aload_n hx hb dX4_years_10 rfl (lv_at hl 0 rfl) ?_
    refine lv_ldc hx hb cx.1.2.2.2.1 (cx.1.2.2.2.2 _ tw_1_202) dX4_years_11 ?_
    obtain ⟨x14, d15, g16, h⟩ := bd2_ex h
    refine c_V (As := [.int (-1000000001 : Int32)]) (rest := []) (w' := (XC g q d15)) cx hw (c_X4_tell l g q N (-1000000001 : Int32) d x14 d15 g16) (cl_X4_45 cx.1.2.2.2.2 ⟨Nat.le_of_ble_eq_true rfl, Nat.le_of_ble_eq_true rfl⟩) (x_recv cx hw (ci := 4) rfl 0 rfl) (Ct.all (XC_ll ..)) hl.1 rfl rfl (Nat.le_of_ble_eq_true rfl) dX4_years_13 ⟨Nat.le_of_ble_eq_true rfl, Nat.le_of_ble_eq_true rfl⟩ (st1 := [.int x14]) rfl (fun H locs hw => ?_)
    exact r_i cx hr hlocks hw (pr1 h) (congrArg (fun z0 => (XC g q z0)) (pr2 h)) dX4_years_16
set_option maxHeartbeats 4000000 in
set_option maxRecDepth 100000 in
theorem c_X4_dies (l : Launch) (g : gE) (q : Nat → Nat) (N : Nat) (p1 : Int32) (d : XD) (r : Int32) (d' : XD) (h : f_X4_dies N  p1 d = some (r, d')) : MO l yX4_dies (Cond.code yX4_dies cX4_dies 2 (some .int) :: TB) rm_X4_dies [.ref (q 0), .int p1] g ((XC g q d)) ((XC g q d')) (some (.int r)) 0 0 := by
  refine MO.of (cc := cX4_dies) (maxL := 2) (ret := (some .int)) (by decide) ?_
  intro p e s m below meth c cx hw hr hlocks _
  have hx := cx.1.1
  have hb := cx.1.2.1
  refine en_go (lv := [(0, .ref (q 0)), (1, .int p1)]) (Nat.le_of_ble_eq_true rfl) rfl (fun ls hl => ?_)
  unfold f_X4_dies at h
  refine lv_aload_n hx hb dX4_dies_0 rfl (lv_at hl 0 rfl) ?_
  refine lv_iload_n hx hb dX4_dies_1 rfl (lv_at hl 1 rfl) ?_
  obtain ⟨x1, g2, h⟩ := bd_ex h
  refine c_V (As := [.int p1]) (rest := []) (w' := (XC g q d)) cx hw (c_X4_isOne l g q N p1 d x1 g2) (cl_X4_72 cx.1.2.2.2.2 ⟨Nat.le_of_ble_eq_true rfl, Nat.le_of_ble_eq_true rfl⟩) (x_recv cx hw (ci := 4) rfl 0 rfl) (Ct.all (XC_ll ..)) hl.1 rfl rfl (Nat.le_of_ble_eq_true rfl) dX4_dies_2 ⟨Nat.le_of_ble_eq_true rfl, Nat.le_of_ble_eq_true rfl⟩ (st1 := [.int x1]) rfl (fun H locs hw => ?_)
  refine lv_if_ne (tgt := 15) hx hb dX4_dies_5 (by decide) (fun c3 => ?_) (fun c3 => ?_)
  · replace h := ite_f c3 h
    refine lv_aload_n hx hb dX4_dies_15 rfl (lv_at hl 0 rfl) ?_
    refine gf_X4_12 cx hw 0 rfl rfl dX4_dies_16 ?_
    refine lv_iload_n hx hb dX4_dies_19 rfl (lv_at hl 1 rfl) ?_
    obtain ⟨x4, g5, h⟩ := bd_ex h
    refine c_V (As := [.int p1]) (rest := []) (w' := (XC g q d)) cx hw (c_X3_lives l g (qs 1 q) N p1 (x_valley d) x4 g5) (cl_X4_90 cx.1.2.2.2.2 ⟨Nat.le_of_ble_eq_true rfl, Nat.le_of_ble_eq_true rfl⟩) (x_recv cx hw (ci := 3) rfl 1 rfl) (ct_X__1_2_3_4_5_6_7_8_9_10_11_12_13__V g q d ) hl.1 rfl rfl (Nat.le_of_ble_eq_true rfl) dX4_dies_20 ⟨Nat.le_of_ble_eq_true rfl, Nat.le_of_ble_eq_true rfl⟩ (st1 := [.int x4]) rfl (fun H locs hw => ?_)
    refine lv_if_ne (tgt := 33) hx hb dX4_dies_23 (by decide) (fun c6 => ?_) (fun c6 => ?_)
    · replace h := ite_f c6 h
      refine lv_aload_n hx hb dX4_dies_33 rfl (lv_at hl 0 rfl) ?_
      refine gf_X4_12 cx hw 0 rfl rfl dX4_dies_34 ?_
      refine lv_iload_n hx hb dX4_dies_37 rfl (lv_at hl 1 rfl) ?_
      obtain ⟨x7, d8, g9, h⟩ := bd2_ex h
      refine c_V (As := [.int p1]) (rest := []) (w' := (XC g q (x_set_valley d d8))) cx hw (c_X3_letDie l g (qs 1 q) N p1 (x_valley d) x7 d8 g9) (cl_X4_151 cx.1.2.2.2.2 ⟨Nat.le_of_ble_eq_true rfl, Nat.le_of_ble_eq_true rfl⟩) (x_recv cx hw (ci := 3) rfl 1 rfl) (ct_X__1_2_3_4_5_6_7_8_9_10_11_12_13__V_0 g q d d8) hl.1 rfl rfl (Nat.le_of_ble_eq_true rfl) dX4_dies_38 ⟨Nat.le_of_ble_eq_true rfl, Nat.le_of_ble_eq_true rfl⟩ (st1 := [.int x7]) rfl (fun H locs hw => ?_)
      obtain ⟨d10, ed10, h⟩ := lt_ex h
      have hw : Wd g (va_A ((XC g q d)) s.heap.size) ((XC g q d10)) s H locs := by rw [ed10]; exact hw
      exact r_i cx hr hlocks hw (pr1 h) (congrArg (fun z0 => (XC g q z0)) (pr2 h)) dX4_dies_41
    · replace h := ite_t c6 h
      refine lv_aload_n hx hb dX4_dies_26 rfl (lv_at hl 0 rfl) ?_
      refine lv_ldc hx hb cx.1.2.2.2.1 (cx.1.2.2.2.2 _ tw_2_130) dX4_dies_27 ?_
      obtain ⟨x11, d12, g13, h⟩ := bd2_ex h
      refine c_V (As := [.int (-1000000005 : Int32)]) (rest := []) (w' := (XC g q d12)) cx hw (c_X4_tell l g q N (-1000000005 : Int32) d x11 d12 g13) (cl_X4_45 cx.1.2.2.2.2 ⟨Nat.le_of_ble_eq_true rfl, Nat.le_of_ble_eq_true rfl⟩) (x_recv cx hw (ci := 4) rfl 0 rfl) (Ct.all (XC_ll ..)) hl.1 rfl rfl (Nat.le_of_ble_eq_true rfl) dX4_dies_29 ⟨Nat.le_of_ble_eq_true rfl, Nat.le_of_ble_eq_true rfl⟩ (st1 := [.int x11]) rfl (fun H locs hw => ?_)
      exact r_i cx hr hlocks hw (pr1 h) (congrArg (fun z0 => (XC g q z0)) (pr2 h)) dX4_dies_32
  · replace h := ite_t c3 h
    refine lv_aload_n hx hb dX4_dies_8 rfl (lv_at hl 0 rfl) ?_
    refine lv_ldc hx hb cx.1.2.2.2.1 (cx.1.2.2.2.2 _ tw_1_202) dX4_dies_9 ?_
    obtain ⟨x14, d15, g16, h⟩ := bd2_ex h
    refine c_V (As := [.int (-1000000001 : Int32)]) (rest := []) (w' := (XC g q d15)) cx hw (c_X4_tell l g q N (-1000000001 : Int32) d x14 d15 g16) (cl_X4_45 cx.1.2.2.2.2 ⟨Nat.le_of_ble_eq_true rfl, Nat.le_of_ble_eq_true rfl⟩) (x_recv cx hw (ci := 4) rfl 0 rfl) (Ct.all (XC_ll ..)) hl.1 rfl rfl (Nat.le_of_ble_eq_true rfl) dX4_dies_11 ⟨Nat.le_of_ble_eq_true rfl, Nat.le_of_ble_eq_true rfl⟩ (st1 := [.int x14]) rfl (fun H locs hw => ?_)
    exact r_i cx hr hlocks hw (pr1 h) (congrArg (fun z0 => (XC g q z0)) (pr2 h)) dX4_dies_14
set_option maxHeartbeats 4000000 in
set_option maxRecDepth 100000 in
theorem c_X4_now (l : Launch) (g : gE) (q : Nat → Nat) (N : Nat) (p1 : Int32) (d : XD) (r : Int32) (d' : XD) (h : f_X4_now N  p1 d = some (r, d')) : MO l yX4_now (Cond.code yX4_now cX4_now 2 (some .int) :: TB) rm_X4_now [.ref (q 0), .int p1] g ((XC g q d)) ((XC g q d')) (some (.int r)) 0 0 := by
  refine MO.of (cc := cX4_now) (maxL := 2) (ret := (some .int)) (by decide) ?_
  intro p e s m below meth c cx hw hr hlocks _
  have hx := cx.1.1
  have hb := cx.1.2.1
  refine en_go (lv := [(0, .ref (q 0)), (1, .int p1)]) (Nat.le_of_ble_eq_true rfl) rfl (fun ls hl => ?_)
  unfold f_X4_now at h
  refine lv_iload_n hx hb dX4_now_0 rfl (lv_at hl 1 rfl) ?_
  by_cases c1 : p1 = 0
  · replace h := ite_t c1 h
    refine lv_tableIn (tgt := 32) hx hb dX4_now_1 (by rw [c1]; decide) (by rw [c1]; decide) (by rw [c1]; rfl) (by decide) ?_
    refine lv_aload_n hx hb dX4_now_32 rfl (lv_at hl 0 rfl) ?_
    refine gf_X4_12 cx hw 0 rfl rfl dX4_now_33 ?_
    refine gf_X4_154 cx hw 1 rfl rfl dX4_now_36 ?_
    exact r_i cx hr hlocks hw (pr1 h) (congrArg (fun z0 => (XC g q z0)) (pr2 h)) dX4_now_39
  · replace h := ite_f c1 h
    by_cases c2 : p1 = 1
    · replace h := ite_t c2 h
      refine lv_tableIn (tgt := 40) hx hb dX4_now_1 (by rw [c2]; decide) (by rw [c2]; decide) (by rw [c2]; rfl) (by decide) ?_
      refine lv_aload_n hx hb dX4_now_40 rfl (lv_at hl 0 rfl) ?_
      refine gf_X4_12 cx hw 0 rfl rfl dX4_now_41 ?_
      refine gf_X4_60 cx hw 1 rfl rfl dX4_now_44 ?_
      exact r_i cx hr hlocks hw (pr1 h) (congrArg (fun z0 => (XC g q z0)) (pr2 h)) dX4_now_47
    · replace h := ite_f c2 h
      by_cases c3 : p1 = 2
      · replace h := ite_t c3 h
        refine lv_tableIn (tgt := 48) hx hb dX4_now_1 (by rw [c3]; decide) (by rw [c3]; decide) (by rw [c3]; rfl) (by decide) ?_
        refine lv_aload_n hx hb dX4_now_48 rfl (lv_at hl 0 rfl) ?_
        refine gf_X4_12 cx hw 0 rfl rfl dX4_now_49 ?_
        refine gf_X4_157 cx hw 1 rfl rfl dX4_now_52 ?_
        obtain ⟨x4, g5, h⟩ := bd_ex h
        refine c_S (As := [.int (v_living (x_valley d))]) (rest := []) (w' := (XC g q d)) cx hw (c_J6_bitCount_0f7a4 l g  N (v_living (x_valley d))  x4 g5) (cl_X4_126 cx.1.2.2.2.2 ⟨Nat.le_of_ble_eq_true rfl, Nat.le_of_ble_eq_true rfl⟩) Ct.nil hl.1 rfl rfl (Nat.le_of_ble_eq_true rfl) dX4_now_55 ⟨Nat.le_of_ble_eq_true rfl, Nat.le_of_ble_eq_true rfl⟩ (st1 := [.int x4]) rfl (fun H locs hw => ?_)
        exact r_i cx hr hlocks hw (pr1 h) (congrArg (fun z0 => (XC g q z0)) (pr2 h)) dX4_now_58
      · replace h := ite_f c3 h
        by_cases c6 : p1 = 3
        · replace h := ite_t c6 h
          refine lv_tableIn (tgt := 59) hx hb dX4_now_1 (by rw [c6]; decide) (by rw [c6]; decide) (by rw [c6]; rfl) (by decide) ?_
          refine lv_aload_n hx hb dX4_now_59 rfl (lv_at hl 0 rfl) ?_
          refine gf_X4_12 cx hw 0 rfl rfl dX4_now_60 ?_
          refine lv_aload_n hx hb dX4_now_63 rfl (lv_at hl 0 rfl) ?_
          refine gf_X4_12 cx hw 0 rfl rfl dX4_now_64 ?_
          refine gf_X4_81 cx hw 1 rfl rfl dX4_now_67 ?_
          refine lv_aload_n hx hb dX4_now_70 rfl (lv_at hl 0 rfl) ?_
          refine gf_X4_12 cx hw 0 rfl rfl dX4_now_71 ?_
          refine gf_X4_157 cx hw 1 rfl rfl dX4_now_74 ?_
          obtain ⟨x7, g8, h⟩ := bd_ex h
          refine c_V (As := [.ref (qs 1 q 7), .int (v_living (x_valley d))]) (rest := []) (w' := (XC g q d)) cx hw (c_X3_sumOf l g (qs 1 q) (qs 1 q 7) 12 N (v_living (x_valley d)) (x_valley d) (v_goods (x_valley d)) x7 g8) (cl_X4_160 cx.1.2.2.2.2 ⟨Nat.le_of_ble_eq_true rfl, Nat.le_of_ble_eq_true rfl⟩) (x_recv cx hw (ci := 3) rfl 1 rfl) (ct_X__1_8__VO_A g q d ) hl.1 rfl rfl (Nat.le_of_ble_eq_true rfl) dX4_now_77 ⟨Nat.le_of_ble_eq_true rfl, Nat.le_of_ble_eq_true rfl⟩ (st1 := [.int x7]) rfl (fun H locs hw => ?_)
          exact r_i cx hr hlocks hw (pr1 h) (congrArg (fun z0 => (XC g q z0)) (pr2 h)) dX4_now_80
        · replace h := ite_f c6 h
          have tc1 : (p1).toInt ≠ 0 := fun e => c1 (Int32.toInt_inj.mp (e.trans (by decide)))
          have tc2 : (p1).toInt ≠ 1 := fun e => c2 (Int32.toInt_inj.mp (e.trans (by decide)))
          have tc3 : (p1).toInt ≠ 2 := fun e => c3 (Int32.toInt_inj.mp (e.trans (by decide)))
          have tc6 : (p1).toInt ≠ 3 := fun e => c6 (Int32.toInt_inj.mp (e.trans (by decide)))
          refine lv_tableOut (tgt := 81) hx hb dX4_now_1 (by omega) (by decide) ?_
          refine lv_aload_n hx hb dX4_now_81 rfl (lv_at hl 0 rfl) ?_
          refine lv_ldc hx hb cx.1.2.2.2.1 (cx.1.2.2.2.2 _ tw_1_202) dX4_now_82 ?_
          obtain ⟨x9, d10, g11, h⟩ := bd2_ex h
          refine c_V (As := [.int (-1000000001 : Int32)]) (rest := []) (w' := (XC g q d10)) cx hw (c_X4_tell l g q N (-1000000001 : Int32) d x9 d10 g11) (cl_X4_45 cx.1.2.2.2.2 ⟨Nat.le_of_ble_eq_true rfl, Nat.le_of_ble_eq_true rfl⟩) (x_recv cx hw (ci := 4) rfl 0 rfl) (Ct.all (XC_ll ..)) hl.1 rfl rfl (Nat.le_of_ble_eq_true rfl) dX4_now_84 ⟨Nat.le_of_ble_eq_true rfl, Nat.le_of_ble_eq_true rfl⟩ (st1 := [.int x9]) rfl (fun H locs hw => ?_)
          exact r_i cx hr hlocks hw (pr1 h) (congrArg (fun z0 => (XC g q z0)) (pr2 h)) dX4_now_87
