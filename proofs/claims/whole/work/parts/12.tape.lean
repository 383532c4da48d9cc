def f_X0_isMissing (N : Nat)   (d : SD) : Option (Int32) :=
  if (s_bits d) = 0 then
    some (1 : Int32)
  else
    some (0 : Int32)
def f_X0_begin_J15 (N : Nat)   (t1 : Int32) (d_ : SD) : Option (Int32 × SD) :=
  lt (s_set_size d_ t1) fun d3 =>
  (f_J7_fill_d0a16 N 40 (0 : Int64) (s_numbers d3)).bind fun f4 =>
  lt (s_set_numbers d3 f4) fun d6 =>
  some ((s_size d6), d6)
def f_X0_begin (N : Nat)  (p1 : Int32) (p2 : Int32) (d : SD) : Option (Int32 × SD) :=
  lt (s_set_bits d p1) fun d1 =>
  if p1 = 0 then
    f_X0_begin_J15 N   (0 : Int32) d1
  else
    f_X0_begin_J15 N   p2 d1
def f_X0_hasRange (N : Nat)  (p1 : Int32) (p2 : Int32) (d : SD) : Option (Int32) :=
  if p1 < 0 then
    some (0 : Int32)
  else
    if p2 < 0 then
      some (0 : Int32)
    else
      if ((s_size d) - p1) < p2 then
        some (0 : Int32)
      else
        some (1 : Int32)
def f_X0_put (N : Nat)  (p1 : Int32) (p2 : Int64) (d : SD) : Option (Int64 × SD) :=
  (f_X4_isWithin N p1 (0 : Int32) ((s_size d) - (1 : Int32))).bind fun x1 =>
  if x1 = 0 then
    some ((0 : Int64), d)
  else
    (rdL (s_numbers d) 40 p1).bind fun x4 =>
    if (s_bits d) = (8 : Int32) then
      (ck p1 40).bind fun _ =>
      lt (s_set_numbers d (vp_updL (s_numbers d) (p1).toNatClampNeg ((((((p2).toInt32)).toInt8.toInt32)).toInt64))) fun d12 =>
      some (x4, d12)
    else
      if (s_bits d) = (16 : Int32) then
        (ck p1 40).bind fun _ =>
        lt (s_set_numbers d (vp_updL (s_numbers d) (p1).toNatClampNeg ((((((p2).toInt32)).toInt16.toInt32)).toInt64))) fun d10 =>
        some (x4, d10)
      else
        (ck p1 40).bind fun _ =>
        lt (s_set_numbers d (vp_updL (s_numbers d) (p1).toNatClampNeg p2)) fun d8 =>
        some (x4, d8)
def f_X0_marksTold_L4 (N : Nat) (d : SD)  : Nat → Int32 → Int32 → Option (Int32)
  | 0, _, _ => none
  | n4 + 1, a1, a2 =>
  if (9 : Int32) ≤ a2 then
    some a1
  else
    if (s_size d) ≤ a2 then
      some a1
    else
      (rdL (s_numbers d) 40 a2).bind fun x3 =>
      if (lg_cmp x3 (0 : Int64)) < 0 then
        lt (a2 + 1) fun x5 =>
        f_X0_marksTold_L4 N d  n4 a1 x5
      else
        (rdL (s_numbers d) 40 a2).bind fun x6 =>
        if 0 ≤ (lg_cmp x6 (4 : Int64)) then
          lt (a2 + 1) fun x8 =>
          f_X0_marksTold_L4 N d  n4 a1 x8
        else
          lt (a1 ||| ((1 : Int32) <<< (a2 &&& 31))) fun x9 =>
          lt (a2 + 1) fun x10 =>
          f_X0_marksTold_L4 N d  n4 x9 x10
def f_X0_marksTold (N : Nat)   (d : SD) : Option (Int32) :=
  f_X0_marksTold_L4 N d  N (0 : Int32) (0 : Int32)
def f_X0_lookTold_L4 (N : Nat) (d : SD)  : Nat → Int32 → Int32 → Option (Int32)
  | 0, _, _ => none
  | n4 + 1, a1, a2 =>
  if (9 : Int32) ≤ a2 then
    some a1
  else
    if (s_size d) ≤ a2 then
      some a1
    else
      (rdL (s_numbers d) 40 a2).bind fun x3 =>
      (f_X4_withWay N a1 a2 (((x3 &&& (3 : Int64))).toInt32)).bind fun x4 =>
      lt (a2 + 1) fun x6 =>
      f_X0_lookTold_L4 N d  n4 x4 x6
def f_X0_lookTold (N : Nat)   (d : SD) : Option (Int32) :=
  f_X0_lookTold_L4 N d  N (0 : Int32) (0 : Int32)
def f_X1_hasRoom (N : Nat)  (p1 : Int32) (d : TD) : Option (Int32) :=
  if ((120 : Int32) - (t_length d)) < p1 then
    some (0 : Int32)
  else
    some (1 : Int32)
def f_X1_append (N : Nat)  (p1 : Int32) (d : TD) : Option (TD) :=
  (f_X1_hasRoom N (1 : Int32) d).bind fun x1 =>
  if x1 = 0 then
    some d
  else
    (ck (t_length d) 120).bind fun _ =>
    lt (t_set_bytes d (upd (t_bytes d) ((t_length d)).toNatClampNeg (vp_nar .byte ((p1).toInt8.toInt32)))) fun d5 =>
    lt (t_set_length d5 ((t_length d5) + (1 : Int32))) fun d6 =>
    some d6
def f_X1_clear (N : Nat)   (d : TD) : Option (Int32 × TD) :=
  lt (t_length d) fun x1 =>
  lt (t_set_length d (0 : Int32)) fun d2 =>
  some (x1, d2)
def f_X1_byteAt (N : Nat)  (p1 : Int32) (d : TD) : Option (Int32) :=
  if p1 < 0 then
    some (-1 : Int32)
  else
    if (t_length d) ≤ p1 then
      some (-1 : Int32)
    else
      (rd (t_bytes d) 120 p1).bind fun x3 =>
      some (x3 &&& (255 : Int32))
theorem ct_S__1__A_0 (g : gE) (q : Nat → Nat) (d : SD) (u0 : (Nat → Int64)) : Ct ((SC g q d)) ((ACJ g (q 1) 40 (s_numbers d))) ((SC g q (s_set_numbers d u0))) ((ACJ g (q 1) 40 u0)) := ⟨[1], [0], rfl, rfl, rfl, by decide, fun k hk => ct_cov (n := 2) (by decide) k hk, by decide⟩
set_option maxHeartbeats 4000000 in
set_option maxRecDepth 100000 in
theorem c_X0_isMissing (l : Launch) (g : gE) (q : Nat → Nat) (N : Nat)  (d : SD) (r : Int32) (h : f_X0_isMissing N  d = some r) : MO l yX0_isMissing (Cond.code yX0_isMissing cX0_isMissing 1 (some .boolean) :: TB) rm_X0_isMissing [.ref (q 0)] g ((SC g q d)) ((SC g q d)) (some (.int r)) 0 0 := by
  refine MO.of (cc := cX0_isMissing) (maxL := 1) (ret := (some .boolean)) (by decide) ?_
  intro p e s m below meth c cx hw hr hlocks _
  have hx := cx.1.1
  have hb := cx.1.2.1
  refine en_go (lv := [(0, .ref (q 0))]) (Nat.le_of_ble_eq_true rfl) rfl (fun ls hl => ?_)
  unfold f_X0_isMissing at h
  refine lv_aload_n hx hb dX0_isMissing_0 rfl (lv_at hl 0 rfl) ?_
  refine gf_X0_15 cx hw 0 rfl rfl dX0_isMissing_1 ?_
  refine lv_if_ne (tgt := 11) hx hb dX0_isMissing_4 (by decide) (fun c1 => ?_) (fun c1 => ?_)
  · replace h := ite_f c1 h
    refine lv_iconst (v := 0) hx hb dX0_isMissing_11 (by decide) ?_
    exact r_z cx hr hlocks rfl hw (sm_eq h) rfl dX0_isMissing_12
  · replace h := ite_t c1 h
    refine lv_iconst (v := 1) hx hb dX0_isMissing_7 (by decide) ?_
    refine lv_goto (tgt := 12) hx hb dX0_isMissing_8 (by decide) ?_
    exact r_z cx hr hlocks rfl hw (sm_eq h) rfl dX0_isMissing_12
set_option maxHeartbeats 4000000 in
set_option maxRecDepth 100000 in
theorem c_X0_begin (l : Launch) (g : gE) (q : Nat → Nat) (N : Nat) (p1 : Int32) (p2 : Int32) (d : SD) (r : Int32) (d' : SD) (h : f_X0_begin N  p1 p2 d = some (r, d')) : MO l yX0_begin (Cond.code yX0_begin cX0_begin 3 (some .int) :: TB) rm_X0_begin [.ref (q 0), .int p1, .int p2] g ((SC g q d)) ((SC g q d')) (some (.int r)) 0 0 := by
  refine MO.of (cc := cX0_begin) (maxL := 3) (ret := (some .int)) (by decide) ?_
  intro p e s m below meth c cx hw hr hlocks _
  have hx := cx.1.1
  have hb := cx.1.2.1
  refine en_go (lv := [(0, .ref (q 0)), (1, .int p1), (2, .int p2)]) (Nat.le_of_ble_eq_true rfl) rfl (fun ls hl => ?_)
  have J15 : ∀ (t1 : Int32) (d_ : SD) (H : Heap) (locs : List Loc) (ls : Array Slot), Wd g (va_A ((SC g q d)) s.heap.size) ((SC g q d_)) s H locs → lv_has ls 3 [(0, .ref (q 0))] → f_X0_begin_J15 N   t1 d_ = some (r, d') → W p l e rm_X0_begin s m ([.ref (q 0), .int p1, .int p2] : List Value).toArray below meth c H locs 0 0 (MQ below (QO (some (.int r)) g ((SC g q d')) (va_A ((SC g q d)) s.heap.size)) ([.ref (q 0), .int p1, .int p2] : List Value).toArray s 0 0 (va_A ((SC g q d)) s.heap.size)) (F0 m 15 ls [.int t1, .ref (q 0)]) := by
    intro t1 d_ H locs ls hw hl h
    unfold f_X0_begin_J15 at h
    refine pf_X0_19 cx hw 0 rfl rfl rfl (Nat.le_of_ble_eq_true rfl) dX0_begin_15 (fun H locs hw => ?_)
    obtain ⟨d7, ed7, h⟩ := lt_ex h
    have hw : Wd g (va_A ((SC g q d)) s.heap.size) ((SC g q d7)) s H locs := by rw [ed7]; exact hw
    refine lv_aload_n hx hb dX0_begin_18 rfl (lv_at hl 0 rfl) ?_
    refine gf_X0_11 cx hw 0 rfl rfl dX0_begin_19 ?_
    refine lv_lconst (v := 0) hx hb dX0_begin_22 (by decide) ?_
    obtain ⟨f8, g9, h⟩ := bd_ex h
    refine c_S (As := [.ref (q 1), .long (0 : Int64)]) (rest := []) (w' := (SC g q (s_set_numbers d7 f8))) cx hw (c_J7_fill_d0a16 l g (q 1) 40 N (0 : Int64) (s_numbers d7) f8 g9) (cl_X0_22 cx.1.2.2.2.2 ⟨Nat.le_of_ble_eq_true rfl, Nat.le_of_ble_eq_true rfl⟩) (ct_S__1__A_0 g q d7 f8) hl.1 rfl rfl (Nat.le_of_ble_eq_true rfl) dX0_begin_23 ⟨Nat.le_of_ble_eq_true rfl, Nat.le_of_ble_eq_true rfl⟩ (st1 := []) rfl (fun H locs hw => ?_)
    obtain ⟨d10, ed10, h⟩ := lt_ex h
    have hw : Wd g (va_A ((SC g q d)) s.heap.size) ((SC g q d10)) s H locs := by rw [ed10]; exact hw
    refine lv_aload_n hx hb dX0_begin_26 rfl (lv_at hl 0 rfl) ?_
    refine gf_X0_19 cx hw 0 rfl rfl dX0_begin_27 ?_
    exact r_i cx hr hlocks hw (pr1 h) (congrArg (fun z0 => (SC g q z0)) (pr2 h)) dX0_begin_30
  unfold f_X0_begin at h
  refine lv_aload_n hx hb dX0_begin_0 rfl (lv_at hl 0 rfl) ?_
  refine lv_iload_n hx hb dX0_begin_1 rfl (lv_at hl 1 rfl) ?_
  refine pf_X0_15 cx hw 0 rfl rfl rfl (Nat.le_of_ble_eq_true rfl) dX0_begin_2 (fun H locs hw => ?_)
  obtain ⟨d1, ed1, h⟩ := lt_ex h
  have hw : Wd g (va_A ((SC g q d)) s.heap.size) ((SC g q d1)) s H locs := by rw [ed1]; exact hw
  refine lv_aload_n hx hb dX0_begin_5 rfl (lv_at hl 0 rfl) ?_
  refine lv_iload_n hx hb dX0_begin_6 rfl (lv_at hl 1 rfl) ?_
  refine lv_if_ne (tgt := 14) hx hb dX0_begin_7 (by decide) (fun c2 => ?_) (fun c2 => ?_)
  · replace h := ite_f c2 h
    refine lv_iload_n hx hb dX0_begin_14 rfl (lv_at hl 2 rfl) ?_
    exact J15 p2 d1 _ _ _ hw (lv_sub hl [0] rfl) h
  · replace h := ite_t c2 h
    refine lv_iconst (v := 0) hx hb dX0_begin_10 (by decide) ?_
    refine lv_goto (tgt := 15) hx hb dX0_begin_11 (by decide) ?_
    exact J15 (0 : Int32) d1 _ _ _ hw (lv_sub hl [0] rfl) h
set_option maxHeartbeats 4000000 in
set_option maxRecDepth 100000 in
theorem c_X0_hasRange (l : Launch) (g : gE) (q : Nat → Nat) (N : Nat) (p1 : Int32) (p2 : Int32) (d : SD) (r : Int32) (h : f_X0_hasRange N  p1 p2 d = some r) : MO l yX0_hasRange (Cond.code yX0_hasRange cX0_hasRange 3 (some .boolean) :: TB) rm_X0_hasRange [.ref (q 0), .int p1, .int p2] g ((SC g q d)) ((SC g q d)) (some (.int r)) 0 0 := by
  refine MO.of (cc := cX0_hasRange) (maxL := 3) (ret := (some .boolean)) (by decide) ?_
  intro p e s m below meth c cx hw hr hlocks _
  have hx := cx.1.1
  have hb := cx.1.2.1
  refine en_go (lv := [(0, .ref (q 0)), (1, .int p1), (2, .int p2)]) (Nat.le_of_ble_eq_true rfl) rfl (fun ls hl => ?_)
  unfold f_X0_hasRange at h
  refine lv_iload_n hx hb dX0_hasRange_0 rfl (lv_at hl 1 rfl) ?_
  refine lv_if_lt (tgt := 22) hx hb dX0_hasRange_1 (by decide) (fun c1 => ?_) (fun c1 => ?_)
  · replace h := ite_t c1 h
    refine lv_iconst (v := 0) hx hb dX0_hasRange_22 (by decide) ?_
    exact r_z cx hr hlocks rfl hw (sm_eq h) rfl dX0_hasRange_23
  · replace h := ite_f c1 h
    refine lv_iload_n hx hb dX0_hasRange_4 rfl (lv_at hl 2 rfl) ?_
    refine lv_if_lt (tgt := 22) hx hb dX0_hasRange_5 (by decide) (fun c2 => ?_) (fun c2 => ?_)
    · replace h := ite_t c2 h
      refine lv_iconst (v := 0) hx hb dX0_hasRange_22 (by decide) ?_
      exact r_z cx hr hlocks rfl hw (sm_eq h) rfl dX0_hasRange_23
    · replace h := ite_f c2 h
      refine lv_iload_n hx hb dX0_hasRange_8 rfl (lv_at hl 2 rfl) ?_
      refine lv_aload_n hx hb dX0_hasRange_9 rfl (lv_at hl 0 rfl) ?_
      refine gf_X0_19 cx hw 0 rfl rfl dX0_hasRange_10 ?_
      refine lv_iload_n hx hb dX0_hasRange_13 rfl (lv_at hl 1 rfl) ?_
      refine lv_isub hx hb dX0_hasRange_14 ?_
      refine lv_icmp_gt (tgt := 22) hx hb dX0_hasRange_15 (by decide) (fun c3 => ?_) (fun c3 => ?_)
      · replace h := ite_t c3 h
        refine lv_iconst (v := 0) hx hb dX0_hasRange_22 (by decide) ?_
        exact r_z cx hr hlocks rfl hw (sm_eq h) rfl dX0_hasRange_23
      · replace h := ite_f c3 h
        refine lv_iconst (v := 1) hx hb dX0_hasRange_18 (by decide) ?_
        refine lv_goto (tgt := 23) hx hb dX0_hasRange_19 (by decide) ?_
        exact r_z cx hr hlocks rfl hw (sm_eq h) rfl dX0_hasRange_23
set_option maxHeartbeats 4000000 in
set_option maxRecDepth 100000 in
theorem c_X0_put (l : Launch) (g : gE) (q : Nat → Nat) (N : Nat) (p1 : Int32) (p2 : Int64) (d : SD) (r : Int64) (d' : SD) (h : f_X0_put N  p1 p2 d = some (r, d')) : MO l yX0_put (Cond.code yX0_put cX0_put 6 (some .long) :: TB) rm_X0_put [.ref (q 0), .int p1, .long p2] g ((SC g q d)) ((SC g q d')) (some (.long r)) 0 0 := by
  refine MO.of (cc := cX0_put) (maxL := 6) (ret := (some .long)) (by decide) ?_
  intro p e s m below meth c cx hw hr hlocks _
  have hx := cx.1.1
  have hb := cx.1.2.1
  refine en_go (lv := [(0, .ref (q 0)), (1, .int p1), (2, .long p2)]) (Nat.le_of_ble_eq_true rfl) rfl (fun ls hl => ?_)
  unfold f_X0_put at h
  refine lv_iload_n hx hb dX0_put_0 rfl (lv_at hl 1 rfl) ?_
  refine lv_iconst (v := 0) hx hb dX0_put_1 (by decide) ?_
  refine lv_aload_n hx hb dX0_put_2 rfl (lv_at hl 0 rfl) ?_
  refine gf_X0_19 cx hw 0 rfl rfl dX0_put_3 ?_
  refine lv_iconst (v := 1) hx hb dX0_put_6 (by decide) ?_
  refine lv_isub hx hb dX0_put_7 ?_
  obtain ⟨x1, g2, h⟩ := bd_ex h
  refine c_SN (As := [.int p1, .int (0 : Int32), .int ((s_size d) - (1 : Int32))]) (rest := []) (w' := (SC g q d)) cx hw (c_X4_isWithin l g  N p1 (0 : Int32) ((s_size d) - (1 : Int32))  x1 g2) (cl_X0_28 cx.1.2.2.2.2 cx.2.2.1 ⟨Nat.le_of_ble_eq_true rfl, Nat.le_of_ble_eq_true rfl⟩) Ct.nil hl.1 rfl rfl (Nat.le_of_ble_eq_true rfl) dX0_put_8 ⟨Nat.le_of_ble_eq_true rfl, Nat.le_of_ble_eq_true rfl⟩ (st1 := [.int x1]) rfl (fun H locs hw => ?_)
  refine lv_if_ne (tgt := 16) hx hb dX0_put_11 (by decide) (fun c3 => ?_) (fun c3 => ?_)
  · replace h := ite_f c3 h
    refine lv_aload_n hx hb dX0_put_16 rfl (lv_at hl 0 rfl) ?_
    refine gf_X0_11 cx hw 0 rfl rfl dX0_put_17 ?_
    refine lv_iload_n hx hb dX0_put_20 rfl (lv_at hl 1 rfl) ?_
    have ix4 := rdL_in h
    refine x_lald cx hw 1 rfl ix4 dX0_put_21 ?_
    refine lv_topl (fun x4 ex4 => ?_)
    replace h := rdL_nx ex4 h
    refine lv_lstore (lv' := [(4, .long x4), (0, .ref (q 0)), (1, .int p1), (2, .long p2)]) hx hb dX0_put_22 hl (by decide) rfl (fun ls hl => ?_)
    refine lv_aload_n hx hb dX0_put_24 rfl (lv_at hl 1 rfl) ?_
    refine gf_X0_11 cx hw 0 rfl rfl dX0_put_25 ?_
    refine lv_iload_n hx hb dX0_put_28 rfl (lv_at hl 2 rfl) ?_
    refine lv_aload_n hx hb dX0_put_29 rfl (lv_at hl 1 rfl) ?_
    refine gf_X0_15 cx hw 0 rfl rfl dX0_put_30 ?_
    refine lv_bipush (v := 8) hx hb dX0_put_33 (by decide) ?_
    refine lv_icmp_ne (tgt := 45) hx hb dX0_put_35 (by decide) (fun c5 => ?_) (fun c5 => ?_)
    · replace h := ite_f c5 h
      refine lv_aload_n hx hb dX0_put_45 rfl (lv_at hl 1 rfl) ?_
      refine gf_X0_15 cx hw 0 rfl rfl dX0_put_46 ?_
      refine lv_bipush (v := 16) hx hb dX0_put_49 (by decide) ?_
      refine lv_icmp_ne (tgt := 61) hx hb dX0_put_51 (by decide) (fun c6 => ?_) (fun c6 => ?_)
      · replace h := ite_f c6 h
        refine lv_lload_n hx hb dX0_put_61 rfl (lv_at hl 3 rfl) ?_
        have i7 := ck_in h
        replace h := ck_nx h
        refine x_last cx hw 1 rfl i7 dX0_put_62 (fun H locs hw => ?_)
        obtain ⟨d8, ed8, h⟩ := lt_ex h
        have hw : Wd g (va_A ((SC g q d)) s.heap.size) ((SC g q d8)) s H locs := by rw [ed8]; exact hw
        refine lv_lload hx hb dX0_put_63 (lv_at hl 0 rfl) ?_
        exact r_l cx hr hlocks hw (pr1 h) (congrArg (fun z0 => (SC g q z0)) (pr2 h)) dX0_put_65
      · replace h := ite_t c6 h
        refine lv_lload_n hx hb dX0_put_54 rfl (lv_at hl 3 rfl) ?_
        refine lv_l2i hx hb dX0_put_55 rfl ?_
        refine lv_i2s hx hb dX0_put_56 rfl ?_
        refine lv_i2l hx hb dX0_put_57 rfl ?_
        refine lv_goto (tgt := 62) hx hb dX0_put_58 (by decide) ?_
        have i9 := ck_in h
        replace h := ck_nx h
        refine x_last cx hw 1 rfl i9 dX0_put_62 (fun H locs hw => ?_)
        obtain ⟨d10, ed10, h⟩ := lt_ex h
        have hw : Wd g (va_A ((SC g q d)) s.heap.size) ((SC g q d10)) s H locs := by rw [ed10]; exact hw
        refine lv_lload hx hb dX0_put_63 (lv_at hl 0 rfl) ?_
        exact r_l cx hr hlocks hw (pr1 h) (congrArg (fun z0 => (SC g q z0)) (pr2 h)) dX0_put_65
    · replace h := ite_t c5 h
      refine lv_lload_n hx hb dX0_put_38 rfl (lv_at hl 3 rfl) ?_
      refine lv_l2i hx hb dX0_put_39 rfl ?_
      refine lv_i2b hx hb dX0_put_40 rfl ?_
      refine lv_i2l hx hb dX0_put_41 rfl ?_
      refine lv_goto (tgt := 62) hx hb dX0_put_42 (by decide) ?_
      have i11 := ck_in h
      replace h := ck_nx h
      refine x_last cx hw 1 rfl i11 dX0_put_62 (fun H locs hw => ?_)
      obtain ⟨d12, ed12, h⟩ := lt_ex h
      have hw : Wd g (va_A ((SC g q d)) s.heap.size) ((SC g q d12)) s H locs := by rw [ed12]; exact hw
      refine lv_lload hx hb dX0_put_63 (lv_at hl 0 rfl) ?_
      exact r_l cx hr hlocks hw (pr1 h) (congrArg (fun z0 => (SC g q z0)) (pr2 h)) dX0_put_65
  · replace h := ite_t c3 h
    refine lv_lconst (v := 0) hx hb dX0_put_14 (by decide) ?_
    exact r_l cx hr hlocks hw (pr1 h) (congrArg (fun z0 => (SC g q z0)) (pr2 h)) dX0_put_15
set_option maxHeartbeats 4000000 in
set_option maxRecDepth 100000 in
theorem c_X0_marksTold (l : Launch) (g : gE) (q : Nat → Nat) (N : Nat)  (d : SD) (r : Int32) (h : f_X0_marksTold N  d = some r) : MO l yX0_marksTold (Cond.code yX0_marksTold cX0_marksTold 3 (some .int) :: TB) rm_X0_marksTold [.ref (q 0)] g ((SC g q d)) ((SC g q d)) (some (.int r)) 0 0 := by
  refine MO.of (cc := cX0_marksTold) (maxL := 3) (ret := (some .int)) (by decide) ?_
  intro p e s m below meth c cx hw hr hlocks _
  have hx := cx.1.1
  have hb := cx.1.2.1
  refine en_go (lv := [(0, .ref (q 0))]) (Nat.le_of_ble_eq_true rfl) rfl (fun ls hl => ?_)
  have L4 : ∀ (n4 : Nat) (a1 : Int32) (a2 : Int32) (H : Heap) (locs : List Loc) (ls : Array Slot), Wd g (va_A ((SC g q d)) s.heap.size) ((SC g q d)) s H locs → lv_has ls 3 [(0, .ref (q 0)), (1, .int a1), (2, .int a2)] → f_X0_marksTold_L4 N d  n4 a1 a2 = some r → W p l e rm_X0_marksTold s m ([.ref (q 0)] : List Value).toArray below meth c H locs 0 0 (MQ below (QO (some (.int r)) g ((SC g q d)) (va_A ((SC g q d)) s.heap.size)) ([.ref (q 0)] : List Value).toArray s 0 0 (va_A ((SC g q d)) s.heap.size)) (F0 m 4 ls []) := by
    intro n4
    induction n4 with
    | zero => intro a1 a2 H locs ls hw hl h; exact (Option.some_ne_none _ h.symm).elim
    | succ n4 ih4 =>
      intro a1 a2 H locs ls hw hl h
      rw [f_X0_marksTold_L4] at h
      refine lv_iload_n hx hb dX0_marksTold_4 rfl (lv_at hl 2 rfl) ?_
      refine lv_bipush (v := 9) hx hb dX0_marksTold_5 (by decide) ?_
      refine lv_icmp_ge (tgt := 54) hx hb dX0_marksTold_7 (by decide) (fun c11 => ?_) (fun c11 => ?_)
      · replace h := ite_t c11 h
        refine lv_iload_n hx hb dX0_marksTold_54 rfl (lv_at hl 1 rfl) ?_
        exact r_i cx hr hlocks hw (sm_eq h) rfl dX0_marksTold_55
      · replace h := ite_f c11 h
        refine lv_iload_n hx hb dX0_marksTold_10 rfl (lv_at hl 2 rfl) ?_
        refine lv_aload_n hx hb dX0_marksTold_11 rfl (lv_at hl 0 rfl) ?_
        refine gf_X0_19 cx hw 0 rfl rfl dX0_marksTold_12 ?_
        refine lv_icmp_ge (tgt := 54) hx hb dX0_marksTold_15 (by decide) (fun c12 => ?_) (fun c12 => ?_)
        · replace h := ite_t c12 h
          refine lv_iload_n hx hb dX0_marksTold_54 rfl (lv_at hl 1 rfl) ?_
          exact r_i cx hr hlocks hw (sm_eq h) rfl dX0_marksTold_55
        · replace h := ite_f c12 h
          refine lv_aload_n hx hb dX0_marksTold_18 rfl (lv_at hl 0 rfl) ?_
          refine gf_X0_11 cx hw 0 rfl rfl dX0_marksTold_19 ?_
          refine lv_iload_n hx hb dX0_marksTold_22 rfl (lv_at hl 2 rfl) ?_
          have ix13 := rdL_in h
          refine x_lald cx hw 1 rfl ix13 dX0_marksTold_23 ?_
          refine lv_topl (fun x13 ex13 => ?_)
          replace h := rdL_nx ex13 h
          refine lv_lconst (v := 0) hx hb dX0_marksTold_24 (by decide) ?_
          refine W.lcmp hx hb dX0_marksTold_25 ?_
          refine lv_if_lt (tgt := 48) hx hb dX0_marksTold_26 (by decide) (fun c14 => ?_) (fun c14 => ?_)
          · replace h := ite_t c14 h
            obtain ⟨x15, ex15⟩ : ∃ y : Int32, y = (a2 + 1) := ⟨_, rfl⟩
            replace h := lt_nx ex15 h
            refine lv_iinc (v := x15) (lv' := [(2, .int x15), (0, .ref (q 0)), (1, .int a1)]) hx hb dX0_marksTold_48 hl (k := 2) rfl (by rw [ex15]; rfl) (by decide) rfl (fun ls hl => ?_)
            refine lv_goto (tgt := 4) hx hb dX0_marksTold_51 (by decide) ?_
            exact ih4 a1 x15 _ _ _ hw (lv_sub hl [1, 2, 0] rfl) h
          · replace h := ite_f c14 h
            refine lv_aload_n hx hb dX0_marksTold_29 rfl (lv_at hl 0 rfl) ?_
            refine gf_X0_11 cx hw 0 rfl rfl dX0_marksTold_30 ?_
            refine lv_iload_n hx hb dX0_marksTold_33 rfl (lv_at hl 2 rfl) ?_
            have ix16 := rdL_in h
            refine x_lald cx hw 1 rfl ix16 dX0_marksTold_34 ?_
            refine lv_topl (fun x16 ex16 => ?_)
            replace h := rdL_nx ex16 h
            refine lv_ldc2 hx hb cx.1.2.2.2.1 (cx.1.2.2.2.2 _ tw_3_200) dX0_marksTold_35 ?_
            refine W.lcmp hx hb dX0_marksTold_38 ?_
            refine lv_if_ge (tgt := 48) hx hb dX0_marksTold_39 (by decide) (fun c17 => ?_) (fun c17 => ?_)
            · replace h := ite_t c17 h
              obtain ⟨x18, ex18⟩ : ∃ y : Int32, y = (a2 + 1) := ⟨_, rfl⟩
              replace h := lt_nx ex18 h
              refine lv_iinc (v := x18) (lv' := [(2, .int x18), (0, .ref (q 0)), (1, .int a1)]) hx hb dX0_marksTold_48 hl (k := 2) rfl (by rw [ex18]; rfl) (by decide) rfl (fun ls hl => ?_)
              refine lv_goto (tgt := 4) hx hb dX0_marksTold_51 (by decide) ?_
              exact ih4 a1 x18 _ _ _ hw (lv_sub hl [1, 2, 0] rfl) h
            · replace h := ite_f c17 h
              refine lv_iload_n hx hb dX0_marksTold_42 rfl (lv_at hl 1 rfl) ?_
              refine lv_iconst (v := 1) hx hb dX0_marksTold_43 (by decide) ?_
              refine lv_iload_n hx hb dX0_marksTold_44 rfl (lv_at hl 2 rfl) ?_
              refine lv_ishl hx hb dX0_marksTold_45 ?_
              refine lv_ior hx hb dX0_marksTold_46 ?_
              refine lv_topi (fun x19 ex19 => ?_)
              replace h := lt_nx ex19 h
              refine lv_istore_n (lv' := [(1, .int x19), (0, .ref (q 0)), (2, .int a2)]) hx hb dX0_marksTold_47 rfl hl (by decide) rfl (fun ls hl => ?_)
              obtain ⟨x20, ex20⟩ : ∃ y : Int32, y = (a2 + 1) := ⟨_, rfl⟩
              replace h := lt_nx ex20 h
              refine lv_iinc (v := x20) (lv' := [(2, .int x20), (1, .int x19), (0, .ref (q 0))]) hx hb dX0_marksTold_48 hl (k := 2) rfl (by rw [ex20]; rfl) (by decide) rfl (fun ls hl => ?_)
              refine lv_goto (tgt := 4) hx hb dX0_marksTold_51 (by decide) ?_
              exact ih4 x19 x20 _ _ _ hw (lv_sub hl [2, 1, 0] rfl) h
  unfold f_X0_marksTold at h
  refine lv_iconst (v := 0) hx hb dX0_marksTold_0 (by decide) ?_
  refine lv_istore_n (lv' := [(1, .int (0 : Int32)), (0, .ref (q 0))]) hx hb dX0_marksTold_1 rfl hl (by decide) rfl (fun ls hl => ?_)
  refine lv_iconst (v := 0) hx hb dX0_marksTold_2 (by decide) ?_
  refine lv_istore_n (lv' := [(2, .int (0 : Int32)), (1, .int (0 : Int32)), (0, .ref (q 0))]) hx hb dX0_marksTold_3 rfl hl (by decide) rfl (fun ls hl => ?_)
  exact L4 N (0 : Int32) (0 : Int32) _ _ _ hw (lv_sub hl [2, 1, 0] rfl) h
set_option maxHeartbeats 4000000 in
set_option maxRecDepth 100000 in
theorem c_X0_lookTold (l : Launch) (g : gE) (q : Nat → Nat) (N : Nat)  (d : SD) (r : Int32) (h : f_X0_lookTold N  d = some r) : MO l yX0_lookTold (Cond.code yX0_lookTold cX0_lookTold 3 (some .int) :: TB) rm_X0_lookTold [.ref (q 0)] g ((SC g q d)) ((SC g q d)) (some (.int r)) 0 0 := by
  refine MO.of (cc := cX0_lookTold) (maxL := 3) (ret := (some .int)) (by decide) ?_
  intro p e s m below meth c cx hw hr hlocks _
  have hx := cx.1.1
  have hb := cx.1.2.1
  refine en_go (lv := [(0, .ref (q 0))]) (Nat.le_of_ble_eq_true rfl) rfl (fun ls hl => ?_)
  have L4 : ∀ (n4 : Nat) (a1 : Int32) (a2 : Int32) (H : Heap) (locs : List Loc) (ls : Array Slot), Wd g (va_A ((SC g q d)) s.heap.size) ((SC g q d)) s H locs → lv_has ls 3 [(0, .ref (q 0)), (1, .int a1), (2, .int a2)] → f_X0_lookTold_L4 N d  n4 a1 a2 = some r → W p l e rm_X0_lookTold s m ([.ref (q 0)] : List Value).toArray below meth c H locs 0 0 (MQ below (QO (some (.int r)) g ((SC g q d)) (va_A ((SC g q d)) s.heap.size)) ([.ref (q 0)] : List Value).toArray s 0 0 (va_A ((SC g q d)) s.heap.size)) (F0 m 4 ls []) := by
    intro n4
    induction n4 with
    | zero => intro a1 a2 H locs ls hw hl h; exact (Option.some_ne_none _ h.symm).elim
    | succ n4 ih4 =>
      intro a1 a2 H locs ls hw hl h
      rw [f_X0_lookTold_L4] at h
      refine lv_iload_n hx hb dX0_lookTold_4 rfl (lv_at hl 2 rfl) ?_
      refine lv_bipush (v := 9) hx hb dX0_lookTold_5 (by decide) ?_
      refine lv_icmp_ge (tgt := 41) hx hb dX0_lookTold_7 (by decide) (fun c7 => ?_) (fun c7 => ?_)
      · replace h := ite_t c7 h
        refine lv_iload_n hx hb dX0_lookTold_41 rfl (lv_at hl 1 rfl) ?_
        exact r_i cx hr hlocks hw (sm_eq h) rfl dX0_lookTold_42
      · replace h := ite_f c7 h
        refine lv_iload_n hx hb dX0_lookTold_10 rfl (lv_at hl 2 rfl) ?_
        refine lv_aload_n hx hb dX0_lookTold_11 rfl (lv_at hl 0 rfl) ?_
        refine gf_X0_19 cx hw 0 rfl rfl dX0_lookTold_12 ?_
        refine lv_icmp_ge (tgt := 41) hx hb dX0_lookTold_15 (by decide) (fun c8 => ?_) (fun c8 => ?_)
        · replace h := ite_t c8 h
          refine lv_iload_n hx hb dX0_lookTold_41 rfl (lv_at hl 1 rfl) ?_
          exact r_i cx hr hlocks hw (sm_eq h) rfl dX0_lookTold_42
        · replace h := ite_f c8 h
          refine lv_iload_n hx hb dX0_lookTold_18 rfl (lv_at hl 1 rfl) ?_
          refine lv_iload_n hx hb dX0_lookTold_19 rfl (lv_at hl 2 rfl) ?_
          refine lv_aload_n hx hb dX0_lookTold_20 rfl (lv_at hl 0 rfl) ?_
          refine gf_X0_11 cx hw 0 rfl rfl dX0_lookTold_21 ?_
          refine lv_iload_n hx hb dX0_lookTold_24 rfl (lv_at hl 2 rfl) ?_
          have ix9 := rdL_in h
          refine x_lald cx hw 1 rfl ix9 dX0_lookTold_25 ?_
          refine lv_topl (fun x9 ex9 => ?_)
          replace h := rdL_nx ex9 h
          refine lv_ldc2 hx hb cx.1.2.2.2.1 (cx.1.2.2.2.2 _ tw_3_205) dX0_lookTold_26 ?_
          refine lv_land hx hb dX0_lookTold_29 ?_
          refine lv_l2i hx hb dX0_lookTold_30 rfl ?_
          obtain ⟨x10, g11, h⟩ := bd_ex h
          refine c_SN (As := [.int a1, .int a2, .int (((x9 &&& (3 : Int64))).toInt32)]) (rest := []) (w' := (SC g q d)) cx hw (c_X4_withWay l g  N a1 a2 (((x9 &&& (3 : Int64))).toInt32)  x10 g11) (cl_X0_36 cx.1.2.2.2.2 cx.2.2.1 ⟨Nat.le_of_ble_eq_true rfl, Nat.le_of_ble_eq_true rfl⟩) Ct.nil hl.1 rfl rfl (Nat.le_of_ble_eq_true rfl) dX0_lookTold_31 ⟨Nat.le_of_ble_eq_true rfl, Nat.le_of_ble_eq_true rfl⟩ (st1 := [.int x10]) rfl (fun H locs hw => ?_)
          refine lv_istore_n (lv' := [(1, .int x10), (0, .ref (q 0)), (2, .int a2)]) hx hb dX0_lookTold_34 rfl hl (by decide) rfl (fun ls hl => ?_)
          obtain ⟨x12, ex12⟩ : ∃ y : Int32, y = (a2 + 1) := ⟨_, rfl⟩
          replace h := lt_nx ex12 h
          refine lv_iinc (v := x12) (lv' := [(2, .int x12), (1, .int x10), (0, .ref (q 0))]) hx hb dX0_lookTold_35 hl (k := 2) rfl (by rw [ex12]; rfl) (by decide) rfl (fun ls hl => ?_)
          refine lv_goto (tgt := 4) hx hb dX0_lookTold_38 (by decide) ?_
          exact ih4 x10 x12 _ _ _ hw (lv_sub hl [2, 1, 0] rfl) h
  unfold f_X0_lookTold at h
  refine lv_iconst (v := 0) hx hb dX0_lookTold_0 (by decide) ?_
  refine lv_istore_n (lv' := [(1, .int (0 : Int32)), (0, .ref (q 0))]) hx hb dX0_lookTold_1 rfl hl (by decide) rfl (fun ls hl => ?_)
  refine lv_iconst (v := 0) hx hb dX0_lookTold_2 (by decide) ?_
  refine lv_istore_n (lv' := [(2, .int (0 : Int32)), (1, .int (0 : Int32)), (0, .ref (q 0))]) hx hb dX0_lookTold_3 rfl hl (by decide) rfl (fun ls hl => ?_)
  exact L4 N (0 : Int32) (0 : Int32) _ _ _ hw (lv_sub hl [2, 1, 0] rfl) h
set_option maxHeartbeats 4000000 in
set_option maxRecDepth 100000 in
theorem c_X1_hasRoom (l : Launch) (g : gE) (q : Nat → Nat) (N : Nat) (p1 : Int32) (d : TD) (r : Int32) (h : f_X1_hasRoom N  p1 d = some r) : MO l yX1_hasRoom (Cond.code yX1_hasRoom cX1_hasRoom 2 (some .boolean) :: TB) rm_X1_hasRoom [.ref (q 0), .int p1] g ((TC g q d)) ((TC g q d)) (some (.int r)) 0 0 := by
  refine MO.of (cc := cX1_hasRoom) (maxL := 2) (ret := (some .boolean)) (by decide) ?_
  intro p e s m below meth c cx hw hr hlocks _
  have hx := cx.1.1
  have hb := cx.1.2.1
  refine en_go (lv := [(0, .ref (q 0)), (1, .int p1)]) (Nat.le_of_ble_eq_true rfl) rfl (fun ls hl => ?_)
  unfold f_X1_hasRoom at h
  refine lv_iload_n hx hb dX1_hasRoom_0 rfl (lv_at hl 1 rfl) ?_
  refine lv_bipush (v := 120) hx hb dX1_hasRoom_1 (by decide) ?_
  refine lv_aload_n hx hb dX1_hasRoom_3 rfl (lv_at hl 0 rfl) ?_
  refine gf_X1_13 cx hw 0 rfl rfl dX1_hasRoom_4 ?_
  refine lv_isub hx hb dX1_hasRoom_7 ?_
  refine lv_icmp_gt (tgt := 15) hx hb dX1_hasRoom_8 (by decide) (fun c1 => ?_) (fun c1 => ?_)
  · replace h := ite_t c1 h
    refine lv_iconst (v := 0) hx hb dX1_hasRoom_15 (by decide) ?_
    exact r_z cx hr hlocks rfl hw (sm_eq h) rfl dX1_hasRoom_16
  · replace h := ite_f c1 h
    refine lv_iconst (v := 1) hx hb dX1_hasRoom_11 (by decide) ?_
    refine lv_goto (tgt := 16) hx hb dX1_hasRoom_12 (by decide) ?_
    exact r_z cx hr hlocks rfl hw (sm_eq h) rfl dX1_hasRoom_16
set_option maxHeartbeats 4000000 in
set_option maxRecDepth 100000 in
theorem c_X1_append (l : Launch) (g : gE) (q : Nat → Nat) (N : Nat) (p1 : Int32) (d : TD) (d' : TD) (h : f_X1_append N  p1 d = some d') : MO l yX1_append (Cond.code yX1_append cX1_append 2 none :: TB) rm_X1_append [.ref (q 0), .int p1] g ((TC g q d)) ((TC g q d')) none 0 0 := by
  refine MO.of (cc := cX1_append) (maxL := 2) (ret := none) (by decide) ?_
  intro p e s m below meth c cx hw hr hlocks _
  have hx := cx.1.1
  have hb := cx.1.2.1
  refine en_go (lv := [(0, .ref (q 0)), (1, .int p1)]) (Nat.le_of_ble_eq_true rfl) rfl (fun ls hl => ?_)
  unfold f_X1_append at h
  refine lv_aload_n hx hb dX1_append_0 rfl (lv_at hl 0 rfl) ?_
  refine lv_iconst (v := 1) hx hb dX1_append_1 (by decide) ?_
  obtain ⟨x1, g2, h⟩ := bd_ex h
  refine c_V (As := [.int (1 : Int32)]) (rest := []) (w' := (TC g q d)) cx hw (c_X1_hasRoom l g q N (1 : Int32) d x1 g2) (cl_X1_17 cx.1.2.2.2.2 ⟨Nat.le_of_ble_eq_true rfl, Nat.le_of_ble_eq_true rfl⟩) (x_recv cx hw (ci := 1) rfl 0 rfl) (Ct.all (TC_ll ..)) hl.1 rfl rfl (Nat.le_of_ble_eq_true rfl) dX1_append_2 ⟨Nat.le_of_ble_eq_true rfl, Nat.le_of_ble_eq_true rfl⟩ (st1 := [.int x1]) rfl (fun H locs hw => ?_)
  refine lv_if_eq (tgt := 29) hx hb dX1_append_5 (by decide) (fun c3 => ?_) (fun c3 => ?_)
  · replace h := ite_t c3 h
    exact r_v cx hr hlocks hw (congrArg (fun z0 => (TC g q z0)) (sm_eq h)) dX1_append_29
  · replace h := ite_f c3 h
    refine lv_aload_n hx hb dX1_append_8 rfl (lv_at hl 0 rfl) ?_
    refine gf_X1_9 cx hw 0 rfl rfl dX1_append_9 ?_
    refine lv_aload_n hx hb dX1_append_12 rfl (lv_at hl 0 rfl) ?_
    refine gf_X1_13 cx hw 0 rfl rfl dX1_append_13 ?_
    refine lv_iload_n hx hb dX1_append_16 rfl (lv_at hl 1 rfl) ?_
    refine lv_i2b hx hb dX1_append_17 rfl ?_
    have i4 := ck_in h
    replace h := ck_nx h
    refine x_bast cx hw 1 rfl i4 dX1_append_18 (fun H locs hw => ?_)
    obtain ⟨d5, ed5, h⟩ := lt_ex h
    have hw : Wd g (va_A ((TC g q d)) s.heap.size) ((TC g q d5)) s H locs := by rw [ed5]; exact hw
    refine lv_aload_n hx hb dX1_append_19 rfl (lv_at hl 0 rfl) ?_
    refine lv_dup hx hb dX1_append_20 rfl ?_
    refine gf_X1_13 cx hw 0 rfl rfl dX1_append_21 ?_
    refine lv_iconst (v := 1) hx hb dX1_append_24 (by decide) ?_
    refine lv_iadd hx hb dX1_append_25 ?_
    refine pf_X1_13 cx hw 0 rfl rfl rfl (Nat.le_of_ble_eq_true rfl) dX1_append_26 (fun H locs hw => ?_)
    obtain ⟨d6, ed6, h⟩ := lt_ex h
    have hw : Wd g (va_A ((TC g q d)) s.heap.size) ((TC g q d6)) s H locs := by rw [ed6]; exact hw
    exact r_v cx hr hlocks hw (congrArg (fun z0 => (TC g q z0)) (sm_eq h)) dX1_append_29
set_option maxHeartbeats 4000000 in
set_option maxRecDepth 100000 in
theorem c_X1_clear (l : Launch) (g : gE) (q : Nat → Nat) (N : Nat)  (d : TD) (r : Int32) (d' : TD) (h : f_X1_clear N  d = some (r, d')) : MO l yX1_clear (Cond.code yX1_clear cX1_clear 2 (some .int) :: TB) rm_X1_clear [.ref (q 0)] g ((TC g q d)) ((TC g q d')) (some (.int r)) 0 0 := by
  refine MO.of (cc := cX1_clear) (maxL := 2) (ret := (some .int)) (by decide) ?_
  intro p e s m below meth c cx hw hr hlocks _
  have hx := cx.1.1
  have hb := cx.1.2.1
  refine en_go (lv := [(0, .ref (q 0))]) (Nat.le_of_ble_eq_true rfl) rfl (fun ls hl => ?_)
  unfold f_X1_clear at h
  refine lv_aload_n hx hb dX1_clear_0 rfl (lv_at hl 0 rfl) ?_
  refine gf_X1_13 cx hw 0 rfl rfl dX1_clear_1 ?_
  refine lv_topi (fun x1 ex1 => ?_)
  replace h := lt_nx ex1 h
  refine lv_istore_n (lv' := [(1, .int x1), (0, .ref (q 0))]) hx hb dX1_clear_4 rfl hl (by decide) rfl (fun ls hl => ?_)
  refine lv_aload_n hx hb dX1_clear_5 rfl (lv_at hl 1 rfl) ?_
  refine lv_iconst (v := 0) hx hb dX1_clear_6 (by decide) ?_
  refine pf_X1_13 cx hw 0 rfl rfl rfl (Nat.le_of_ble_eq_true rfl) dX1_clear_7 (fun H locs hw => ?_)
  obtain ⟨d2, ed2, h⟩ := lt_ex h
  have hw : Wd g (va_A ((TC g q d)) s.heap.size) ((TC g q d2)) s H locs := by rw [ed2]; exact hw
  refine lv_iload_n hx hb dX1_clear_10 rfl (lv_at hl 0 rfl) ?_
  exact r_i cx hr hlocks hw (pr1 h) (congrArg (fun z0 => (TC g q z0)) (pr2 h)) dX1_clear_11
set_option maxHeartbeats 4000000 in
set_option maxRecDepth 100000 in
theorem c_X1_byteAt (l : Launch) (g : gE) (q : Nat → Nat) (N : Nat) (p1 : Int32) (d : TD) (r : Int32) (h : f_X1_byteAt N  p1 d = some r) : MO l yX1_byteAt (Cond.code yX1_byteAt cX1_byteAt 2 (some .int) :: TB) rm_X1_byteAt [.ref (q 0), .int p1] g ((TC g q d)) ((TC g q d)) (some (.int r)) 0 0 := by
  refine MO.of (cc := cX1_byteAt) (maxL := 2) (ret := (some .int)) (by decide) ?_
  intro p e s m below meth c cx hw hr hlocks _
  have hx := cx.1.1
  have hb := cx.1.2.1
  refine en_go (lv := [(0, .ref (q 0)), (1, .int p1)]) (Nat.le_of_ble_eq_true rfl) rfl (fun ls hl => ?_)
  unfold f_X1_byteAt at h
  refine lv_iload_n hx hb dX1_byteAt_0 rfl (lv_at hl 1 rfl) ?_
  refine lv_if_lt (tgt := 25) hx hb dX1_byteAt_1 (by decide) (fun c1 => ?_) (fun c1 => ?_)
  · replace h := ite_t c1 h
    refine lv_iconst (v := -1) hx hb dX1_byteAt_25 (by decide) ?_
    exact r_i cx hr hlocks hw (sm_eq h) rfl dX1_byteAt_26
  · replace h := ite_f c1 h
    refine lv_iload_n hx hb dX1_byteAt_4 rfl (lv_at hl 1 rfl) ?_
    refine lv_aload_n hx hb dX1_byteAt_5 rfl (lv_at hl 0 rfl) ?_
    refine gf_X1_13 cx hw 0 rfl rfl dX1_byteAt_6 ?_
    refine lv_icmp_ge (tgt := 25) hx hb dX1_byteAt_9 (by decide) (fun c2 => ?_) (fun c2 => ?_)
    · replace h := ite_t c2 h
      refine lv_iconst (v := -1) hx hb dX1_byteAt_25 (by decide) ?_
      exact r_i cx hr hlocks hw (sm_eq h) rfl dX1_byteAt_26
    · replace h := ite_f c2 h
      refine lv_aload_n hx hb dX1_byteAt_12 rfl (lv_at hl 0 rfl) ?_
      refine gf_X1_9 cx hw 0 rfl rfl dX1_byteAt_13 ?_
      refine lv_iload_n hx hb dX1_byteAt_16 rfl (lv_at hl 1 rfl) ?_
      have ix3 := rd_in h
      refine x_bald cx hw 1 rfl ix3 dX1_byteAt_17 ?_
      refine lv_topi (fun x3 ex3 => ?_)
      replace h := rd_nx ex3 h
      refine lv_sipush (v := 255) hx hb dX1_byteAt_18 (by decide) ?_
      refine lv_iand hx hb dX1_byteAt_21 ?_
      refine lv_goto (tgt := 26) hx hb dX1_byteAt_22 (by decide) ?_
      exact r_i cx hr hlocks hw (sm_eq h) rfl dX1_byteAt_26
