def f_J3_checkIndex_8e157 (N : Nat)  (p0 : Int32) (p1 : Int32)  : Option (Int32) :=
  if p0 < 0 then
    none
  else
    if p0 < p1 then
      some p0
    else
      none
def f_J0_checkIndex_df160 (N : Nat)  (p0 : Int32) (p1 : Int32)  : Option (Unit) :=
    (f_J3_checkIndex_8e157 N p0 p1).bind fun x5 =>
    some ()
def f_J1_charAt_3b067 (N : Nat)  (w0 : Nat) (p1 : Int32)  : Option (Int32) :=
  (f_J0_checkIndex_df160 N p1 (Int32.ofNat (strLen.getD w0 0))).bind fun _ =>
  (rd (fun j => (strByt.getD w0 []).getD j 0) (strLen.getD w0 0) p1).bind fun x3 =>
  some ((((x3 &&& (255 : Int32))).toUInt32 % 65536).toInt32)
def f_J0_isLatin1_aae02 (N : Nat)  (w0 : Nat)  : Option (Int32) :=
  some (1 : Int32)
def f_J0_coder_7d493 (N : Nat)  (w0 : Nat)  : Option (Int32) :=
  some (0 : Int32)
def f_J0_charAt_5068e (N : Nat)  (w0 : Nat) (p1 : Int32)  : Option (Int32) :=
  (f_J0_isLatin1_aae02 N w0).bind fun x1 =>
  if x1 = 0 then
    none
  else
    (f_J1_charAt_3b067 N w0 p1).bind fun x4 =>
    (ckc x4).bind fun _ =>
    some x4
def f_J0_length_8abf5 (N : Nat)  (w0 : Nat)  : Option (Int32) :=
  (f_J0_coder_7d493 N w0).bind fun x1 =>
  some ((Int32.ofNat (strLen.getD w0 0)) >>> (x1 &&& 31))
def f_X4_isUnder_L4 (N : Nat)   : Nat → Int32 → Int32 → Int32 → Option (Int32)
  | 0, _, _, _ => none
  | n4 + 1, a1, a2, a3 =>
  if (5 : Int32) < a3 then
    some (0 : Int32)
  else
    (f_X4_isKind N a2).bind fun x2 =>
    if x2 = 0 then
      some (0 : Int32)
    else
      if a2 = a1 then
        some (1 : Int32)
      else
        (rd (fun j => kaL.getD j 0) 6 a2).bind fun x6 =>
        lt (a3 + 1) fun x7 =>
        f_X4_isUnder_L4 N   n4 a1 x6 x7
def f_X4_isUnder (N : Nat)  (p0 : Int32) (p1 : Int32)  : Option (Int32) :=
  f_X4_isUnder_L4 N   N p1 p0 (0 : Int32)
def f_X4_as (N : Nat)  (p1 : Int32) (p2 : Int32) (d : XD) : Option (Int32 × XD) :=
  (f_X4_isOne N p1 d).bind fun x1 =>
  if x1 = 0 then
    bd2 (f_X4_tell N (-1000000001 : Int32) d) fun x4 d5 =>
    some (x4, d5)
  else
    (f_X4_isKind N p2).bind fun x7 =>
    if x7 = 0 then
      bd2 (f_X4_tell N (-1000000001 : Int32) d) fun x18 d19 =>
      some (x18, d19)
    else
      (rd (v_kinds (x_valley d)) 12 p1).bind fun x10 =>
      (f_X4_isUnder N x10 p2).bind fun x11 =>
      if x11 = 0 then
        bd2 (f_X4_tell N (-1000000003 : Int32) d) fun x15 d16 =>
        some (x15, d16)
      else
        (rd (v_goods (x_valley d)) 12 p1).bind fun x14 =>
        some (x14, d)
set_option maxHeartbeats 4000000 in
set_option maxRecDepth 100000 in
theorem c_J3_checkIndex_8e157 (l : Launch) (g : gE)  (N : Nat) (p0 : Int32) (p1 : Int32)  (r : Int32) (h : f_J3_checkIndex_8e157 N  p0 p1 = some r) : MO l yJ3_checkIndex_8e157 (Cond.code yJ3_checkIndex_8e157 cJ3_checkIndex_8e157 3 (some .int) :: TB) rm_J3_checkIndex_8e157 [.int p0, .int p1, .null] g (([] : va_W)) (([] : va_W)) (some (.int r)) 0 0 := by
  refine MO.of (cc := cJ3_checkIndex_8e157) (maxL := 3) (ret := (some .int)) (by decide) ?_
  intro p e s m below meth c cx hw hr hlocks _
  have hx := cx.1.1
  have hb := cx.1.2.1
  refine en_go (lv := [(0, .int p0), (1, .int p1), (2, .null)]) (Nat.le_of_ble_eq_true rfl) rfl (fun ls hl => ?_)
  unfold f_J3_checkIndex_8e157 at h
  refine lv_iload_n hx hb dJ3_checkIndex_8e157_0 rfl (lv_at hl 0 rfl) ?_
  refine lv_if_lt (tgt := 9) hx hb dJ3_checkIndex_8e157_1 (by decide) (fun c1 => ?_) (fun c1 => ?_)
  · replace h := ite_t c1 h
    exact (Option.some_ne_none _ h.symm).elim
  · replace h := ite_f c1 h
    refine lv_iload_n hx hb dJ3_checkIndex_8e157_4 rfl (lv_at hl 0 rfl) ?_
    refine lv_iload_n hx hb dJ3_checkIndex_8e157_5 rfl (lv_at hl 1 rfl) ?_
    refine lv_icmp_lt (tgt := 16) hx hb dJ3_checkIndex_8e157_6 (by decide) (fun c2 => ?_) (fun c2 => ?_)
    · replace h := ite_t c2 h
      refine lv_iload_n hx hb dJ3_checkIndex_8e157_16 rfl (lv_at hl 0 rfl) ?_
      exact r_i cx hr hlocks hw (sm_eq h) rfl dJ3_checkIndex_8e157_17
    · replace h := ite_f c2 h
      exact (Option.some_ne_none _ h.symm).elim
set_option maxHeartbeats 4000000 in
set_option maxRecDepth 100000 in
theorem c_J3_checkIndex_8e157r (l : Launch) (g : gE)  (N : Nat) (p0 : Int32) (p1 : Int32) (v2 : Nat)  (r : Int32) (h : f_J3_checkIndex_8e157 N  p0 p1 = some r) : MO l yJ3_checkIndex_8e157 (Cond.code yJ3_checkIndex_8e157 cJ3_checkIndex_8e157 3 (some .int) :: TB) rm_J3_checkIndex_8e157 [.int p0, .int p1, .ref v2] g (([] : va_W)) (([] : va_W)) (some (.int r)) 0 0 := by
  refine MO.of (cc := cJ3_checkIndex_8e157) (maxL := 3) (ret := (some .int)) (by decide) ?_
  intro p e s m below meth c cx hw hr hlocks _
  have hx := cx.1.1
  have hb := cx.1.2.1
  refine en_go (lv := [(0, .int p0), (1, .int p1), (2, .ref v2)]) (Nat.le_of_ble_eq_true rfl) rfl (fun ls hl => ?_)
  unfold f_J3_checkIndex_8e157 at h
  refine lv_iload_n hx hb dJ3_checkIndex_8e157_0 rfl (lv_at hl 0 rfl) ?_
  refine lv_if_lt (tgt := 9) hx hb dJ3_checkIndex_8e157_1 (by decide) (fun c1 => ?_) (fun c1 => ?_)
  · replace h := ite_t c1 h
    exact (Option.some_ne_none _ h.symm).elim
  · replace h := ite_f c1 h
    refine lv_iload_n hx hb dJ3_checkIndex_8e157_4 rfl (lv_at hl 0 rfl) ?_
    refine lv_iload_n hx hb dJ3_checkIndex_8e157_5 rfl (lv_at hl 1 rfl) ?_
    refine lv_icmp_lt (tgt := 16) hx hb dJ3_checkIndex_8e157_6 (by decide) (fun c2 => ?_) (fun c2 => ?_)
    · replace h := ite_t c2 h
      refine lv_iload_n hx hb dJ3_checkIndex_8e157_16 rfl (lv_at hl 0 rfl) ?_
      exact r_i cx hr hlocks hw (sm_eq h) rfl dJ3_checkIndex_8e157_17
    · replace h := ite_f c2 h
      exact (Option.some_ne_none _ h.symm).elim
set_option maxHeartbeats 4000000 in
set_option maxRecDepth 100000 in
theorem c_J0_checkIndex_df160 (l : Launch) (g : gE)  (N : Nat) (p0 : Int32) (p1 : Int32)   (h : f_J0_checkIndex_df160 N  p0 p1 = some ()) : MO l yJ0_checkIndex_df160 (Cond.code yJ0_checkIndex_df160 cJ0_checkIndex_df160 2 none :: TB) rm_J0_checkIndex_df160 [.int p0, .int p1] g (([] : va_W)) (([] : va_W)) none 0 0 := by
  refine MO.of (cc := cJ0_checkIndex_df160) (maxL := 2) (ret := none) (by decide) ?_
  intro p e s m below meth c cx hw hr hlocks _
  have hx := cx.1.1
  have hb := cx.1.2.1
  refine en_go (lv := [(0, .int p0), (1, .int p1)]) (Nat.le_of_ble_eq_true rfl) rfl (fun ls hl => ?_)
  unfold f_J0_checkIndex_df160 at h
  refine lv_iload_n hx hb dJ0_checkIndex_df160_0 rfl (lv_at hl 0 rfl) ?_
  refine lv_iload_n hx hb dJ0_checkIndex_df160_1 rfl (lv_at hl 1 rfl) ?_
  rcases cx.2.2.2.2.2.2.2.2.2 with hz1 | ⟨t2, hz1⟩
  · refine va_gets hx hb hz1 hw.2.2 cx.1.2.2.2.1 (cx.1.2.2.2.2 _ tw_3_93) (fun _ h9 => h9) dJ0_checkIndex_df160_2 ?_
    obtain ⟨x3, g4, h⟩ := bd_ex h
    refine c_S (As := [.int p0, .int p1, .null]) (rest := []) (w' := ([] : va_W)) cx hw (c_J3_checkIndex_8e157 l g  N p0 p1  x3 g4) (cl_J0_1059 cx.1.2.2.2.2 ⟨Nat.le_of_ble_eq_true rfl, Nat.le_of_ble_eq_true rfl⟩) Ct.nil hl.1 rfl rfl (Nat.le_of_ble_eq_true rfl) dJ0_checkIndex_df160_5 ⟨Nat.le_of_ble_eq_true rfl, Nat.le_of_ble_eq_true rfl⟩ (st1 := [.int x3]) rfl (fun H locs hw => ?_)
    refine lv_pop hx hb dJ0_checkIndex_df160_8 rfl ?_
    exact r_v cx hr hlocks hw rfl dJ0_checkIndex_df160_9
  · refine va_gets hx hb hz1 hw.2.2 cx.1.2.2.2.1 (cx.1.2.2.2.2 _ tw_3_93) (fun _ h9 => h9) dJ0_checkIndex_df160_2 ?_
    obtain ⟨x5, g6, h⟩ := bd_ex h
    refine c_S (As := [.int p0, .int p1, (.ref t2)]) (rest := []) (w' := ([] : va_W)) cx hw (c_J3_checkIndex_8e157r l g  N p0 p1 t2  x5 g6) (cl_J0_1059 cx.1.2.2.2.2 ⟨Nat.le_of_ble_eq_true rfl, Nat.le_of_ble_eq_true rfl⟩) Ct.nil hl.1 rfl rfl (Nat.le_of_ble_eq_true rfl) dJ0_checkIndex_df160_5 ⟨Nat.le_of_ble_eq_true rfl, Nat.le_of_ble_eq_true rfl⟩ (st1 := [.int x5]) rfl (fun H locs hw => ?_)
    refine lv_pop hx hb dJ0_checkIndex_df160_8 rfl ?_
    exact r_v cx hr hlocks hw rfl dJ0_checkIndex_df160_9
set_option maxHeartbeats 4000000 in
set_option maxRecDepth 100000 in
theorem c_J1_charAt_3b067 (l : Launch) (g : gE)  (N : Nat) (w0 : Nat) (hw0 : w0 < 15) (p1 : Int32)  (r : Int32) (h : f_J1_charAt_3b067 N  w0 p1 = some r) : MO l yJ1_charAt_3b067 (Cond.code yJ1_charAt_3b067 cJ1_charAt_3b067 2 (some .char) :: TB) rm_J1_charAt_3b067 [.ref (gV g w0), .int p1] g (([] : va_W)) (([] : va_W)) (some (.int r)) 0 0 := by
  refine MO.of (cc := cJ1_charAt_3b067) (maxL := 2) (ret := (some .char)) (by decide) ?_
  intro p e s m below meth c cx hw hr hlocks _
  have hx := cx.1.1
  have hb := cx.1.2.1
  refine en_go (lv := [(0, .ref (gV g w0)), (1, .int p1)]) (Nat.le_of_ble_eq_true rfl) rfl (fun ls hl => ?_)
  unfold f_J1_charAt_3b067 at h
  refine lv_iload_n hx hb dJ1_charAt_3b067_0 rfl (lv_at hl 1 rfl) ?_
  refine lv_aload_n hx hb dJ1_charAt_3b067_1 rfl (lv_at hl 0 rfl) ?_
  refine va_tlen hx hb (cx.2.2.2.2.2.1.1 w0 hw0).2.2.2 hw.2.2 rfl dJ1_charAt_3b067_2 ?_
  obtain ⟨u2, g1, h⟩ := bd_ex h
  refine c_S (As := [.int p1, .int (Int32.ofNat (strLen.getD w0 0))]) (rest := []) (w' := ([] : va_W)) cx hw (c_J0_checkIndex_df160 l g  N p1 (Int32.ofNat (strLen.getD w0 0))   g1) (cl_J1_9 cx.1.2.2.2.2 ⟨Nat.le_of_ble_eq_true rfl, Nat.le_of_ble_eq_true rfl⟩) Ct.nil hl.1 rfl rfl (Nat.le_of_ble_eq_true rfl) dJ1_charAt_3b067_3 ⟨Nat.le_of_ble_eq_true rfl, Nat.le_of_ble_eq_true rfl⟩ (st1 := []) rfl (fun H locs hw => ?_)
  refine lv_aload_n hx hb dJ1_charAt_3b067_6 rfl (lv_at hl 0 rfl) ?_
  refine lv_iload_n hx hb dJ1_charAt_3b067_7 rfl (lv_at hl 1 rfl) ?_
  have ix3 := rd_in h
  refine va_tb hx hb (cx.2.2.2.2.2.1.1 w0 hw0).2.2.2 hw.2.2 ix3 rfl dJ1_charAt_3b067_8 ?_
  refine lv_topi (fun x3 ex3 => ?_)
  replace h := rd_nx ex3 h
  refine lv_sipush (v := 255) hx hb dJ1_charAt_3b067_9 (by decide) ?_
  refine lv_iand hx hb dJ1_charAt_3b067_12 ?_
  refine lv_i2c hx hb dJ1_charAt_3b067_13 rfl ?_
  exact r_n cx hr hlocks (pk_nc (x3 &&& (255 : Int32))) hw (sm_eq h) rfl dJ1_charAt_3b067_14
set_option maxHeartbeats 4000000 in
set_option maxRecDepth 100000 in
theorem c_J0_isLatin1_aae02 (l : Launch) (g : gE)  (N : Nat) (w0 : Nat) (hw0 : w0 < 15)  (r : Int32) (h : f_J0_isLatin1_aae02 N  w0 = some r) : MO l yJ0_isLatin1_aae02 (Cond.code yJ0_isLatin1_aae02 cJ0_isLatin1_aae02 1 (some .boolean) :: TB) rm_J0_isLatin1_aae02 [.ref (gK g w0)] g (([] : va_W)) (([] : va_W)) (some (.int r)) 0 0 := by
  refine MO.of (cc := cJ0_isLatin1_aae02) (maxL := 1) (ret := (some .boolean)) (by decide) ?_
  intro p e s m below meth c cx hw hr hlocks _
  have hx := cx.1.1
  have hb := cx.1.2.1
  refine en_go (lv := [(0, .ref (gK g w0))]) (Nat.le_of_ble_eq_true rfl) rfl (fun ls hl => ?_)
  unfold f_J0_isLatin1_aae02 at h
  refine va_gets hx hb cx.2.2.2.2.2.2.2.2.1 hw.2.2 cx.1.2.2.2.1 (cx.1.2.2.2.2 _ tw_3_77) (fun _ h9 => h9) dJ0_isLatin1_aae02_0 ?_
  refine lv_if_eq (tgt := 17) hx hb dJ0_isLatin1_aae02_3 (by decide) (fun c1 => False.elim (by revert c1; decide)) (fun _ => ?_)
  refine lv_aload_n hx hb dJ0_isLatin1_aae02_6 rfl (lv_at hl 0 rfl) ?_
  refine vk_getf hx hb (cx.2.2.2.2.2.1.1 w0 hw0).2.1 hw.2.2 cx.1.2.2.2.1 (cx.1.2.2.2.2 _ tw_6_7) (fun _ h9 => h9) dJ0_isLatin1_aae02_7 ?_
  refine lv_if_ne (tgt := 17) hx hb dJ0_isLatin1_aae02_10 (by decide) (fun c2 => False.elim (by revert c2; decide)) (fun _ => ?_)
  refine lv_iconst (v := 1) hx hb dJ0_isLatin1_aae02_13 (by decide) ?_
  refine lv_goto (tgt := 18) hx hb dJ0_isLatin1_aae02_14 (by decide) ?_
  exact r_z cx hr hlocks rfl hw (sm_eq h) rfl dJ0_isLatin1_aae02_18
set_option maxHeartbeats 4000000 in
set_option maxRecDepth 100000 in
theorem c_J0_coder_7d493 (l : Launch) (g : gE)  (N : Nat) (w0 : Nat) (hw0 : w0 < 15)  (r : Int32) (h : f_J0_coder_7d493 N  w0 = some r) : MO l yJ0_coder_7d493 (Cond.code yJ0_coder_7d493 cJ0_coder_7d493 1 (some .byte) :: TB) rm_J0_coder_7d493 [.ref (gK g w0)] g (([] : va_W)) (([] : va_W)) (some (.int r)) 0 0 := by
  refine MO.of (cc := cJ0_coder_7d493) (maxL := 1) (ret := (some .byte)) (by decide) ?_
  intro p e s m below meth c cx hw hr hlocks _
  have hx := cx.1.1
  have hb := cx.1.2.1
  refine en_go (lv := [(0, .ref (gK g w0))]) (Nat.le_of_ble_eq_true rfl) rfl (fun ls hl => ?_)
  unfold f_J0_coder_7d493 at h
  refine va_gets hx hb cx.2.2.2.2.2.2.2.2.1 hw.2.2 cx.1.2.2.2.1 (cx.1.2.2.2.2 _ tw_3_77) (fun _ h9 => h9) dJ0_coder_7d493_0 ?_
  refine lv_if_eq (tgt := 13) hx hb dJ0_coder_7d493_3 (by decide) (fun c1 => False.elim (by revert c1; decide)) (fun _ => ?_)
  refine lv_aload_n hx hb dJ0_coder_7d493_6 rfl (lv_at hl 0 rfl) ?_
  refine vk_getf hx hb (cx.2.2.2.2.2.1.1 w0 hw0).2.1 hw.2.2 cx.1.2.2.2.1 (cx.1.2.2.2.2 _ tw_6_7) (fun _ h9 => h9) dJ0_coder_7d493_7 ?_
  refine lv_goto (tgt := 14) hx hb dJ0_coder_7d493_10 (by decide) ?_
  exact r_n cx hr hlocks rfl hw (sm_eq h) rfl dJ0_coder_7d493_14
set_option maxHeartbeats 4000000 in
set_option maxRecDepth 100000 in
theorem c_J0_charAt_5068e (l : Launch) (g : gE)  (N : Nat) (w0 : Nat) (hw0 : w0 < 15) (p1 : Int32)  (r : Int32) (h : f_J0_charAt_5068e N  w0 p1 = some r) : MO l yJ0_charAt_5068e (Cond.code yJ0_charAt_5068e cJ0_charAt_5068e 2 (some .char) :: TB) rm_J0_charAt_5068e [.ref (gK g w0), .int p1] g (([] : va_W)) (([] : va_W)) (some (.int r)) 0 0 := by
  refine MO.of (cc := cJ0_charAt_5068e) (maxL := 2) (ret := (some .char)) (by decide) ?_
  intro p e s m below meth c cx hw hr hlocks _
  have hx := cx.1.1
  have hb := cx.1.2.1
  refine en_go (lv := [(0, .ref (gK g w0)), (1, .int p1)]) (Nat.le_of_ble_eq_true rfl) rfl (fun ls hl => ?_)
  unfold f_J0_charAt_5068e at h
  refine lv_aload_n hx hb dJ0_charAt_5068e_0 rfl (lv_at hl 0 rfl) ?_
  obtain ⟨x1, g2, h⟩ := bd_ex h
  refine c_V (As := []) (rest := []) (w' := ([] : va_W)) cx hw (c_J0_isLatin1_aae02 l g  N w0 hw0  x1 g2) (cl_J0_492 cx.1.2.2.2.2 ⟨Nat.le_of_ble_eq_true rfl, Nat.le_of_ble_eq_true rfl⟩) (vk_recv cx.2.2.2.2.2.1 hw0 hw.2.2) Ct.nil hl.1 rfl rfl (Nat.le_of_ble_eq_true rfl) dJ0_charAt_5068e_1 ⟨Nat.le_of_ble_eq_true rfl, Nat.le_of_ble_eq_true rfl⟩ (st1 := [.int x1]) rfl (fun H locs hw => ?_)
  refine lv_if_eq (tgt := 16) hx hb dJ0_charAt_5068e_4 (by decide) (fun c3 => ?_) (fun c3 => ?_)
  · replace h := ite_t c3 h
    exact (Option.some_ne_none _ h.symm).elim
  · replace h := ite_f c3 h
    refine lv_aload_n hx hb dJ0_charAt_5068e_7 rfl (lv_at hl 0 rfl) ?_
    refine vk_getf hx hb (cx.2.2.2.2.2.1.1 w0 hw0).2.2.1 hw.2.2 cx.1.2.2.2.1 (cx.1.2.2.2.2 _ tw_6_6) (fun _ h9 => h9) dJ0_charAt_5068e_8 ?_
    refine lv_iload_n hx hb dJ0_charAt_5068e_11 rfl (lv_at hl 1 rfl) ?_
    obtain ⟨x4, g5, h⟩ := bd_ex h
    refine c_S (As := [.ref (gV g w0), .int p1]) (rest := []) (w' := ([] : va_W)) cx hw (c_J1_charAt_3b067 l g  N w0 hw0 p1  x4 g5) (cl_J0_495 cx.1.2.2.2.2 ⟨Nat.le_of_ble_eq_true rfl, Nat.le_of_ble_eq_true rfl⟩) Ct.nil hl.1 rfl rfl (Nat.le_of_ble_eq_true rfl) dJ0_charAt_5068e_12 ⟨Nat.le_of_ble_eq_true rfl, Nat.le_of_ble_eq_true rfl⟩ (st1 := [.int x4]) rfl (fun H locs hw => ?_)
    have i6 := ckc_in h
    replace h := ckc_nx h
    exact r_n cx hr hlocks i6 hw (sm_eq h) rfl dJ0_charAt_5068e_15
set_option maxHeartbeats 4000000 in
set_option maxRecDepth 100000 in
theorem c_J0_length_8abf5 (l : Launch) (g : gE)  (N : Nat) (w0 : Nat) (hw0 : w0 < 15)  (r : Int32) (h : f_J0_length_8abf5 N  w0 = some r) : MO l yJ0_length_8abf5 (Cond.code yJ0_length_8abf5 cJ0_length_8abf5 1 (some .int) :: TB) rm_J0_length_8abf5 [.ref (gK g w0)] g (([] : va_W)) (([] : va_W)) (some (.int r)) 0 0 := by
  refine MO.of (cc := cJ0_length_8abf5) (maxL := 1) (ret := (some .int)) (by decide) ?_
  intro p e s m below meth c cx hw hr hlocks _
  have hx := cx.1.1
  have hb := cx.1.2.1
  refine en_go (lv := [(0, .ref (gK g w0))]) (Nat.le_of_ble_eq_true rfl) rfl (fun ls hl => ?_)
  unfold f_J0_length_8abf5 at h
  refine lv_aload_n hx hb dJ0_length_8abf5_0 rfl (lv_at hl 0 rfl) ?_
  refine vk_getf hx hb (cx.2.2.2.2.2.1.1 w0 hw0).2.2.1 hw.2.2 cx.1.2.2.2.1 (cx.1.2.2.2.2 _ tw_6_6) (fun _ h9 => h9) dJ0_length_8abf5_1 ?_
  refine va_tlen hx hb (cx.2.2.2.2.2.1.1 w0 hw0).2.2.2 hw.2.2 rfl dJ0_length_8abf5_4 ?_
  refine lv_aload_n hx hb dJ0_length_8abf5_5 rfl (lv_at hl 0 rfl) ?_
  obtain ⟨x1, g2, h⟩ := bd_ex h
  refine c_V (As := []) (rest := [.int (Int32.ofNat (strLen.getD w0 0))]) (w' := ([] : va_W)) cx hw (c_J0_coder_7d493 l g  N w0 hw0  x1 g2) (cl_J0_335 cx.1.2.2.2.2 ⟨Nat.le_of_ble_eq_true rfl, Nat.le_of_ble_eq_true rfl⟩) (vk_recv cx.2.2.2.2.2.1 hw0 hw.2.2) Ct.nil hl.1 rfl rfl (Nat.le_of_ble_eq_true rfl) dJ0_length_8abf5_6 ⟨Nat.le_of_ble_eq_true rfl, Nat.le_of_ble_eq_true rfl⟩ (st1 := [.int x1, .int (Int32.ofNat (strLen.getD w0 0))]) rfl (fun H locs hw => ?_)
  refine lv_ishr hx hb dJ0_length_8abf5_9 ?_
  exact r_i cx hr hlocks hw (sm_eq h) rfl dJ0_length_8abf5_10
set_option maxHeartbeats 4000000 in
set_option maxRecDepth 100000 in
theorem c_X4_isUnder (l : Launch) (g : gE)  (N : Nat) (p0 : Int32) (p1 : Int32)  (r : Int32) (h : f_X4_isUnder N  p0 p1 = some r) : MO l yX4_isUnder (Cond.code yX4_isUnder cX4_isUnder 4 (some .boolean) :: TB) rm_X4_isUnder [.int p0, .int p1] g (([] : va_W)) (([] : va_W)) (some (.int r)) 0 0 := by
  refine MO.of (cc := cX4_isUnder) (maxL := 4) (ret := (some .boolean)) (by decide) ?_
  intro p e s m below meth c cx hw hr hlocks _
  have hx := cx.1.1
  have hb := cx.1.2.1
  refine en_go (lv := [(0, .int p0), (1, .int p1)]) (Nat.le_of_ble_eq_true rfl) rfl (fun ls hl => ?_)
  have L4 : ∀ (n4 : Nat) (a1 : Int32) (a2 : Int32) (a3 : Int32) (H : Heap) (locs : List Loc) (ls : Array Slot), Wd g (va_A (([] : va_W)) s.heap.size) (([] : va_W)) s H locs → lv_has ls 4 [(1, .int a1), (2, .int a2), (3, .int a3)] → f_X4_isUnder_L4 N   n4 a1 a2 a3 = some r → W p l e rm_X4_isUnder s m ([.int p0, .int p1] : List Value).toArray below meth c H locs 0 0 (MQ below (QO (some (.int r)) g (([] : va_W)) (va_A (([] : va_W)) s.heap.size)) ([.int p0, .int p1] : List Value).toArray s 0 0 (va_A (([] : va_W)) s.heap.size)) (F0 m 4 ls []) := by
    intro n4
    induction n4 with
    | zero => intro a1 a2 a3 H locs ls hw hl h; exact (Option.some_ne_none _ h.symm).elim
    | succ n4 ih4 =>
      intro a1 a2 a3 H locs ls hw hl h
      rw [f_X4_isUnder_L4] at h
      refine lv_iload_n hx hb dX4_isUnder_4 rfl (lv_at hl 2 rfl) ?_
      refine lv_iconst (v := 5) hx hb dX4_isUnder_5 (by decide) ?_
      refine lv_icmp_gt (tgt := 35) hx hb dX4_isUnder_6 (by decide) (fun c8 => ?_) (fun c8 => ?_)
      · replace h := ite_t c8 h
        refine lv_iconst (v := 0) hx hb dX4_isUnder_35 (by decide) ?_
        exact r_z cx hr hlocks rfl hw (sm_eq h) rfl dX4_isUnder_36
      · replace h := ite_f c8 h
        refine lv_iload_n hx hb dX4_isUnder_9 rfl (lv_at hl 1 rfl) ?_
        obtain ⟨x9, g10, h⟩ := bd_ex h
        refine c_S (As := [.int a2]) (rest := []) (w' := ([] : va_W)) cx hw (c_X4_isKind l g  N a2  x9 g10) (cl_X4_64 cx.1.2.2.2.2 ⟨Nat.le_of_ble_eq_true rfl, Nat.le_of_ble_eq_true rfl⟩) Ct.nil hl.1 rfl rfl (Nat.le_of_ble_eq_true rfl) dX4_isUnder_10 ⟨Nat.le_of_ble_eq_true rfl, Nat.le_of_ble_eq_true rfl⟩ (st1 := [.int x9]) rfl (fun H locs hw => ?_)
        refine lv_if_eq (tgt := 35) hx hb dX4_isUnder_13 (by decide) (fun c11 => ?_) (fun c11 => ?_)
        · replace h := ite_t c11 h
          refine lv_iconst (v := 0) hx hb dX4_isUnder_35 (by decide) ?_
          exact r_z cx hr hlocks rfl hw (sm_eq h) rfl dX4_isUnder_36
        · replace h := ite_f c11 h
          refine lv_iload_n hx hb dX4_isUnder_16 rfl (lv_at hl 1 rfl) ?_
          refine lv_iload_n hx hb dX4_isUnder_17 rfl (lv_at hl 0 rfl) ?_
          refine lv_icmp_ne (tgt := 23) hx hb dX4_isUnder_18 (by decide) (fun c12 => ?_) (fun c12 => ?_)
          · replace h := ite_f c12 h
            refine va_gets hx hb cx.2.2.2.2.2.2.1 hw.2.2 cx.1.2.2.2.1 (cx.1.2.2.2.2 _ tw_2_68) (fun _ h9 => h9) dX4_isUnder_23 ?_
            refine lv_iload_n hx hb dX4_isUnder_26 rfl (lv_at hl 1 rfl) ?_
            have ix13 := rd_in h
            refine va_ti hx hb cx.2.2.2.2.2.2.2.1 hw.2.2 ix13 rfl dX4_isUnder_27 ?_
            refine lv_topi (fun x13 ex13 => ?_)
            replace h := rd_nx ex13 h
            refine lv_istore_n (lv' := [(2, .int x13), (1, .int a1), (3, .int a3)]) hx hb dX4_isUnder_28 rfl hl (by decide) rfl (fun ls hl => ?_)
            obtain ⟨x14, ex14⟩ : ∃ y : Int32, y = (a3 + 1) := ⟨_, rfl⟩
            replace h := lt_nx ex14 h
            refine lv_iinc (v := x14) (lv' := [(3, .int x14), (2, .int x13), (1, .int a1)]) hx hb dX4_isUnder_29 hl (k := 2) rfl (by rw [ex14]; rfl) (by decide) rfl (fun ls hl => ?_)
            refine lv_goto (tgt := 4) hx hb dX4_isUnder_32 (by decide) ?_
            exact ih4 a1 x13 x14 _ _ _ hw (lv_sub hl [2, 1, 0] rfl) h
          · replace h := ite_t c12 h
            refine lv_iconst (v := 1) hx hb dX4_isUnder_21 (by decide) ?_
            exact r_z cx hr hlocks rfl hw (sm_eq h) rfl dX4_isUnder_22
  unfold f_X4_isUnder at h
  refine lv_iload_n hx hb dX4_isUnder_0 rfl (lv_at hl 0 rfl) ?_
  refine lv_istore_n (lv' := [(2, .int p0), (0, .int p0), (1, .int p1)]) hx hb dX4_isUnder_1 rfl hl (by decide) rfl (fun ls hl => ?_)
  refine lv_iconst (v := 0) hx hb dX4_isUnder_2 (by decide) ?_
  refine lv_istore_n (lv' := [(3, .int (0 : Int32)), (2, .int p0), (0, .int p0), (1, .int p1)]) hx hb dX4_isUnder_3 rfl hl (by decide) rfl (fun ls hl => ?_)
  exact L4 N p1 p0 (0 : Int32) _ _ _ hw (lv_sub hl [3, 1, 0] rfl) h
set_option maxHeartbeats 4000000 in
set_option maxRecDepth 100000 in
theorem c_X4_as (l : Launch) (g : gE) (q : Nat → Nat) (N : Nat) (p1 : Int32) (p2 : Int32) (d : XD) (r : Int32) (d' : XD) (h : f_X4_as N  p1 p2 d = some (r, d')) : MO l yX4_as (Cond.code yX4_as cX4_as 3 (some .int) :: TB) rm_X4_as [.ref (q 0), .int p1, .int p2] g ((XC g q d)) ((XC g q d')) (some (.int r)) 0 0 := by
  refine MO.of (cc := cX4_as) (maxL := 3) (ret := (some .int)) (by decide) ?_
  intro p e s m below meth c cx hw hr hlocks _
  have hx := cx.1.1
  have hb := cx.1.2.1
  refine en_go (lv := [(0, .ref (q 0)), (1, .int p1), (2, .int p2)]) (Nat.le_of_ble_eq_true rfl) rfl (fun ls hl => ?_)
  unfold f_X4_as at h
  refine lv_aload_n hx hb dX4_as_0 rfl (lv_at hl 0 rfl) ?_
  refine lv_iload_n hx hb dX4_as_1 rfl (lv_at hl 1 rfl) ?_
  obtain ⟨x1, g2, h⟩ := bd_ex h
  refine c_V (As := [.int p1]) (rest := []) (w' := (XC g q d)) cx hw (c_X4_isOne l g q N p1 d x1 g2) (cl_X4_72 cx.1.2.2.2.2 ⟨Nat.le_of_ble_eq_true rfl, Nat.le_of_ble_eq_true rfl⟩) (x_recv cx hw (ci := 4) rfl 0 rfl) (Ct.all (XC_ll ..)) hl.1 rfl rfl (Nat.le_of_ble_eq_true rfl) dX4_as_2 ⟨Nat.le_of_ble_eq_true rfl, Nat.le_of_ble_eq_true rfl⟩ (st1 := [.int x1]) rfl (fun H locs hw => ?_)
  refine lv_if_eq (tgt := 15) hx hb dX4_as_5 (by decide) (fun c3 => ?_) (fun c3 => ?_)
  · replace h := ite_t c3 h
    refine lv_aload_n hx hb dX4_as_15 rfl (lv_at hl 0 rfl) ?_
    refine lv_ldc hx hb cx.1.2.2.2.1 (cx.1.2.2.2.2 _ tw_1_202) dX4_as_16 ?_
    obtain ⟨x4, d5, g6, h⟩ := bd2_ex h
    refine c_V (As := [.int (-1000000001 : Int32)]) (rest := []) (w' := (XC g q d5)) cx hw (c_X4_tell l g q N (-1000000001 : Int32) d x4 d5 g6) (cl_X4_45 cx.1.2.2.2.2 ⟨Nat.le_of_ble_eq_true rfl, Nat.le_of_ble_eq_true rfl⟩) (x_recv cx hw (ci := 4) rfl 0 rfl) (Ct.all (XC_ll ..)) hl.1 rfl rfl (Nat.le_of_ble_eq_true rfl) dX4_as_18 ⟨Nat.le_of_ble_eq_true rfl, Nat.le_of_ble_eq_true rfl⟩ (st1 := [.int x4]) rfl (fun H locs hw => ?_)
    exact r_i cx hr hlocks hw (pr1 h) (congrArg (fun z0 => (XC g q z0)) (pr2 h)) dX4_as_21
  · replace h := ite_f c3 h
    refine lv_iload_n hx hb dX4_as_8 rfl (lv_at hl 2 rfl) ?_
    obtain ⟨x7, g8, h⟩ := bd_ex h
    refine c_S (As := [.int p2]) (rest := []) (w' := (XC g q d)) cx hw (c_X4_isKind l g  N p2  x7 g8) (cl_X4_64 cx.1.2.2.2.2 ⟨Nat.le_of_ble_eq_true rfl, Nat.le_of_ble_eq_true rfl⟩) Ct.nil hl.1 rfl rfl (Nat.le_of_ble_eq_true rfl) dX4_as_9 ⟨Nat.le_of_ble_eq_true rfl, Nat.le_of_ble_eq_true rfl⟩ (st1 := [.int x7]) rfl (fun H locs hw => ?_)
    refine lv_if_ne (tgt := 22) hx hb dX4_as_12 (by decide) (fun c9 => ?_) (fun c9 => ?_)
    · replace h := ite_f c9 h
      refine lv_aload_n hx hb dX4_as_22 rfl (lv_at hl 0 rfl) ?_
      refine gf_X4_12 cx hw 0 rfl rfl dX4_as_23 ?_
      refine gf_X4_75 cx hw 1 rfl rfl dX4_as_26 ?_
      refine lv_iload_n hx hb dX4_as_29 rfl (lv_at hl 1 rfl) ?_
      have ix10 := rd_in h
      refine x_iald cx hw 6 rfl ix10 dX4_as_30 ?_
      refine lv_topi (fun x10 ex10 => ?_)
      replace h := rd_nx ex10 h
      refine lv_iload_n hx hb dX4_as_31 rfl (lv_at hl 2 rfl) ?_
      obtain ⟨x11, g12, h⟩ := bd_ex h
      refine c_S (As := [.int x10, .int p2]) (rest := []) (w' := (XC g q d)) cx hw (c_X4_isUnder l g  N x10 p2  x11 g12) (cl_X4_112 cx.1.2.2.2.2 ⟨Nat.le_of_ble_eq_true rfl, Nat.le_of_ble_eq_true rfl⟩) Ct.nil hl.1 rfl rfl (Nat.le_of_ble_eq_true rfl) dX4_as_32 ⟨Nat.le_of_ble_eq_true rfl, Nat.le_of_ble_eq_true rfl⟩ (st1 := [.int x11]) rfl (fun H locs hw => ?_)
      refine lv_if_ne (tgt := 45) hx hb dX4_as_35 (by decide) (fun c13 => ?_) (fun c13 => ?_)
      · replace h := ite_f c13 h
        refine lv_aload_n hx hb dX4_as_45 rfl (lv_at hl 0 rfl) ?_
        refine gf_X4_12 cx hw 0 rfl rfl dX4_as_46 ?_
        refine gf_X4_81 cx hw 1 rfl rfl dX4_as_49 ?_
        refine lv_iload_n hx hb dX4_as_52 rfl (lv_at hl 1 rfl) ?_
        have ix14 := rd_in h
        refine x_iald cx hw 8 rfl ix14 dX4_as_53 ?_
        refine lv_topi (fun x14 ex14 => ?_)
        replace h := rd_nx ex14 h
        exact r_i cx hr hlocks hw (pr1 h) (congrArg (fun z0 => (XC g q z0)) (pr2 h)) dX4_as_54
      · replace h := ite_t c13 h
        refine lv_aload_n hx hb dX4_as_38 rfl (lv_at hl 0 rfl) ?_
        refine lv_ldc hx hb cx.1.2.2.2.1 (cx.1.2.2.2.2 _ tw_2_70) dX4_as_39 ?_
        obtain ⟨x15, d16, g17, h⟩ := bd2_ex h
        refine c_V (As := [.int (-1000000003 : Int32)]) (rest := []) (w' := (XC g q d16)) cx hw (c_X4_tell l g q N (-1000000003 : Int32) d x15 d16 g17) (cl_X4_45 cx.1.2.2.2.2 ⟨Nat.le_of_ble_eq_true rfl, Nat.le_of_ble_eq_true rfl⟩) (x_recv cx hw (ci := 4) rfl 0 rfl) (Ct.all (XC_ll ..)) hl.1 rfl rfl (Nat.le_of_ble_eq_true rfl) dX4_as_41 ⟨Nat.le_of_ble_eq_true rfl, Nat.le_of_ble_eq_true rfl⟩ (st1 := [.int x15]) rfl (fun H locs hw => ?_)
        exact r_i cx hr hlocks hw (pr1 h) (congrArg (fun z0 => (XC g q z0)) (pr2 h)) dX4_as_44
    · replace h := ite_t c9 h
      refine lv_aload_n hx hb dX4_as_15 rfl (lv_at hl 0 rfl) ?_
      refine lv_ldc hx hb cx.1.2.2.2.1 (cx.1.2.2.2.2 _ tw_1_202) dX4_as_16 ?_
      obtain ⟨x18, d19, g20, h⟩ := bd2_ex h
      refine c_V (As := [.int (-1000000001 : Int32)]) (rest := []) (w' := (XC g q d19)) cx hw (c_X4_tell l g q N (-1000000001 : Int32) d x18 d19 g20) (cl_X4_45 cx.1.2.2.2.2 ⟨Nat.le_of_ble_eq_true rfl, Nat.le_of_ble_eq_true rfl⟩) (x_recv cx hw (ci := 4) rfl 0 rfl) (Ct.all (XC_ll ..)) hl.1 rfl rfl (Nat.le_of_ble_eq_true rfl) dX4_as_18 ⟨Nat.le_of_ble_eq_true rfl, Nat.le_of_ble_eq_true rfl⟩ (st1 := [.int x18]) rfl (fun H locs hw => ?_)
      exact r_i cx hr hlocks hw (pr1 h) (congrArg (fun z0 => (XC g q z0)) (pr2 h)) dX4_as_21
