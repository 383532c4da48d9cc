def f_J7_fill_d0a16_L6 (N : Nat) (na : Nat)  : Nat → Int64 → Int32 → Int32 → (Nat → Int64) → Option ((Nat → Int64))
  | 0, _, _, _, _ => none
  | n6 + 1, a1, a3, a4, f_ =>
  if a4 ≤ a3 then
    some f_
  else
    (ck a3 na).bind fun _ =>
    lt (vp_updL f_ (a3).toNatClampNeg a1) fun f4 =>
    lt (a3 + 1) fun x5 =>
    f_J7_fill_d0a16_L6 N na  n6 a1 x5 a4 f4
def f_J7_fill_d0a16 (N : Nat) (na : Nat) (p1 : Int64) (f : (Nat → Int64)) : Option ((Nat → Int64)) :=
  lt (Int32.ofNat na) fun x1 =>
  f_J7_fill_d0a16_L6 N na  N p1 (0 : Int32) x1 f
def f_X4_isWithin (N : Nat)  (p0 : Int32) (p1 : Int32) (p2 : Int32)  : Option (Int32) :=
  if p0 < p1 then
    some (0 : Int32)
  else
    if p2 < p0 then
      some (0 : Int32)
    else
      some (1 : Int32)
def f_X4_copied (N : Nat)  (p0 : Int32) (p1 : Int32) (p2 : Int32)  : Option (Int32) :=
  lt (p2 ||| (p2 <<< ((9 : Int32) &&& 31))) fun x1 =>
  some ((p0 &&& (x1 ^^^ (-1 : Int32))) ||| (p1 &&& x1))
def f_X4_withWay (N : Nat)  (p0 : Int32) (p1 : Int32) (p2 : Int32)  : Option (Int32) :=
  lt ((p2 &&& (1 : Int32)) <<< (p1 &&& 31)) fun x1 =>
  lt (((p2 >>> ((1 : Int32) &&& 31)) &&& (1 : Int32)) <<< ((p1 + (9 : Int32)) &&& 31)) fun x2 =>
  (f_X4_copied N p0 (x1 ||| x2) ((1 : Int32) <<< (p1 &&& 31))).bind fun x3 =>
  some x3
def f_X4_exchange (N : Nat) (na : Nat) (p1 : Int32) (p2 : Int32) (f : (Nat → Int32)) : Option (Int32 × (Nat → Int32)) :=
  (f_X4_isWithin N p1 (0 : Int32) ((Int32.ofNat na) - (1 : Int32))).bind fun x1 =>
  if x1 = 0 then
    some ((-1 : Int32), f)
  else
    (rd f na p1).bind fun x4 =>
    (ck p1 na).bind fun _ =>
    lt (upd f (p1).toNatClampNeg p2) fun f6 =>
    some (x4, f6)
def f_X4_leastOf_L2 (N : Nat)   : Nat → Int32 → Int32 → Option (Int32)
  | 0, _, _ => none
  | n2 + 1, a0, a1 =>
  if (9 : Int32) ≤ a1 then
    some (-1 : Int32)
  else
    if ((a0 >>> (a1 &&& 31)) &&& (1 : Int32)) = 0 then
      lt (a1 + 1) fun x3 =>
      f_X4_leastOf_L2 N   n2 a0 x3
    else
      some a1
def f_X4_leastOf (N : Nat)  (p0 : Int32)  : Option (Int32) :=
  f_X4_leastOf_L2 N   N p0 (0 : Int32)
def f_X4_unlike (N : Nat)  (p0 : Int32) (p1 : Int32)  : Option (Int32) :=
  lt (p0 ^^^ p1) fun x1 =>
  some ((x1 ||| (x1 >>> ((9 : Int32) &&& 31))) &&& (511 : Int32))
def f_X4_wayIn (N : Nat)  (p0 : Int32) (p1 : Int32)  : Option (Int32) :=
  some (((p0 >>> (p1 &&& 31)) &&& (1 : Int32)) ||| (((p0 >>> ((p1 + (9 : Int32)) &&& 31)) &&& (1 : Int32)) <<< ((1 : Int32) &&& 31)))
def f_X4_nextWay (N : Nat)  (p0 : Int32)  : Option (Int32) :=
  some ((p0 + (1 : Int32)) - (p0 + (1 : Int32)) / (4 : Int32) * (4 : Int32))
def f_X4_isKind (N : Nat)  (p0 : Int32)  : Option (Int32) :=
  (f_X4_isWithin N p0 (0 : Int32) (5 : Int32)).bind fun x1 =>
  (ckz x1).bind fun _ =>
  some x1
def f_J6_bitCount_0f7a4 (N : Nat)  (p0 : Int32)  : Option (Int32) :=
  lt (p0 - ((((p0).toUInt32 >>> (((1 : Int32)).toUInt32 &&& Int32.toUInt32 31)).toInt32) &&& (1431655765 : Int32))) fun x1 =>
  lt ((x1 &&& (858993459 : Int32)) + ((((x1).toUInt32 >>> (((2 : Int32)).toUInt32 &&& Int32.toUInt32 31)).toInt32) &&& (858993459 : Int32))) fun x2 =>
  lt ((x2 + (((x2).toUInt32 >>> (((4 : Int32)).toUInt32 &&& Int32.toUInt32 31)).toInt32)) &&& (252645135 : Int32)) fun x3 =>
  lt (x3 + (((x3).toUInt32 >>> (((8 : Int32)).toUInt32 &&& Int32.toUInt32 31)).toInt32)) fun x4 =>
  lt (x4 + (((x4).toUInt32 >>> (((16 : Int32)).toUInt32 &&& Int32.toUInt32 31)).toInt32)) fun x5 =>
  some (x5 &&& (63 : Int32))
def f_J7_fill_53178_L5 (N : Nat) (na : Nat)  : Nat → Int32 → Int32 → Int32 → (Nat → Int32) → Option ((Nat → Int32))
  | 0, _, _, _, _ => none
  | n5 + 1, a1, a2, a3, f_ =>
  if a3 ≤ a2 then
    some f_
  else
    (ck a2 na).bind fun _ =>
    lt (upd f_ (a2).toNatClampNeg a1) fun f4 =>
    lt (a2 + 1) fun x5 =>
    f_J7_fill_53178_L5 N na  n5 a1 x5 a3 f4
def f_J7_fill_53178 (N : Nat) (na : Nat) (p1 : Int32) (f : (Nat → Int32)) : Option ((Nat → Int32)) :=
  lt (Int32.ofNat na) fun x1 =>
  f_J7_fill_53178_L5 N na  N p1 (0 : Int32) x1 f
set_option maxHeartbeats 4000000 in
set_option maxRecDepth 100000 in
theorem c_J7_fill_d0a16 (l : Launch) (g : gE) (a : Nat) (na : Nat) (N : Nat) (p1 : Int64) (f : (Nat → Int64)) (f' : (Nat → Int64)) (h : f_J7_fill_d0a16 N na p1 f = some f') : MO l yJ7_fill_d0a16 (Cond.code yJ7_fill_d0a16 cJ7_fill_d0a16 5 none :: TB) rm_J7_fill_d0a16 [.ref a, .long p1] g ((ACJ g a na f)) ((ACJ g a na f')) none 0 0 := by
  refine MO.of (cc := cJ7_fill_d0a16) (maxL := 5) (ret := none) (by decide) ?_
  intro p e s m below meth c cx hw hr hlocks _
  have hx := cx.1.1
  have hb := cx.1.2.1
  refine en_go (lv := [(0, .ref a), (1, .long p1)]) (Nat.le_of_ble_eq_true rfl) rfl (fun ls hl => ?_)
  have L6 : ∀ (n6 : Nat) (a1 : Int64) (a3 : Int32) (a4 : Int32) (f_ : (Nat → Int64)) (H : Heap) (locs : List Loc) (ls : Array Slot), Wd g (va_A ((ACJ g a na f)) s.heap.size) ((ACJ g a na f_)) s H locs → lv_has ls 5 [(0, .ref a), (1, .long a1), (3, .int a3), (4, .int a4)] → f_J7_fill_d0a16_L6 N na  n6 a1 a3 a4 f_ = some f' → W p l e rm_J7_fill_d0a16 s m ([.ref a, .long p1] : List Value).toArray below meth c H locs 0 0 (MQ below (QO none g ((ACJ g a na f')) (va_A ((ACJ g a na f)) s.heap.size)) ([.ref a, .long p1] : List Value).toArray s 0 0 (va_A ((ACJ g a na f)) s.heap.size)) (F0 m 6 ls []) := by
    intro n6
    induction n6 with
    | zero => intro a1 a3 a4 f_ H locs ls hw hl h; exact (Option.some_ne_none _ h.symm).elim
    | succ n6 ih6 =>
      intro a1 a3 a4 f_ H locs ls hw hl h
      rw [f_J7_fill_d0a16_L6] at h
      refine lv_iload_n hx hb dJ7_fill_d0a16_6 rfl (lv_at hl 2 rfl) ?_
      refine lv_iload hx hb dJ7_fill_d0a16_7 (lv_at hl 3 rfl) ?_
      refine lv_icmp_ge (tgt := 22) hx hb dJ7_fill_d0a16_9 (by decide) (fun c6 => ?_) (fun c6 => ?_)
      · replace h := ite_t c6 h
        exact r_v cx hr hlocks hw (congrArg (fun z0 => (ACJ g a na z0)) (sm_eq h)) dJ7_fill_d0a16_22
      · replace h := ite_f c6 h
        refine lv_aload_n hx hb dJ7_fill_d0a16_12 rfl (lv_at hl 0 rfl) ?_
        refine lv_iload_n hx hb dJ7_fill_d0a16_13 rfl (lv_at hl 2 rfl) ?_
        refine lv_lload_n hx hb dJ7_fill_d0a16_14 rfl (lv_at hl 1 rfl) ?_
        have i7 := ck_in h
        replace h := ck_nx h
        refine x_last cx hw 0 rfl i7 dJ7_fill_d0a16_15 (fun H locs hw => ?_)
        obtain ⟨f8, ef8, h⟩ := lt_ex h
        have hw : Wd g (va_A ((ACJ g a na f)) s.heap.size) ((ACJ g a na f8)) s H locs := by rw [ef8]; exact hw
        obtain ⟨x9, ex9⟩ : ∃ y : Int32, y = (a3 + 1) := ⟨_, rfl⟩
        replace h := lt_nx ex9 h
        refine lv_iinc (v := x9) (lv' := [(3, .int x9), (0, .ref a), (1, .long a1), (4, .int a4)]) hx hb dJ7_fill_d0a16_16 hl (k := 2) rfl (by rw [ex9]; rfl) (by decide) rfl (fun ls hl => ?_)
        refine lv_goto (tgt := 6) hx hb dJ7_fill_d0a16_19 (by decide) ?_
        exact ih6 a1 x9 a4 f8 _ _ _ hw (lv_sub hl [1, 2, 0, 3] rfl) h
  unfold f_J7_fill_d0a16 at h
  refine lv_iconst (v := 0) hx hb dJ7_fill_d0a16_0 (by decide) ?_
  refine lv_istore_n (lv' := [(3, .int (0 : Int32)), (0, .ref a), (1, .long p1)]) hx hb dJ7_fill_d0a16_1 rfl hl (by decide) rfl (fun ls hl => ?_)
  refine lv_aload_n hx hb dJ7_fill_d0a16_2 rfl (lv_at hl 1 rfl) ?_
  refine x_alen cx hw 0 1 rfl rfl rfl dJ7_fill_d0a16_3 ?_
  refine lv_topi (fun x1 ex1 => ?_)
  replace h := lt_nx ex1 h
  refine lv_istore (lv' := [(4, .int x1), (3, .int (0 : Int32)), (0, .ref a), (1, .long p1)]) hx hb dJ7_fill_d0a16_4 hl (by decide) rfl (fun ls hl => ?_)
  exact L6 N p1 (0 : Int32) x1 f _ _ _ hw (lv_sub hl [2, 3, 1, 0] rfl) h
set_option maxHeartbeats 4000000 in
set_option maxRecDepth 100000 in
theorem c_X4_isWithin (l : Launch) (g : gE)  (N : Nat) (p0 : Int32) (p1 : Int32) (p2 : Int32)  (r : Int32) (h : f_X4_isWithin N  p0 p1 p2 = some r) : MO l yX4_isWithin (Cond.code yX4_isWithin cX4_isWithin 3 (some .boolean) :: TB) rm_X4_isWithin [.int p0, .int p1, .int p2] g (([] : va_W)) (([] : va_W)) (some (.int r)) 0 0 := by
  refine MO.of (cc := cX4_isWithin) (maxL := 3) (ret := (some .boolean)) (by decide) ?_
  intro p e s m below meth c cx hw hr hlocks _
  have hx := cx.1.1
  have hb := cx.1.2.1
  refine en_go (lv := [(0, .int p0), (1, .int p1), (2, .int p2)]) (Nat.le_of_ble_eq_true rfl) rfl (fun ls hl => ?_)
  unfold f_X4_isWithin at h
  refine lv_iload_n hx hb dX4_isWithin_0 rfl (lv_at hl 0 rfl) ?_
  refine lv_iload_n hx hb dX4_isWithin_1 rfl (lv_at hl 1 rfl) ?_
  refine lv_icmp_lt (tgt := 14) hx hb dX4_isWithin_2 (by decide) (fun c1 => ?_) (fun c1 => ?_)
  · replace h := ite_t c1 h
    refine lv_iconst (v := 0) hx hb dX4_isWithin_14 (by decide) ?_
    exact r_z cx hr hlocks rfl hw (sm_eq h) rfl dX4_isWithin_15
  · replace h := ite_f c1 h
    refine lv_iload_n hx hb dX4_isWithin_5 rfl (lv_at hl 0 rfl) ?_
    refine lv_iload_n hx hb dX4_isWithin_6 rfl (lv_at hl 2 rfl) ?_
    refine lv_icmp_gt (tgt := 14) hx hb dX4_isWithin_7 (by decide) (fun c2 => ?_) (fun c2 => ?_)
    · replace h := ite_t c2 h
      refine lv_iconst (v := 0) hx hb dX4_isWithin_14 (by decide) ?_
      exact r_z cx hr hlocks rfl hw (sm_eq h) rfl dX4_isWithin_15
    · replace h := ite_f c2 h
      refine lv_iconst (v := 1) hx hb dX4_isWithin_10 (by decide) ?_
      refine lv_goto (tgt := 15) hx hb dX4_isWithin_11 (by decide) ?_
      exact r_z cx hr hlocks rfl hw (sm_eq h) rfl dX4_isWithin_15
set_option maxHeartbeats 4000000 in
set_option maxRecDepth 100000 in
theorem c_X4_copied (l : Launch) (g : gE)  (N : Nat) (p0 : Int32) (p1 : Int32) (p2 : Int32)  (r : Int32) (h : f_X4_copied N  p0 p1 p2 = some r) : MO l yX4_copied (Cond.code yX4_copied cX4_copied 4 (some .int) :: TB) rm_X4_copied [.int p0, .int p1, .int p2] g (([] : va_W)) (([] : va_W)) (some (.int r)) 0 0 := by
  refine MO.of (cc := cX4_copied) (maxL := 4) (ret := (some .int)) (by decide) ?_
  intro p e s m below meth c cx hw hr hlocks _
  have hx := cx.1.1
  have hb := cx.1.2.1
  refine en_go (lv := [(0, .int p0), (1, .int p1), (2, .int p2)]) (Nat.le_of_ble_eq_true rfl) rfl (fun ls hl => ?_)
  unfold f_X4_copied at h
  refine lv_iload_n hx hb dX4_copied_0 rfl (lv_at hl 2 rfl) ?_
  refine lv_iload_n hx hb dX4_copied_1 rfl (lv_at hl 2 rfl) ?_
  refine lv_bipush (v := 9) hx hb dX4_copied_2 (by decide) ?_
  refine lv_ishl hx hb dX4_copied_4 ?_
  refine lv_ior hx hb dX4_copied_5 ?_
  refine lv_topi (fun x1 ex1 => ?_)
  replace h := lt_nx ex1 h
  refine lv_istore_n (lv' := [(3, .int x1), (0, .int p0), (1, .int p1), (2, .int p2)]) hx hb dX4_copied_6 rfl hl (by decide) rfl (fun ls hl => ?_)
  refine lv_iload_n hx hb dX4_copied_7 rfl (lv_at hl 1 rfl) ?_
  refine lv_iload_n hx hb dX4_copied_8 rfl (lv_at hl 0 rfl) ?_
  refine lv_iconst (v := -1) hx hb dX4_copied_9 (by decide) ?_
  refine lv_ixor hx hb dX4_copied_10 ?_
  refine lv_iand hx hb dX4_copied_11 ?_
  refine lv_iload_n hx hb dX4_copied_12 rfl (lv_at hl 2 rfl) ?_
  refine lv_iload_n hx hb dX4_copied_13 rfl (lv_at hl 0 rfl) ?_
  refine lv_iand hx hb dX4_copied_14 ?_
  refine lv_ior hx hb dX4_copied_15 ?_
  exact r_i cx hr hlocks hw (sm_eq h) rfl dX4_copied_16
set_option maxHeartbeats 4000000 in
set_option maxRecDepth 100000 in
theorem c_X4_withWay (l : Launch) (g : gE)  (N : Nat) (p0 : Int32) (p1 : Int32) (p2 : Int32)  (r : Int32) (h : f_X4_withWay N  p0 p1 p2 = some r) : MO l yX4_withWay (Cond.code yX4_withWay cX4_withWay 5 (some .int) :: TB) rm_X4_withWay [.int p0, .int p1, .int p2] g (([] : va_W)) (([] : va_W)) (some (.int r)) 0 0 := by
  refine MO.of (cc := cX4_withWay) (maxL := 5) (ret := (some .int)) (by decide) ?_
  intro p e s m below meth c cx hw hr hlocks _
  have hx := cx.1.1
  have hb := cx.1.2.1
  refine en_go (lv := [(0, .int p0), (1, .int p1), (2, .int p2)]) (Nat.le_of_ble_eq_true rfl) rfl (fun ls hl => ?_)
  unfold f_X4_withWay at h
  refine lv_iload_n hx hb dX4_withWay_0 rfl (lv_at hl 2 rfl) ?_
  refine lv_iconst (v := 1) hx hb dX4_withWay_1 (by decide) ?_
  refine lv_iand hx hb dX4_withWay_2 ?_
  refine lv_iload_n hx hb dX4_withWay_3 rfl (lv_at hl 1 rfl) ?_
  refine lv_ishl hx hb dX4_withWay_4 ?_
  refine lv_topi (fun x1 ex1 => ?_)
  replace h := lt_nx ex1 h
  refine lv_istore_n (lv' := [(3, .int x1), (0, .int p0), (1, .int p1), (2, .int p2)]) hx hb dX4_withWay_5 rfl hl (by decide) rfl (fun ls hl => ?_)
  refine lv_iload_n hx hb dX4_withWay_6 rfl (lv_at hl 3 rfl) ?_
  refine lv_iconst (v := 1) hx hb dX4_withWay_7 (by decide) ?_
  refine lv_ishr hx hb dX4_withWay_8 ?_
  refine lv_iconst (v := 1) hx hb dX4_withWay_9 (by decide) ?_
  refine lv_iand hx hb dX4_withWay_10 ?_
  refine lv_iload_n hx hb dX4_withWay_11 rfl (lv_at hl 2 rfl) ?_
  refine lv_bipush (v := 9) hx hb dX4_withWay_12 (by decide) ?_
  refine lv_iadd hx hb dX4_withWay_14 ?_
  refine lv_ishl hx hb dX4_withWay_15 ?_
  refine lv_topi (fun x2 ex2 => ?_)
  replace h := lt_nx ex2 h
  refine lv_istore (lv' := [(4, .int x2), (3, .int x1), (0, .int p0), (1, .int p1), (2, .int p2)]) hx hb dX4_withWay_16 hl (by decide) rfl (fun ls hl => ?_)
  refine lv_iload_n hx hb dX4_withWay_18 rfl (lv_at hl 2 rfl) ?_
  refine lv_iload_n hx hb dX4_withWay_19 rfl (lv_at hl 1 rfl) ?_
  refine lv_iload hx hb dX4_withWay_20 (lv_at hl 0 rfl) ?_
  refine lv_ior hx hb dX4_withWay_22 ?_
  refine lv_iconst (v := 1) hx hb dX4_withWay_23 (by decide) ?_
  refine lv_iload_n hx hb dX4_withWay_24 rfl (lv_at hl 3 rfl) ?_
  refine lv_ishl hx hb dX4_withWay_25 ?_
  obtain ⟨x3, g4, h⟩ := bd_ex h
  refine c_S (As := [.int p0, .int (x1 ||| x2), .int ((1 : Int32) <<< (p1 &&& 31))]) (rest := []) (w' := ([] : va_W)) cx hw (c_X4_copied l g  N p0 (x1 ||| x2) ((1 : Int32) <<< (p1 &&& 31))  x3 g4) (cl_X4_180 cx.1.2.2.2.2 ⟨Nat.le_of_ble_eq_true rfl, Nat.le_of_ble_eq_true rfl⟩) Ct.nil hl.1 rfl rfl (Nat.le_of_ble_eq_true rfl) dX4_withWay_26 ⟨Nat.le_of_ble_eq_true rfl, Nat.le_of_ble_eq_true rfl⟩ (st1 := [.int x3]) rfl (fun H locs hw => ?_)
  exact r_i cx hr hlocks hw (sm_eq h) rfl dX4_withWay_29
set_option maxHeartbeats 4000000 in
set_option maxRecDepth 100000 in
theorem c_X4_exchange (l : Launch) (g : gE) (a : Nat) (na : Nat) (N : Nat) (p1 : Int32) (p2 : Int32) (f : (Nat → Int32)) (r : Int32) (f' : (Nat → Int32)) (h : f_X4_exchange N na p1 p2 f = some (r, f')) : MO l yX4_exchange (Cond.code yX4_exchange cX4_exchange 4 (some .int) :: TB) rm_X4_exchange [.ref a, .int p1, .int p2] g ((ACI g a na f)) ((ACI g a na f')) (some (.int r)) 0 0 := by
  refine MO.of (cc := cX4_exchange) (maxL := 4) (ret := (some .int)) (by decide) ?_
  intro p e s m below meth c cx hw hr hlocks _
  have hx := cx.1.1
  have hb := cx.1.2.1
  refine en_go (lv := [(0, .ref a), (1, .int p1), (2, .int p2)]) (Nat.le_of_ble_eq_true rfl) rfl (fun ls hl => ?_)
  unfold f_X4_exchange at h
  refine lv_iload_n hx hb dX4_exchange_0 rfl (lv_at hl 1 rfl) ?_
  refine lv_iconst (v := 0) hx hb dX4_exchange_1 (by decide) ?_
  refine lv_aload_n hx hb dX4_exchange_2 rfl (lv_at hl 0 rfl) ?_
  refine x_alen cx hw 0 0 rfl rfl rfl dX4_exchange_3 ?_
  refine lv_iconst (v := 1) hx hb dX4_exchange_4 (by decide) ?_
  refine lv_isub hx hb dX4_exchange_5 ?_
  obtain ⟨x1, g2, h⟩ := bd_ex h
  refine c_S (As := [.int p1, .int (0 : Int32), .int ((Int32.ofNat na) - (1 : Int32))]) (rest := []) (w' := (ACI g a na f)) cx hw (c_X4_isWithin l g  N p1 (0 : Int32) ((Int32.ofNat na) - (1 : Int32))  x1 g2) (cl_X4_40 cx.1.2.2.2.2 ⟨Nat.le_of_ble_eq_true rfl, Nat.le_of_ble_eq_true rfl⟩) Ct.nil hl.1 rfl rfl (Nat.le_of_ble_eq_true rfl) dX4_exchange_6 ⟨Nat.le_of_ble_eq_true rfl, Nat.le_of_ble_eq_true rfl⟩ (st1 := [.int x1]) rfl (fun H locs hw => ?_)
  refine lv_if_ne (tgt := 14) hx hb dX4_exchange_9 (by decide) (fun c3 => ?_) (fun c3 => ?_)
  · replace h := ite_f c3 h
    refine lv_aload_n hx hb dX4_exchange_14 rfl (lv_at hl 0 rfl) ?_
    refine lv_iload_n hx hb dX4_exchange_15 rfl (lv_at hl 1 rfl) ?_
    have ix4 := rd_in h
    refine x_iald cx hw 0 rfl ix4 dX4_exchange_16 ?_
    refine lv_topi (fun x4 ex4 => ?_)
    replace h := rd_nx ex4 h
    refine lv_istore_n (lv' := [(3, .int x4), (0, .ref a), (1, .int p1), (2, .int p2)]) hx hb dX4_exchange_17 rfl hl (by decide) rfl (fun ls hl => ?_)
    refine lv_aload_n hx hb dX4_exchange_18 rfl (lv_at hl 1 rfl) ?_
    refine lv_iload_n hx hb dX4_exchange_19 rfl (lv_at hl 2 rfl) ?_
    refine lv_iload_n hx hb dX4_exchange_20 rfl (lv_at hl 3 rfl) ?_
    have i5 := ck_in h
    replace h := ck_nx h
    refine x_iast cx hw 0 rfl i5 dX4_exchange_21 (fun H locs hw => ?_)
    obtain ⟨f6, ef6, h⟩ := lt_ex h
    have hw : Wd g (va_A ((ACI g a na f)) s.heap.size) ((ACI g a na f6)) s H locs := by rw [ef6]; exact hw
    refine lv_iload_n hx hb dX4_exchange_22 rfl (lv_at hl 0 rfl) ?_
    exact r_i cx hr hlocks hw (pr1 h) (congrArg (fun z0 => (ACI g a na z0)) (pr2 h)) dX4_exchange_23
  · replace h := ite_t c3 h
    refine lv_iconst (v := -1) hx hb dX4_exchange_12 (by decide) ?_
    exact r_i cx hr hlocks hw (pr1 h) (congrArg (fun z0 => (ACI g a na z0)) (pr2 h)) dX4_exchange_13
set_option maxHeartbeats 4000000 in
set_option maxRecDepth 100000 in
theorem c_X4_leastOf (l : Launch) (g : gE)  (N : Nat) (p0 : Int32)  (r : Int32) (h : f_X4_leastOf N  p0 = some r) : MO l yX4_leastOf (Cond.code yX4_leastOf cX4_leastOf 2 (some .int) :: TB) rm_X4_leastOf [.int p0] g (([] : va_W)) (([] : va_W)) (some (.int r)) 0 0 := by
  refine MO.of (cc := cX4_leastOf) (maxL := 2) (ret := (some .int)) (by decide) ?_
  intro p e s m below meth c cx hw hr hlocks _
  have hx := cx.1.1
  have hb := cx.1.2.1
  refine en_go (lv := [(0, .int p0)]) (Nat.le_of_ble_eq_true rfl) rfl (fun ls hl => ?_)
  have L2 : ∀ (n2 : Nat) (a0 : Int32) (a1 : Int32) (H : Heap) (locs : List Loc) (ls : Array Slot), Wd g (va_A (([] : va_W)) s.heap.size) (([] : va_W)) s H locs → lv_has ls 2 [(0, .int a0), (1, .int a1)] → f_X4_leastOf_L2 N   n2 a0 a1 = some r → W p l e rm_X4_leastOf s m ([.int p0] : List Value).toArray below meth c H locs 0 0 (MQ below (QO (some (.int r)) g (([] : va_W)) (va_A (([] : va_W)) s.heap.size)) ([.int p0] : List Value).toArray s 0 0 (va_A (([] : va_W)) s.heap.size)) (F0 m 2 ls []) := by
    intro n2
    induction n2 with
    | zero => intro a0 a1 H locs ls hw hl h; exact (Option.some_ne_none _ h.symm).elim
    | succ n2 ih2 =>
      intro a0 a1 H locs ls hw hl h
      rw [f_X4_leastOf_L2] at h
      refine lv_iload_n hx hb dX4_leastOf_2 rfl (lv_at hl 1 rfl) ?_
      refine lv_bipush (v := 9) hx hb dX4_leastOf_3 (by decide) ?_
      refine lv_icmp_ge (tgt := 24) hx hb dX4_leastOf_5 (by decide) (fun c4 => ?_) (fun c4 => ?_)
      · replace h := ite_t c4 h
        refine lv_iconst (v := -1) hx hb dX4_leastOf_24 (by decide) ?_
        exact r_i cx hr hlocks hw (sm_eq h) rfl dX4_leastOf_25
      · replace h := ite_f c4 h
        refine lv_iload_n hx hb dX4_leastOf_8 rfl (lv_at hl 0 rfl) ?_
        refine lv_iload_n hx hb dX4_leastOf_9 rfl (lv_at hl 1 rfl) ?_
        refine lv_ishr hx hb dX4_leastOf_10 ?_
        refine lv_iconst (v := 1) hx hb dX4_leastOf_11 (by decide) ?_
        refine lv_iand hx hb dX4_leastOf_12 ?_
        refine lv_if_eq (tgt := 18) hx hb dX4_leastOf_13 (by decide) (fun c5 => ?_) (fun c5 => ?_)
        · replace h := ite_t c5 h
          obtain ⟨x6, ex6⟩ : ∃ y : Int32, y = (a1 + 1) := ⟨_, rfl⟩
          replace h := lt_nx ex6 h
          refine lv_iinc (v := x6) (lv' := [(1, .int x6), (0, .int a0)]) hx hb dX4_leastOf_18 hl (k := 1) rfl (by rw [ex6]; rfl) (by decide) rfl (fun ls hl => ?_)
          refine lv_goto (tgt := 2) hx hb dX4_leastOf_21 (by decide) ?_
          exact ih2 a0 x6 _ _ _ hw (lv_sub hl [1, 0] rfl) h
        · replace h := ite_f c5 h
          refine lv_iload_n hx hb dX4_leastOf_16 rfl (lv_at hl 1 rfl) ?_
          exact r_i cx hr hlocks hw (sm_eq h) rfl dX4_leastOf_17
  unfold f_X4_leastOf at h
  refine lv_iconst (v := 0) hx hb dX4_leastOf_0 (by decide) ?_
  refine lv_istore_n (lv' := [(1, .int (0 : Int32)), (0, .int p0)]) hx hb dX4_leastOf_1 rfl hl (by decide) rfl (fun ls hl => ?_)
  exact L2 N p0 (0 : Int32) _ _ _ hw (lv_sub hl [1, 0] rfl) h
set_option maxHeartbeats 4000000 in
set_option maxRecDepth 100000 in
theorem c_X4_unlike (l : Launch) (g : gE)  (N : Nat) (p0 : Int32) (p1 : Int32)  (r : Int32) (h : f_X4_unlike N  p0 p1 = some r) : MO l yX4_unlike (Cond.code yX4_unlike cX4_unlike 3 (some .int) :: TB) rm_X4_unlike [.int p0, .int p1] g (([] : va_W)) (([] : va_W)) (some (.int r)) 0 0 := by
  refine MO.of (cc := cX4_unlike) (maxL := 3) (ret := (some .int)) (by decide) ?_
  intro p e s m below meth c cx hw hr hlocks _
  have hx := cx.1.1
  have hb := cx.1.2.1
  refine en_go (lv := [(0, .int p0), (1, .int p1)]) (Nat.le_of_ble_eq_true rfl) rfl (fun ls hl => ?_)
  unfold f_X4_unlike at h
  refine lv_iload_n hx hb dX4_unlike_0 rfl (lv_at hl 0 rfl) ?_
  refine lv_iload_n hx hb dX4_unlike_1 rfl (lv_at hl 1 rfl) ?_
  refine lv_ixor hx hb dX4_unlike_2 ?_
  refine lv_topi (fun x1 ex1 => ?_)
  replace h := lt_nx ex1 h
  refine lv_istore_n (lv' := [(2, .int x1), (0, .int p0), (1, .int p1)]) hx hb dX4_unlike_3 rfl hl (by decide) rfl (fun ls hl => ?_)
  refine lv_iload_n hx hb dX4_unlike_4 rfl (lv_at hl 0 rfl) ?_
  refine lv_iload_n hx hb dX4_unlike_5 rfl (lv_at hl 0 rfl) ?_
  refine lv_bipush (v := 9) hx hb dX4_unlike_6 (by decide) ?_
  refine lv_ishr hx hb dX4_unlike_8 ?_
  refine lv_ior hx hb dX4_unlike_9 ?_
  refine lv_sipush (v := 511) hx hb dX4_unlike_10 (by decide) ?_
  refine lv_iand hx hb dX4_unlike_13 ?_
  exact r_i cx hr hlocks hw (sm_eq h) rfl dX4_unlike_14
set_option maxHeartbeats 4000000 in
set_option maxRecDepth 100000 in
theorem c_X4_wayIn (l : Launch) (g : gE)  (N : Nat) (p0 : Int32) (p1 : Int32)  (r : Int32) (h : f_X4_wayIn N  p0 p1 = some r) : MO l yX4_wayIn (Cond.code yX4_wayIn cX4_wayIn 2 (some .int) :: TB) rm_X4_wayIn [.int p0, .int p1] g (([] : va_W)) (([] : va_W)) (some (.int r)) 0 0 := by
  refine MO.of (cc := cX4_wayIn) (maxL := 2) (ret := (some .int)) (by decide) ?_
  intro p e s m below meth c cx hw hr hlocks _
  have hx := cx.1.1
  have hb := cx.1.2.1
  refine en_go (lv := [(0, .int p0), (1, .int p1)]) (Nat.le_of_ble_eq_true rfl) rfl (fun ls hl => ?_)
  unfold f_X4_wayIn at h
  refine lv_iload_n hx hb dX4_wayIn_0 rfl (lv_at hl 0 rfl) ?_
  refine lv_iload_n hx hb dX4_wayIn_1 rfl (lv_at hl 1 rfl) ?_
  refine lv_ishr hx hb dX4_wayIn_2 ?_
  refine lv_iconst (v := 1) hx hb dX4_wayIn_3 (by decide) ?_
  refine lv_iand hx hb dX4_wayIn_4 ?_
  refine lv_iload_n hx hb dX4_wayIn_5 rfl (lv_at hl 0 rfl) ?_
  refine lv_iload_n hx hb dX4_wayIn_6 rfl (lv_at hl 1 rfl) ?_
  refine lv_bipush (v := 9) hx hb dX4_wayIn_7 (by decide) ?_
  refine lv_iadd hx hb dX4_wayIn_9 ?_
  refine lv_ishr hx hb dX4_wayIn_10 ?_
  refine lv_iconst (v := 1) hx hb dX4_wayIn_11 (by decide) ?_
  refine lv_iand hx hb dX4_wayIn_12 ?_
  refine lv_iconst (v := 1) hx hb dX4_wayIn_13 (by decide) ?_
  refine lv_ishl hx hb dX4_wayIn_14 ?_
  refine lv_ior hx hb dX4_wayIn_15 ?_
  exact r_i cx hr hlocks hw (sm_eq h) rfl dX4_wayIn_16
set_option maxHeartbeats 4000000 in
set_option maxRecDepth 100000 in
theorem c_X4_nextWay (l : Launch) (g : gE)  (N : Nat) (p0 : Int32)  (r : Int32) (h : f_X4_nextWay N  p0 = some r) : MO l yX4_nextWay (Cond.code yX4_nextWay cX4_nextWay 1 (some .int) :: TB) rm_X4_nextWay [.int p0] g (([] : va_W)) (([] : va_W)) (some (.int r)) 0 0 := by
  refine MO.of (cc := cX4_nextWay) (maxL := 1) (ret := (some .int)) (by decide) ?_
  intro p e s m below meth c cx hw hr hlocks _
  have hx := cx.1.1
  have hb := cx.1.2.1
  refine en_go (lv := [(0, .int p0)]) (Nat.le_of_ble_eq_true rfl) rfl (fun ls hl => ?_)
  unfold f_X4_nextWay at h
  refine lv_iload_n hx hb dX4_nextWay_0 rfl (lv_at hl 0 rfl) ?_
  refine lv_iconst (v := 1) hx hb dX4_nextWay_1 (by decide) ?_
  refine lv_iadd hx hb dX4_nextWay_2 ?_
  refine lv_iconst (v := 4) hx hb dX4_nextWay_3 (by decide) ?_
  refine lv_irem hx hb dX4_nextWay_4 (by decide) ?_
  exact r_i cx hr hlocks hw (sm_eq h) rfl dX4_nextWay_5
set_option maxHeartbeats 4000000 in
set_option maxRecDepth 100000 in
theorem c_X4_isKind (l : Launch) (g : gE)  (N : Nat) (p0 : Int32)  (r : Int32) (h : f_X4_isKind N  p0 = some r) : MO l yX4_isKind (Cond.code yX4_isKind cX4_isKind 1 (some .boolean) :: TB) rm_X4_isKind [.int p0] g (([] : va_W)) (([] : va_W)) (some (.int r)) 0 0 := by
  refine MO.of (cc := cX4_isKind) (maxL := 1) (ret := (some .boolean)) (by decide) ?_
  intro p e s m below meth c cx hw hr hlocks _
  have hx := cx.1.1
  have hb := cx.1.2.1
  refine en_go (lv := [(0, .int p0)]) (Nat.le_of_ble_eq_true rfl) rfl (fun ls hl => ?_)
  unfold f_X4_isKind at h
  refine lv_iload_n hx hb dX4_isKind_0 rfl (lv_at hl 0 rfl) ?_
  refine lv_iconst (v := 0) hx hb dX4_isKind_1 (by decide) ?_
  refine lv_iconst (v := 5) hx hb dX4_isKind_2 (by decide) ?_
  obtain ⟨x1, g2, h⟩ := bd_ex h
  refine c_S (As := [.int p0, .int (0 : Int32), .int (5 : Int32)]) (rest := []) (w' := ([] : va_W)) cx hw (c_X4_isWithin l g  N p0 (0 : Int32) (5 : Int32)  x1 g2) (cl_X4_40 cx.1.2.2.2.2 ⟨Nat.le_of_ble_eq_true rfl, Nat.le_of_ble_eq_true rfl⟩) Ct.nil hl.1 rfl rfl (Nat.le_of_ble_eq_true rfl) dX4_isKind_3 ⟨Nat.le_of_ble_eq_true rfl, Nat.le_of_ble_eq_true rfl⟩ (st1 := [.int x1]) rfl (fun H locs hw => ?_)
  have i3 := ckz_in h
  replace h := ckz_nx h
  exact r_z cx hr hlocks i3 hw (sm_eq h) rfl dX4_isKind_6
set_option maxHeartbeats 4000000 in
set_option maxRecDepth 100000 in
theorem c_J6_bitCount_0f7a4 (l : Launch) (g : gE)  (N : Nat) (p0 : Int32)  (r : Int32) (h : f_J6_bitCount_0f7a4 N  p0 = some r) : MO l yJ6_bitCount_0f7a4 (Cond.code yJ6_bitCount_0f7a4 cJ6_bitCount_0f7a4 1 (some .int) :: TB) rm_J6_bitCount_0f7a4 [.int p0] g (([] : va_W)) (([] : va_W)) (some (.int r)) 0 0 := by
  refine MO.of (cc := cJ6_bitCount_0f7a4) (maxL := 1) (ret := (some .int)) (by decide) ?_
  intro p e s m below meth c cx hw hr hlocks _
  have hx := cx.1.1
  have hb := cx.1.2.1
  refine en_go (lv := [(0, .int p0)]) (Nat.le_of_ble_eq_true rfl) rfl (fun ls hl => ?_)
  unfold f_J6_bitCount_0f7a4 at h
  refine lv_iload_n hx hb dJ6_bitCount_0f7a4_0 rfl (lv_at hl 0 rfl) ?_
  refine lv_iload_n hx hb dJ6_bitCount_0f7a4_1 rfl (lv_at hl 0 rfl) ?_
  refine lv_iconst (v := 1) hx hb dJ6_bitCount_0f7a4_2 (by decide) ?_
  refine lv_iushr hx hb dJ6_bitCount_0f7a4_3 rfl ?_
  refine lv_ldcw hx hb cx.1.2.2.2.1 (cx.1.2.2.2.2 _ tw_2_84) dJ6_bitCount_0f7a4_4 ?_
  refine lv_iand hx hb dJ6_bitCount_0f7a4_7 ?_
  refine lv_isub hx hb dJ6_bitCount_0f7a4_8 ?_
  refine lv_topi (fun x1 ex1 => ?_)
  replace h := lt_nx ex1 h
  refine lv_istore_n (lv' := [(0, .int x1)]) hx hb dJ6_bitCount_0f7a4_9 rfl hl (by decide) rfl (fun ls hl => ?_)
  refine lv_iload_n hx hb dJ6_bitCount_0f7a4_10 rfl (lv_at hl 0 rfl) ?_
  refine lv_ldcw hx hb cx.1.2.2.2.1 (cx.1.2.2.2.2 _ tw_2_85) dJ6_bitCount_0f7a4_11 ?_
  refine lv_iand hx hb dJ6_bitCount_0f7a4_14 ?_
  refine lv_iload_n hx hb dJ6_bitCount_0f7a4_15 rfl (lv_at hl 0 rfl) ?_
  refine lv_iconst (v := 2) hx hb dJ6_bitCount_0f7a4_16 (by decide) ?_
  refine lv_iushr hx hb dJ6_bitCount_0f7a4_17 rfl ?_
  refine lv_ldcw hx hb cx.1.2.2.2.1 (cx.1.2.2.2.2 _ tw_2_85) dJ6_bitCount_0f7a4_18 ?_
  refine lv_iand hx hb dJ6_bitCount_0f7a4_21 ?_
  refine lv_iadd hx hb dJ6_bitCount_0f7a4_22 ?_
  refine lv_topi (fun x2 ex2 => ?_)
  replace h := lt_nx ex2 h
  refine lv_istore_n (lv' := [(0, .int x2)]) hx hb dJ6_bitCount_0f7a4_23 rfl hl (by decide) rfl (fun ls hl => ?_)
  refine lv_iload_n hx hb dJ6_bitCount_0f7a4_24 rfl (lv_at hl 0 rfl) ?_
  refine lv_iload_n hx hb dJ6_bitCount_0f7a4_25 rfl (lv_at hl 0 rfl) ?_
  refine lv_iconst (v := 4) hx hb dJ6_bitCount_0f7a4_26 (by decide) ?_
  refine lv_iushr hx hb dJ6_bitCount_0f7a4_27 rfl ?_
  refine lv_iadd hx hb dJ6_bitCount_0f7a4_28 ?_
  refine lv_ldcw hx hb cx.1.2.2.2.1 (cx.1.2.2.2.2 _ tw_2_86) dJ6_bitCount_0f7a4_29 ?_
  refine lv_iand hx hb dJ6_bitCount_0f7a4_32 ?_
  refine lv_topi (fun x3 ex3 => ?_)
  replace h := lt_nx ex3 h
  refine lv_istore_n (lv' := [(0, .int x3)]) hx hb dJ6_bitCount_0f7a4_33 rfl hl (by decide) rfl (fun ls hl => ?_)
  refine lv_iload_n hx hb dJ6_bitCount_0f7a4_34 rfl (lv_at hl 0 rfl) ?_
  refine lv_iload_n hx hb dJ6_bitCount_0f7a4_35 rfl (lv_at hl 0 rfl) ?_
  refine lv_bipush (v := 8) hx hb dJ6_bitCount_0f7a4_36 (by decide) ?_
  refine lv_iushr hx hb dJ6_bitCount_0f7a4_38 rfl ?_
  refine lv_iadd hx hb dJ6_bitCount_0f7a4_39 ?_
  refine lv_topi (fun x4 ex4 => ?_)
  replace h := lt_nx ex4 h
  refine lv_istore_n (lv' := [(0, .int x4)]) hx hb dJ6_bitCount_0f7a4_40 rfl hl (by decide) rfl (fun ls hl => ?_)
  refine lv_iload_n hx hb dJ6_bitCount_0f7a4_41 rfl (lv_at hl 0 rfl) ?_
  refine lv_iload_n hx hb dJ6_bitCount_0f7a4_42 rfl (lv_at hl 0 rfl) ?_
  refine lv_bipush (v := 16) hx hb dJ6_bitCount_0f7a4_43 (by decide) ?_
  refine lv_iushr hx hb dJ6_bitCount_0f7a4_45 rfl ?_
  refine lv_iadd hx hb dJ6_bitCount_0f7a4_46 ?_
  refine lv_topi (fun x5 ex5 => ?_)
  replace h := lt_nx ex5 h
  refine lv_istore_n (lv' := [(0, .int x5)]) hx hb dJ6_bitCount_0f7a4_47 rfl hl (by decide) rfl (fun ls hl => ?_)
  refine lv_iload_n hx hb dJ6_bitCount_0f7a4_48 rfl (lv_at hl 0 rfl) ?_
  refine lv_bipush (v := 63) hx hb dJ6_bitCount_0f7a4_49 (by decide) ?_
  refine lv_iand hx hb dJ6_bitCount_0f7a4_51 ?_
  exact r_i cx hr hlocks hw (sm_eq h) rfl dJ6_bitCount_0f7a4_52
set_option maxHeartbeats 4000000 in
set_option maxRecDepth 100000 in
theorem c_J7_fill_53178 (l : Launch) (g : gE) (a : Nat) (na : Nat) (N : Nat) (p1 : Int32) (f : (Nat → Int32)) (f' : (Nat → Int32)) (h : f_J7_fill_53178 N na p1 f = some f') : MO l yJ7_fill_53178 (Cond.code yJ7_fill_53178 cJ7_fill_53178 4 none :: TB) rm_J7_fill_53178 [.ref a, .int p1] g ((ACI g a na f)) ((ACI g a na f')) none 0 0 := by
  refine MO.of (cc := cJ7_fill_53178) (maxL := 4) (ret := none) (by decide) ?_
  intro p e s m below meth c cx hw hr hlocks _
  have hx := cx.1.1
  have hb := cx.1.2.1
  refine en_go (lv := [(0, .ref a), (1, .int p1)]) (Nat.le_of_ble_eq_true rfl) rfl (fun ls hl => ?_)
  have L5 : ∀ (n5 : Nat) (a1 : Int32) (a2 : Int32) (a3 : Int32) (f_ : (Nat → Int32)) (H : Heap) (locs : List Loc) (ls : Array Slot), Wd g (va_A ((ACI g a na f)) s.heap.size) ((ACI g a na f_)) s H locs → lv_has ls 4 [(0, .ref a), (1, .int a1), (2, .int a2), (3, .int a3)] → f_J7_fill_53178_L5 N na  n5 a1 a2 a3 f_ = some f' → W p l e rm_J7_fill_53178 s m ([.ref a, .int p1] : List Value).toArray below meth c H locs 0 0 (MQ below (QO none g ((ACI g a na f')) (va_A ((ACI g a na f)) s.heap.size)) ([.ref a, .int p1] : List Value).toArray s 0 0 (va_A ((ACI g a na f)) s.heap.size)) (F0 m 5 ls []) := by
    intro n5
    induction n5 with
    | zero => intro a1 a2 a3 f_ H locs ls hw hl h; exact (Option.some_ne_none _ h.symm).elim
    | succ n5 ih5 =>
      intro a1 a2 a3 f_ H locs ls hw hl h
      rw [f_J7_fill_53178_L5] at h
      refine lv_iload_n hx hb dJ7_fill_53178_5 rfl (lv_at hl 2 rfl) ?_
      refine lv_iload_n hx hb dJ7_fill_53178_6 rfl (lv_at hl 3 rfl) ?_
      refine lv_icmp_ge (tgt := 20) hx hb dJ7_fill_53178_7 (by decide) (fun c6 => ?_) (fun c6 => ?_)
      · replace h := ite_t c6 h
        exact r_v cx hr hlocks hw (congrArg (fun z0 => (ACI g a na z0)) (sm_eq h)) dJ7_fill_53178_20
      · replace h := ite_f c6 h
        refine lv_aload_n hx hb dJ7_fill_53178_10 rfl (lv_at hl 0 rfl) ?_
        refine lv_iload_n hx hb dJ7_fill_53178_11 rfl (lv_at hl 2 rfl) ?_
        refine lv_iload_n hx hb dJ7_fill_53178_12 rfl (lv_at hl 1 rfl) ?_
        have i7 := ck_in h
        replace h := ck_nx h
        refine x_iast cx hw 0 rfl i7 dJ7_fill_53178_13 (fun H locs hw => ?_)
        obtain ⟨f8, ef8, h⟩ := lt_ex h
        have hw : Wd g (va_A ((ACI g a na f)) s.heap.size) ((ACI g a na f8)) s H locs := by rw [ef8]; exact hw
        obtain ⟨x9, ex9⟩ : ∃ y : Int32, y = (a2 + 1) := ⟨_, rfl⟩
        replace h := lt_nx ex9 h
        refine lv_iinc (v := x9) (lv' := [(2, .int x9), (0, .ref a), (1, .int a1), (3, .int a3)]) hx hb dJ7_fill_53178_14 hl (k := 2) rfl (by rw [ex9]; rfl) (by decide) rfl (fun ls hl => ?_)
        refine lv_goto (tgt := 5) hx hb dJ7_fill_53178_17 (by decide) ?_
        exact ih5 a1 x9 a3 f8 _ _ _ hw (lv_sub hl [1, 2, 0, 3] rfl) h
  unfold f_J7_fill_53178 at h
  refine lv_iconst (v := 0) hx hb dJ7_fill_53178_0 (by decide) ?_
  refine lv_istore_n (lv' := [(2, .int (0 : Int32)), (0, .ref a), (1, .int p1)]) hx hb dJ7_fill_53178_1 rfl hl (by decide) rfl (fun ls hl => ?_)
  refine lv_aload_n hx hb dJ7_fill_53178_2 rfl (lv_at hl 1 rfl) ?_
  refine x_alen cx hw 0 0 rfl rfl rfl dJ7_fill_53178_3 ?_
  refine lv_topi (fun x1 ex1 => ?_)
  replace h := lt_nx ex1 h
  refine lv_istore_n (lv' := [(3, .int x1), (2, .int (0 : Int32)), (0, .ref a), (1, .int p1)]) hx hb dJ7_fill_53178_4 rfl hl (by decide) rfl (fun ls hl => ?_)
  exact L5 N p1 (0 : Int32) x1 f _ _ _ hw (lv_sub hl [2, 3, 1, 0] rfl) h
