def f_X2_nameOf (N : Nat)  (p0 : Int32)  : Option (Nat) :=
  if p0 = 1 then
    some 9
  else
    if p0 = 2 then
      some 10
    else
      if p0 = 3 then
        some 11
      else
        if p0 = 4 then
          some 12
        else
          if p0 = 5 then
            some 13
          else
            some 14
def f_X2_isWord_L28 (N : Nat) (w1 : Nat) (d : RD)  : Nat → Int32 → Option (Int32)
  | 0, _ => none
  | n28 + 1, a2 =>
  (f_J0_length_8abf5 N w1).bind fun x5 =>
  if x5 ≤ a2 then
    some (1 : Int32)
  else
    (f_X1_byteAt N ((r_start d) + a2) (r_tape d)).bind fun x8 =>
    (f_J0_charAt_5068e N w1 a2).bind fun x10 =>
    if x8 = x10 then
      lt (a2 + 1) fun x13 =>
      f_X2_isWord_L28 N w1 d  n28 x13
    else
      some (0 : Int32)
def f_X2_isWord (N : Nat)  (w1 : Nat) (d : RD) : Option (Int32) :=
  if (r_token d) = (1 : Int32) then
    (f_J0_length_8abf5 N w1).bind fun x2 =>
    if ((r_end d) - (r_start d)) = x2 then
      f_X2_isWord_L28 N w1 d  N (0 : Int32)
    else
      some (0 : Int32)
  else
    some (0 : Int32)
def f_X2_takesWord (N : Nat)  (w1 : Nat) (d : RD) : Option (Int32 × RD) :=
  if (r_isFaulty d) = 0 then
    (f_X2_isWord N w1 d).bind fun x2 =>
    if x2 = 0 then
      some ((0 : Int32), d)
    else
      (f_X2_nextToken N d).bind fun d5 =>
      some ((1 : Int32), d5)
  else
    some ((0 : Int32), d)
def f_X2_kindHere_L2 (N : Nat) (d : RD)  : Nat → Int32 → Option (Int32)
  | 0, _ => none
  | n2 + 1, a1 =>
  if (5 : Int32) < a1 then
    some (-1 : Int32)
  else
    (f_X2_nameOf N a1).bind fun x2 =>
    (ckw x2).bind fun _ =>
    (f_X2_isWord N x2 d).bind fun x5 =>
    if x5 = 0 then
      lt (a1 + 1) fun x8 =>
      f_X2_kindHere_L2 N d  n2 x8
    else
      some a1
def f_X2_kindHere (N : Nat)   (d : RD) : Option (Int32) :=
  f_X2_kindHere_L2 N d  N (0 : Int32)
def f_X2_readMark_J43 (N : Nat)   (a2 : Int32) (d_ : RD) (o_ : VD) : Option (RD × VD) :=
  bd2 (f_X2_takesWord N 8 d_) fun x17 d18 =>
  if x17 = 0 then
    some (d18, o_)
  else
    bd2 (f_X2_takeNumber N (0 : Int32) (99 : Int32) d18) fun x21 d22 =>
    bd2 (f_X4_exchange N 9 a2 x21 (v_costs o_)) fun x24 f25 =>
    lt (v_set_costs o_ f25) fun o27 =>
    some (d22, o27)
def f_X2_readMark (N : Nat)   (d : RD) (o : VD) : Option (RD × VD) :=
  (f_X2_nextToken N d).bind fun d1 =>
  bd2 (f_X2_takeNumber N (0 : Int32) (8 : Int32) d1) fun x3 d4 =>
  bd2 (f_X2_takesWord N 7 d4) fun x6 d7 =>
  if x6 = 0 then
    f_X2_readMark_J43 N   x3 d7 o
  else
    bd2 (f_X2_takeNumber N (0 : Int32) (9 : Int32) d7) fun x10 d11 =>
    if (r_isFaulty d11) = 0 then
      bd2 (f_X3_putWeight N x3 x10 o) fun x14 d15 =>
      f_X2_readMark_J43 N   x3 d11 d15
    else
      f_X2_readMark_J43 N   x3 d11 o
def f_X2_readPerson_J129 (N : Nat)   (a3 : Int32) (d_ : RD) (o_ : VD) : Option (RD × VD) :=
  bd2 (f_X2_takesWord N 6 d_) fun x47 d48 =>
  if x47 = 0 then
    some (d48, o_)
  else
    bd2 (f_X2_takeNumber N (0 : Int32) (a3 - (1 : Int32)) d48) fun x51 d52 =>
    (ck a3 13).bind fun _ =>
    lt (v_set_children o_ (upd (v_children o_) (a3).toNatClampNeg x51)) fun o55 =>
    some (d52, o55)
def f_X2_readPerson_J107 (N : Nat)   (a3 : Int32) (d_ : RD) (o_ : VD) : Option (RD × VD) :=
  bd2 (f_X2_takesWord N 5 d_) fun x38 d39 =>
  if x38 = 0 then
    f_X2_readPerson_J129 N   a3 d39 o_
  else
    bd2 (f_X2_takeNumber N (1 : Int32) (120 : Int32) d39) fun x42 d43 =>
    (ck a3 12).bind fun _ =>
    lt (v_set_terms o_ (upd (v_terms o_) (a3).toNatClampNeg x42)) fun o46 =>
    f_X2_readPerson_J129 N   a3 d43 o46
def f_X2_readPerson_J85 (N : Nat)   (a3 : Int32) (d_ : RD) (o_ : VD) : Option (RD × VD) :=
  bd2 (f_X2_takesWord N 4 d_) fun x29 d30 =>
  if x29 = 0 then
    f_X2_readPerson_J107 N   a3 d30 o_
  else
    bd2 (f_X2_takeNumber N (0 : Int32) (999999 : Int32) d30) fun x33 d34 =>
    (ck a3 12).bind fun _ =>
    lt (v_set_goods o_ (upd (v_goods o_) (a3).toNatClampNeg x33)) fun o37 =>
    f_X2_readPerson_J107 N   a3 d34 o37
def f_X2_readPerson_J63 (N : Nat)   (a3 : Int32) (d_ : RD) (o_ : VD) : Option (RD × VD) :=
  bd2 (f_X2_takesWord N 3 d_) fun x20 d21 =>
  if x20 = 0 then
    f_X2_readPerson_J85 N   a3 d21 o_
  else
    bd2 (f_X2_takeNumber N (0 : Int32) (120 : Int32) d21) fun x24 d25 =>
    (ck a3 12).bind fun _ =>
    lt (v_set_ages o_ (upd (v_ages o_) (a3).toNatClampNeg x24)) fun o28 =>
    f_X2_readPerson_J85 N   a3 d25 o28
def f_X2_readPerson_J59 (N : Nat)   (a3 : Int32) (t1 : Int32) (t2 : Int32) (d_ : RD) (o_ : VD) : Option (RD × VD) :=
  bd2 (f_X2_takeNumber N t1 t2 d_) fun x17 d18 =>
  f_X2_readPerson_J63 N   a3 d18 o_
def f_X2_readPerson (N : Nat)  (p2 : Int32) (d : RD) (o : VD) : Option (RD × VD) :=
  bd2 (f_X3_addOne N p2 (0 : Int32) o) fun x1 d2 =>
  if x1 = (-1 : Int32) then
    lt (r_set_isFaulty d (1 : Int32)) fun d16 =>
    some (d16, d2)
  else
    (f_X2_nextToken N d).bind fun d5 =>
    bd2 (f_X2_takesWord N 2 d5) fun x7 d8 =>
    if x7 = 0 then
      f_X2_readPerson_J63 N   x1 d8 d2
    else
      (f_X2_lookHere N d8).bind fun x11 =>
      (ck x1 13).bind fun _ =>
      lt (v_set_looks d2 (upd (v_looks d2) (x1).toNatClampNeg x11)) fun o14 =>
      if x11 = (-1 : Int32) then
        f_X2_readPerson_J59 N   x1 (0 : Int32) (-1 : Int32) d8 o14
      else
        f_X2_readPerson_J59 N   x1 (0 : Int32) (999999999 : Int32) d8 o14
def f_X2_readItem (N : Nat)   (d : RD) (o : VD) : Option (RD × VD) :=
  (f_X2_kindHere N d).bind fun x1 =>
  if x1 = (-1 : Int32) then
    (f_X2_isWord N 0 d).bind fun x4 =>
    if x4 = 0 then
      (f_X2_isWord N 1 d).bind fun x7 =>
      if x7 = 0 then
        lt (r_set_isFaulty d (1 : Int32)) fun d10 =>
        some (d10, o)
      else
        (f_X2_nextToken N d).bind fun d11 =>
        bd2 (f_X2_takeNumber N (0 : Int32) (2 : Int32) d11) fun x13 d14 =>
        if (r_isFaulty d14) = 0 then
          lt (v_set_law o x13) fun o17 =>
          some (d14, o17)
        else
          some (d14, o)
    else
      bd2 (f_X2_readMark N d o) fun d18 o19 =>
      some (d18, o19)
  else
    bd2 (f_X2_readPerson N x1 d o) fun d21 o22 =>
    some (d21, o22)
def f_X2_readItems_J43 (N : Nat)  (K16 : Int32 → RD → VD → Option (Int32 × RD × VD)) (a2 : Int32) (d_ : RD) (o_ : VD) : Option (Int32 × RD × VD) :=
  if (r_isFaulty d_) = 0 then
    if (r_token d_) = (3 : Int32) then
      (f_X2_nextToken N d_).bind fun d13 =>
      lt (a2 + 1) fun x15 =>
      K16 x15 d13 o_
    else
      some (((-1 : Int32) - (r_start d_)), d_, o_)
  else
    some (((-1 : Int32) - (r_start d_)), d_, o_)
def f_X2_readItems_L16 (N : Nat)   : Nat → Int32 → RD → VD → Option (Int32 × RD × VD)
  | 0, _, _, _ => none
  | n16 + 1, a2, d_, o_ =>
  if (120 : Int32) < a2 then
    some (((-1 : Int32) - (r_start d_)), d_, o_)
  else
    bd2 (f_X2_readItem N d_ o_) fun d6 o7 =>
    if (r_isFaulty d6) = 0 then
      if (r_token d6) = 0 then
        some (a2, d6, o7)
      else
        f_X2_readItems_J43 N  (f_X2_readItems_L16 N   n16) a2 d6 o7
    else
      f_X2_readItems_J43 N  (f_X2_readItems_L16 N   n16) a2 d6 o7
def f_X2_readItems (N : Nat)   (d : RD) (o : VD) : Option (Int32 × RD × VD) :=
  lt (r_set_end d (0 : Int32)) fun d1 =>
  lt (r_set_isFaulty d1 (0 : Int32)) fun d2 =>
  (f_X2_nextToken N d2).bind fun d3 =>
  f_X2_readItems_L16 N   N (1 : Int32) d3 o
def f_X4_valley (N : Nat)   (d : XD) : Option (Int32 × XD) :=
  (f_X3_takeFrom N (x_trial d) (x_valley d)).bind fun d1 =>
  lt (x_set_trial d d1) fun d3 =>
  bd3 (f_X2_readItems N (x_reader d3) (x_trial d3)) fun x4 d5 o6 =>
  lt (x_set_trial (x_set_reader d3 d5) o6) fun d8 =>
  if x4 ≤ 0 then
    bd2 (f_X1_clear N (r_tape (x_reader d8))) fun x10 d11 =>
    lt (x_set_reader d8 (r_set_tape (x_reader d8) d11)) fun d13 =>
    some (x4, d13)
  else
    (f_X3_takeFrom N (x_valley d8) (x_trial d8)).bind fun d14 =>
    lt (x_set_valley d8 d14) fun d16 =>
    bd2 (f_X1_clear N (r_tape (x_reader d16))) fun x17 d18 =>
    lt (x_set_reader d16 (r_set_tape (x_reader d16) d18)) fun d20 =>
    some (x4, d20)
theorem ct_R_V__0_1_2__R_0 (g : gE) (q : Nat → Nat) (q2 : Nat → Nat) (d : RD) (o : VD) (u0 : RD) : Ct ((RC g q d) ++ (VC g q2 o)) ((RC g q d)) ((RC g q u0) ++ (VC g q2 o)) ((RC g q u0)) := ⟨[0, 1, 2], [3, 4, 5, 6, 7, 8, 9, 10, 11, 12, 13, 14, 15], rfl, rfl, rfl, by decide, fun k hk => ct_cov (n := 16) (by decide) k hk, by decide⟩
theorem ct_R_V__3_4_5_6_7_8_9_10_11_12_13_14_15__V_0 (g : gE) (q : Nat → Nat) (q2 : Nat → Nat) (d : RD) (o : VD) (u0 : VD) : Ct ((RC g q d) ++ (VC g q2 o)) ((VC g q2 o)) ((RC g q d) ++ (VC g q2 u0)) ((VC g q2 u0)) := ⟨[3, 4, 5, 6, 7, 8, 9, 10, 11, 12, 13, 14, 15], [0, 1, 2], rfl, rfl, rfl, by decide, fun k hk => ct_cov (n := 16) (by decide) k hk, by decide⟩
theorem ct_R_V__5__A_0 (g : gE) (q : Nat → Nat) (q2 : Nat → Nat) (d : RD) (o : VD) (u0 : (Nat → Int32)) : Ct ((RC g q d) ++ (VC g q2 o)) ((ACI g (q2 2) 9 (v_costs o))) ((RC g q d) ++ (VC g q2 (v_set_costs o u0))) ((ACI g (q2 2) 9 u0)) := ⟨[5], [0, 1, 2, 3, 4, 6, 7, 8, 9, 10, 11, 12, 13, 14, 15], rfl, rfl, rfl, by decide, fun k hk => ct_cov (n := 16) (by decide) k hk, by decide⟩
theorem ct_R_V__0_1_2__R (g : gE) (q : Nat → Nat) (q2 : Nat → Nat) (d : RD) (o : VD)  : Ct ((RC g q d) ++ (VC g q2 o)) ((RC g q d)) ((RC g q d) ++ (VC g q2 o)) ((RC g q d)) := ⟨[0, 1, 2], [3, 4, 5, 6, 7, 8, 9, 10, 11, 12, 13, 14, 15], rfl, rfl, rfl, by decide, fun k hk => ct_cov (n := 16) (by decide) k hk, by decide⟩
theorem ct_X__40_41_42_27_28_29_30_31_32_33_34_35_36_37_38_39__R_V_01 (g : gE) (q : Nat → Nat) (d : XD) (u0 : RD) (u1 : VD) : Ct ((XC g q d)) ((RC g (qs 40 q) (x_reader d)) ++ (VC g (qs 27 q) (x_trial d))) ((XC g q (x_set_trial (x_set_reader d u0) u1))) ((RC g (qs 40 q) u0) ++ (VC g (qs 27 q) u1)) := (Ct.swap (Ct.skip _ (Ct.skip _ (Ct.skip _ (Ct.app (Ct.all (VC_ll ..)) (Ct.inl _ (Ct.all (RC_ll ..)) (RC_ll ..)) (VC_ll ..))))) (VC_ll ..))
theorem ct_X__1_2_3_4_5_6_7_8_9_10_11_12_13_27_28_29_30_31_32_33_34_35_36_37_38_39__V_V_0 (g : gE) (q : Nat → Nat) (d : XD) (u0 : VD) : Ct ((XC g q d)) ((VC g (qs 1 q) (x_valley d)) ++ (VC g (qs 27 q) (x_trial d))) ((XC g q (x_set_valley d u0))) ((VC g (qs 1 q) u0) ++ (VC g (qs 27 q) (x_trial d))) := (Ct.skip _ (Ct.app (Ct.all (VC_ll ..)) (Ct.skip _ (Ct.inl _ (Ct.all (VC_ll ..)) (VC_ll ..))) (VC_ll ..)))
set_option maxHeartbeats 4000000 in
set_option maxRecDepth 100000 in
theorem c_X2_nameOf (l : Launch) (g : gE)  (N : Nat) (p0 : Int32)  (r : Nat) (h : f_X2_nameOf N  p0 = some r) : MO l yX2_nameOf (Cond.code yX2_nameOf cX2_nameOf 1 (some (.object "java/lang/String")) :: TB) rm_X2_nameOf [.int p0] g (([] : va_W)) (([] : va_W)) (some (.ref (gK g r))) 0 0 := by
  refine MO.of (cc := cX2_nameOf) (maxL := 1) (ret := (some (.object "java/lang/String"))) (by decide) ?_
  intro p e s m below meth c cx hw hr hlocks _
  have hx := cx.1.1
  have hb := cx.1.2.1
  refine en_go (lv := [(0, .int p0)]) (Nat.le_of_ble_eq_true rfl) rfl (fun ls hl => ?_)
  unfold f_X2_nameOf at h
  refine lv_iload_n hx hb dX2_nameOf_0 rfl (lv_at hl 0 rfl) ?_
  by_cases c1 : p0 = 1
  · replace h := ite_t c1 h
    refine lv_tableIn (tgt := 36) hx hb dX2_nameOf_1 (by rw [c1]; decide) (by rw [c1]; decide) (by rw [c1]; rfl) (by decide) ?_
    refine va_ldcS hx hb cx.1.2.2.2.1 (cx.2.2.2.2.1 9 (by decide)) dX2_nameOf_36 ?_
    exact r_a cx hr (Or.inl ⟨_, rfl⟩) (Or.inr ⟨_, rfl⟩) hlocks hw (congrArg (fun z => Value.ref (gK g z)) (sm_eq h)) rfl dX2_nameOf_38
  · replace h := ite_f c1 h
    by_cases c2 : p0 = 2
    · replace h := ite_t c2 h
      refine lv_tableIn (tgt := 39) hx hb dX2_nameOf_1 (by rw [c2]; decide) (by rw [c2]; decide) (by rw [c2]; rfl) (by decide) ?_
      refine va_ldcS hx hb cx.1.2.2.2.1 (cx.2.2.2.2.1 10 (by decide)) dX2_nameOf_39 ?_
      exact r_a cx hr (Or.inl ⟨_, rfl⟩) (Or.inr ⟨_, rfl⟩) hlocks hw (congrArg (fun z => Value.ref (gK g z)) (sm_eq h)) rfl dX2_nameOf_41
    · replace h := ite_f c2 h
      by_cases c3 : p0 = 3
      · replace h := ite_t c3 h
        refine lv_tableIn (tgt := 42) hx hb dX2_nameOf_1 (by rw [c3]; decide) (by rw [c3]; decide) (by rw [c3]; rfl) (by decide) ?_
        refine va_ldcS hx hb cx.1.2.2.2.1 (cx.2.2.2.2.1 11 (by decide)) dX2_nameOf_42 ?_
        exact r_a cx hr (Or.inl ⟨_, rfl⟩) (Or.inr ⟨_, rfl⟩) hlocks hw (congrArg (fun z => Value.ref (gK g z)) (sm_eq h)) rfl dX2_nameOf_44
      · replace h := ite_f c3 h
        by_cases c4 : p0 = 4
        · replace h := ite_t c4 h
          refine lv_tableIn (tgt := 45) hx hb dX2_nameOf_1 (by rw [c4]; decide) (by rw [c4]; decide) (by rw [c4]; rfl) (by decide) ?_
          refine va_ldcS hx hb cx.1.2.2.2.1 (cx.2.2.2.2.1 12 (by decide)) dX2_nameOf_45 ?_
          exact r_a cx hr (Or.inl ⟨_, rfl⟩) (Or.inr ⟨_, rfl⟩) hlocks hw (congrArg (fun z => Value.ref (gK g z)) (sm_eq h)) rfl dX2_nameOf_47
        · replace h := ite_f c4 h
          by_cases c5 : p0 = 5
          · replace h := ite_t c5 h
            refine lv_tableIn (tgt := 48) hx hb dX2_nameOf_1 (by rw [c5]; decide) (by rw [c5]; decide) (by rw [c5]; rfl) (by decide) ?_
            refine va_ldcS hx hb cx.1.2.2.2.1 (cx.2.2.2.2.1 13 (by decide)) dX2_nameOf_48 ?_
            exact r_a cx hr (Or.inl ⟨_, rfl⟩) (Or.inr ⟨_, rfl⟩) hlocks hw (congrArg (fun z => Value.ref (gK g z)) (sm_eq h)) rfl dX2_nameOf_50
          · replace h := ite_f c5 h
            have tc1 : (p0).toInt ≠ 1 := fun e => c1 (Int32.toInt_inj.mp (e.trans (by decide)))
            have tc2 : (p0).toInt ≠ 2 := fun e => c2 (Int32.toInt_inj.mp (e.trans (by decide)))
            have tc3 : (p0).toInt ≠ 3 := fun e => c3 (Int32.toInt_inj.mp (e.trans (by decide)))
            have tc4 : (p0).toInt ≠ 4 := fun e => c4 (Int32.toInt_inj.mp (e.trans (by decide)))
            have tc5 : (p0).toInt ≠ 5 := fun e => c5 (Int32.toInt_inj.mp (e.trans (by decide)))
            refine lv_tableOut (tgt := 51) hx hb dX2_nameOf_1 (by omega) (by decide) ?_
            refine va_ldcS hx hb cx.1.2.2.2.1 (cx.2.2.2.2.1 14 (by decide)) dX2_nameOf_51 ?_
            exact r_a cx hr (Or.inl ⟨_, rfl⟩) (Or.inr ⟨_, rfl⟩) hlocks hw (congrArg (fun z => Value.ref (gK g z)) (sm_eq h)) rfl dX2_nameOf_53
set_option maxHeartbeats 4000000 in
set_option maxRecDepth 100000 in
theorem c_X2_isWord (l : Launch) (g : gE) (q : Nat → Nat) (N : Nat) (w1 : Nat) (hw1 : w1 < 15) (d : RD) (r : Int32) (h : f_X2_isWord N  w1 d = some r) : MO l yX2_isWord (Cond.code yX2_isWord cX2_isWord 3 (some .boolean) :: TB) rm_X2_isWord [.ref (q 0), .ref (gK g w1)] g ((RC g q d)) ((RC g q d)) (some (.int r)) 0 0 := by
  refine MO.of (cc := cX2_isWord) (maxL := 3) (ret := (some .boolean)) (by decide) ?_
  intro p e s m below meth c cx hw hr hlocks _
  have hx := cx.1.1
  have hb := cx.1.2.1
  refine en_go (lv := [(0, .ref (q 0)), (1, .ref (gK g w1))]) (Nat.le_of_ble_eq_true rfl) rfl (fun ls hl => ?_)
  have L28 : ∀ (n28 : Nat) (a2 : Int32) (H : Heap) (locs : List Loc) (ls : Array Slot), Wd g (va_A ((RC g q d)) s.heap.size) ((RC g q d)) s H locs → lv_has ls 3 [(0, .ref (q 0)), (1, .ref (gK g w1)), (2, .int a2)] → f_X2_isWord_L28 N w1 d  n28 a2 = some r → W p l e rm_X2_isWord s m ([.ref (q 0), .ref (gK g w1)] : List Value).toArray below meth c H locs 0 0 (MQ below (QO (some (.int r)) g ((RC g q d)) (va_A ((RC g q d)) s.heap.size)) ([.ref (q 0), .ref (gK g w1)] : List Value).toArray s 0 0 (va_A ((RC g q d)) s.heap.size)) (F0 m 28 ls []) := by
    intro n28
    induction n28 with
    | zero => intro a2 H locs ls hw hl h; exact (Option.some_ne_none _ h.symm).elim
    | succ n28 ih28 =>
      intro a2 H locs ls hw hl h
      rw [f_X2_isWord_L28] at h
      refine lv_iload_n hx hb dX2_isWord_28 rfl (lv_at hl 2 rfl) ?_
      refine lv_aload_n hx hb dX2_isWord_29 rfl (lv_at hl 1 rfl) ?_
      obtain ⟨x14, g15, h⟩ := bd_ex h
      refine c_V (As := []) (rest := [.int a2]) (w' := (RC g q d)) cx hw (c_J0_length_8abf5 l g  N w1 hw1  x14 g15) (cl_X2_146 cx.1.2.2.2.2 ⟨Nat.le_of_ble_eq_true rfl, Nat.le_of_ble_eq_true rfl⟩) (vk_recv cx.2.2.2.2.2.1 hw1 hw.2.2) Ct.nil hl.1 rfl rfl (Nat.le_of_ble_eq_true rfl) dX2_isWord_30 ⟨Nat.le_of_ble_eq_true rfl, Nat.le_of_ble_eq_true rfl⟩ (st1 := [.int x14, .int a2]) rfl (fun H locs hw => ?_)
      refine lv_icmp_ge (tgt := 65) hx hb dX2_isWord_33 (by decide) (fun c16 => ?_) (fun c16 => ?_)
      · replace h := ite_t c16 h
        refine lv_iconst (v := 1) hx hb dX2_isWord_65 (by decide) ?_
        exact r_z cx hr hlocks rfl hw (sm_eq h) rfl dX2_isWord_66
      · replace h := ite_f c16 h
        refine lv_aload_n hx hb dX2_isWord_36 rfl (lv_at hl 0 rfl) ?_
        refine gf_X2_12 cx hw 0 rfl rfl dX2_isWord_37 ?_
        refine lv_aload_n hx hb dX2_isWord_40 rfl (lv_at hl 0 rfl) ?_
        refine gf_X2_36 cx hw 0 rfl rfl dX2_isWord_41 ?_
        refine lv_iload_n hx hb dX2_isWord_44 rfl (lv_at hl 2 rfl) ?_
        refine lv_iadd hx hb dX2_isWord_45 ?_
        obtain ⟨x17, g18, h⟩ := bd_ex h
        refine c_V (As := [.int ((r_start d) + a2)]) (rest := []) (w' := (RC g q d)) cx hw (c_X1_byteAt l g (qs 1 q) N ((r_start d) + a2) (r_tape d) x17 g18) (cl_X2_122 cx.1.2.2.2.2 ⟨Nat.le_of_ble_eq_true rfl, Nat.le_of_ble_eq_true rfl⟩) (x_recv cx hw (ci := 1) rfl 1 rfl) (ct_R__1_2__T g q d ) hl.1 rfl rfl (Nat.le_of_ble_eq_true rfl) dX2_isWord_46 ⟨Nat.le_of_ble_eq_true rfl, Nat.le_of_ble_eq_true rfl⟩ (st1 := [.int x17]) rfl (fun H locs hw => ?_)
        refine lv_aload_n hx hb dX2_isWord_49 rfl (lv_at hl 1 rfl) ?_
        refine lv_iload_n hx hb dX2_isWord_50 rfl (lv_at hl 2 rfl) ?_
        obtain ⟨x19, g20, h⟩ := bd_ex h
        refine c_V (As := [.int a2]) (rest := [.int x17]) (w' := (RC g q d)) cx hw (c_J0_charAt_5068e l g  N w1 hw1 a2  x19 g20) (cl_X2_151 cx.1.2.2.2.2 ⟨Nat.le_of_ble_eq_true rfl, Nat.le_of_ble_eq_true rfl⟩) (vk_recv cx.2.2.2.2.2.1 hw1 hw.2.2) Ct.nil hl.1 rfl rfl (Nat.le_of_ble_eq_true rfl) dX2_isWord_51 ⟨Nat.le_of_ble_eq_true rfl, Nat.le_of_ble_eq_true rfl⟩ (st1 := [.int x19, .int x17]) rfl (fun H locs hw => ?_)
        refine lv_icmp_eq (tgt := 59) hx hb dX2_isWord_54 (by decide) (fun c21 => ?_) (fun c21 => ?_)
        · replace h := ite_t c21 h
          obtain ⟨x22, ex22⟩ : ∃ y : Int32, y = (a2 + 1) := ⟨_, rfl⟩
          replace h := lt_nx ex22 h
          refine lv_iinc (v := x22) (lv' := [(2, .int x22), (0, .ref (q 0)), (1, .ref (gK g w1))]) hx hb dX2_isWord_59 hl (k := 2) rfl (by rw [ex22]; rfl) (by decide) rfl (fun ls hl => ?_)
          refine lv_goto (tgt := 28) hx hb dX2_isWord_62 (by decide) ?_
          exact ih28 x22 _ _ _ hw (lv_sub hl [1, 2, 0] rfl) h
        · replace h := ite_f c21 h
          refine lv_iconst (v := 0) hx hb dX2_isWord_57 (by decide) ?_
          exact r_z cx hr hlocks rfl hw (sm_eq h) rfl dX2_isWord_58
  unfold f_X2_isWord at h
  refine lv_aload_n hx hb dX2_isWord_0 rfl (lv_at hl 0 rfl) ?_
  refine gf_X2_33 cx hw 0 rfl rfl dX2_isWord_1 ?_
  refine lv_iconst (v := 1) hx hb dX2_isWord_4 (by decide) ?_
  refine lv_icmp_ne (tgt := 24) hx hb dX2_isWord_5 (by decide) (fun c1 => ?_) (fun c1 => ?_)
  · replace h := ite_f c1 h
    refine lv_iconst (v := 0) hx hb dX2_isWord_24 (by decide) ?_
    exact r_z cx hr hlocks rfl hw (sm_eq h) rfl dX2_isWord_25
  · replace h := ite_t c1 h
    refine lv_aload_n hx hb dX2_isWord_8 rfl (lv_at hl 0 rfl) ?_
    refine gf_X2_18 cx hw 0 rfl rfl dX2_isWord_9 ?_
    refine lv_aload_n hx hb dX2_isWord_12 rfl (lv_at hl 0 rfl) ?_
    refine gf_X2_36 cx hw 0 rfl rfl dX2_isWord_13 ?_
    refine lv_isub hx hb dX2_isWord_16 ?_
    refine lv_aload_n hx hb dX2_isWord_17 rfl (lv_at hl 1 rfl) ?_
    obtain ⟨x2, g3, h⟩ := bd_ex h
    refine c_V (As := []) (rest := [.int ((r_end d) - (r_start d))]) (w' := (RC g q d)) cx hw (c_J0_length_8abf5 l g  N w1 hw1  x2 g3) (cl_X2_146 cx.1.2.2.2.2 ⟨Nat.le_of_ble_eq_true rfl, Nat.le_of_ble_eq_true rfl⟩) (vk_recv cx.2.2.2.2.2.1 hw1 hw.2.2) Ct.nil hl.1 rfl rfl (Nat.le_of_ble_eq_true rfl) dX2_isWord_18 ⟨Nat.le_of_ble_eq_true rfl, Nat.le_of_ble_eq_true rfl⟩ (st1 := [.int x2, .int ((r_end d) - (r_start d))]) rfl (fun H locs hw => ?_)
    refine lv_icmp_eq (tgt := 26) hx hb dX2_isWord_21 (by decide) (fun c4 => ?_) (fun c4 => ?_)
    · replace h := ite_t c4 h
      refine lv_iconst (v := 0) hx hb dX2_isWord_26 (by decide) ?_
      refine lv_istore_n (lv' := [(2, .int (0 : Int32)), (0, .ref (q 0)), (1, .ref (gK g w1))]) hx hb dX2_isWord_27 rfl hl (by decide) rfl (fun ls hl => ?_)
      exact L28 N (0 : Int32) _ _ _ hw (lv_sub hl [1, 2, 0] rfl) h
    · replace h := ite_f c4 h
      refine lv_iconst (v := 0) hx hb dX2_isWord_24 (by decide) ?_
      exact r_z cx hr hlocks rfl hw (sm_eq h) rfl dX2_isWord_25
set_option maxHeartbeats 4000000 in
set_option maxRecDepth 100000 in
theorem c_X2_takesWord (l : Launch) (g : gE) (q : Nat → Nat) (N : Nat) (w1 : Nat) (hw1 : w1 < 15) (d : RD) (r : Int32) (d' : RD) (h : f_X2_takesWord N  w1 d = some (r, d')) : MO l yX2_takesWord (Cond.code yX2_takesWord cX2_takesWord 2 (some .boolean) :: TB) rm_X2_takesWord [.ref (q 0), .ref (gK g w1)] g ((RC g q d)) ((RC g q d')) (some (.int r)) 0 0 := by
  refine MO.of (cc := cX2_takesWord) (maxL := 2) (ret := (some .boolean)) (by decide) ?_
  intro p e s m below meth c cx hw hr hlocks _
  have hx := cx.1.1
  have hb := cx.1.2.1
  refine en_go (lv := [(0, .ref (q 0)), (1, .ref (gK g w1))]) (Nat.le_of_ble_eq_true rfl) rfl (fun ls hl => ?_)
  unfold f_X2_takesWord at h
  refine lv_aload_n hx hb dX2_takesWord_0 rfl (lv_at hl 0 rfl) ?_
  refine gf_X2_22 cx hw 0 rfl rfl dX2_takesWord_1 ?_
  refine lv_if_ne (tgt := 15) hx hb dX2_takesWord_4 (by decide) (fun c1 => ?_) (fun c1 => ?_)
  · replace h := ite_f c1 h
    refine lv_iconst (v := 0) hx hb dX2_takesWord_15 (by decide) ?_
    exact r_z cx hr hlocks rfl hw (pr1 h) (congrArg (fun z0 => (RC g q z0)) (pr2 h)) dX2_takesWord_16
  · replace h := ite_t c1 h
    refine lv_aload_n hx hb dX2_takesWord_7 rfl (lv_at hl 0 rfl) ?_
    refine lv_aload_n hx hb dX2_takesWord_8 rfl (lv_at hl 1 rfl) ?_
    obtain ⟨x2, g3, h⟩ := bd_ex h
    refine c_V (As := [.ref (gK g w1)]) (rest := []) (w' := (RC g q d)) cx hw (c_X2_isWord l g q N w1 hw1 d x2 g3) (cl_X2_49 cx.1.2.2.2.2 ⟨Nat.le_of_ble_eq_true rfl, Nat.le_of_ble_eq_true rfl⟩) (x_recv cx hw (ci := 2) rfl 0 rfl) (Ct.all (RC_ll ..)) hl.1 rfl rfl (Nat.le_of_ble_eq_true rfl) dX2_takesWord_9 ⟨Nat.le_of_ble_eq_true rfl, Nat.le_of_ble_eq_true rfl⟩ (st1 := [.int x2]) rfl (fun H locs hw => ?_)
    refine lv_if_ne (tgt := 17) hx hb dX2_takesWord_12 (by decide) (fun c4 => ?_) (fun c4 => ?_)
    · replace h := ite_f c4 h
      refine lv_aload_n hx hb dX2_takesWord_17 rfl (lv_at hl 0 rfl) ?_
      obtain ⟨d5, g6, h⟩ := bd_ex h
      refine c_V (As := []) (rest := []) (w' := (RC g q d5)) cx hw (c_X2_nextToken l g q N  d d5 g6) (cl_X2_26 cx.1.2.2.2.2 ⟨Nat.le_of_ble_eq_true rfl, Nat.le_of_ble_eq_true rfl⟩) (x_recv cx hw (ci := 2) rfl 0 rfl) (Ct.all (RC_ll ..)) hl.1 rfl rfl (Nat.le_of_ble_eq_true rfl) dX2_takesWord_18 ⟨Nat.le_of_ble_eq_true rfl, Nat.le_of_ble_eq_true rfl⟩ (st1 := []) rfl (fun H locs hw => ?_)
      refine lv_iconst (v := 1) hx hb dX2_takesWord_21 (by decide) ?_
      exact r_z cx hr hlocks rfl hw (pr1 h) (congrArg (fun z0 => (RC g q z0)) (pr2 h)) dX2_takesWord_22
    · replace h := ite_t c4 h
      refine lv_iconst (v := 0) hx hb dX2_takesWord_15 (by decide) ?_
      exact r_z cx hr hlocks rfl hw (pr1 h) (congrArg (fun z0 => (RC g q z0)) (pr2 h)) dX2_takesWord_16
set_option maxHeartbeats 4000000 in
set_option maxRecDepth 100000 in
theorem c_X2_kindHere (l : Launch) (g : gE) (q : Nat → Nat) (N : Nat)  (d : RD) (r : Int32) (h : f_X2_kindHere N  d = some r) : MO l yX2_kindHere (Cond.code yX2_kindHere cX2_kindHere 2 (some .int) :: TB) rm_X2_kindHere [.ref (q 0)] g ((RC g q d)) ((RC g q d)) (some (.int r)) 0 0 := by
  refine MO.of (cc := cX2_kindHere) (maxL := 2) (ret := (some .int)) (by decide) ?_
  intro p e s m below meth c cx hw hr hlocks _
  have hx := cx.1.1
  have hb := cx.1.2.1
  refine en_go (lv := [(0, .ref (q 0))]) (Nat.le_of_ble_eq_true rfl) rfl (fun ls hl => ?_)
  have L2 : ∀ (n2 : Nat) (a1 : Int32) (H : Heap) (locs : List Loc) (ls : Array Slot), Wd g (va_A ((RC g q d)) s.heap.size) ((RC g q d)) s H locs → lv_has ls 2 [(0, .ref (q 0)), (1, .int a1)] → f_X2_kindHere_L2 N d  n2 a1 = some r → W p l e rm_X2_kindHere s m ([.ref (q 0)] : List Value).toArray below meth c H locs 0 0 (MQ below (QO (some (.int r)) g ((RC g q d)) (va_A ((RC g q d)) s.heap.size)) ([.ref (q 0)] : List Value).toArray s 0 0 (va_A ((RC g q d)) s.heap.size)) (F0 m 2 ls []) := by
    intro n2
    induction n2 with
    | zero => intro a1 H locs ls hw hl h; exact (Option.some_ne_none _ h.symm).elim
    | succ n2 ih2 =>
      intro a1 H locs ls hw hl h
      rw [f_X2_kindHere_L2] at h
      refine lv_iload_n hx hb dX2_kindHere_2 rfl (lv_at hl 1 rfl) ?_
      refine lv_iconst (v := 5) hx hb dX2_kindHere_3 (by decide) ?_
      refine lv_icmp_gt (tgt := 26) hx hb dX2_kindHere_4 (by decide) (fun c9 => ?_) (fun c9 => ?_)
      · replace h := ite_t c9 h
        refine lv_iconst (v := -1) hx hb dX2_kindHere_26 (by decide) ?_
        exact r_i cx hr hlocks hw (sm_eq h) rfl dX2_kindHere_27
      · replace h := ite_f c9 h
        refine lv_aload_n hx hb dX2_kindHere_7 rfl (lv_at hl 0 rfl) ?_
        refine lv_iload_n hx hb dX2_kindHere_8 rfl (lv_at hl 1 rfl) ?_
        obtain ⟨x10, g11, h⟩ := bd_ex h
        refine c_S (As := [.int a1]) (rest := [.ref (q 0)]) (w' := (RC g q d)) cx hw (c_X2_nameOf l g  N a1  x10 g11) (cl_X2_130 cx.1.2.2.2.2 ⟨Nat.le_of_ble_eq_true rfl, Nat.le_of_ble_eq_true rfl⟩) Ct.nil hl.1 rfl rfl (Nat.le_of_ble_eq_true rfl) dX2_kindHere_9 ⟨Nat.le_of_ble_eq_true rfl, Nat.le_of_ble_eq_true rfl⟩ (st1 := [.ref (gK g x10), .ref (q 0)]) rfl (fun H locs hw => ?_)
        have i12 := ckw_in h
        replace h := ckw_nx h
        obtain ⟨x13, g14, h⟩ := bd_ex h
        refine c_V (As := [.ref (gK g x10)]) (rest := []) (w' := (RC g q d)) cx hw (c_X2_isWord l g q N x10 i12 d x13 g14) (cl_X2_49 cx.1.2.2.2.2 ⟨Nat.le_of_ble_eq_true rfl, Nat.le_of_ble_eq_true rfl⟩) (x_recv cx hw (ci := 2) rfl 0 rfl) (Ct.all (RC_ll ..)) hl.1 rfl rfl (Nat.le_of_ble_eq_true rfl) dX2_kindHere_12 ⟨Nat.le_of_ble_eq_true rfl, Nat.le_of_ble_eq_true rfl⟩ (st1 := [.int x13]) rfl (fun H locs hw => ?_)
        refine lv_if_eq (tgt := 20) hx hb dX2_kindHere_15 (by decide) (fun c15 => ?_) (fun c15 => ?_)
        · replace h := ite_t c15 h
          obtain ⟨x16, ex16⟩ : ∃ y : Int32, y = (a1 + 1) := ⟨_, rfl⟩
          replace h := lt_nx ex16 h
          refine lv_iinc (v := x16) (lv' := [(1, .int x16), (0, .ref (q 0))]) hx hb dX2_kindHere_20 hl (k := 1) rfl (by rw [ex16]; rfl) (by decide) rfl (fun ls hl => ?_)
          refine lv_goto (tgt := 2) hx hb dX2_kindHere_23 (by decide) ?_
          exact ih2 x16 _ _ _ hw (lv_sub hl [1, 0] rfl) h
        · replace h := ite_f c15 h
          refine lv_iload_n hx hb dX2_kindHere_18 rfl (lv_at hl 1 rfl) ?_
          exact r_i cx hr hlocks hw (sm_eq h) rfl dX2_kindHere_19
  unfold f_X2_kindHere at h
  refine lv_iconst (v := 0) hx hb dX2_kindHere_0 (by decide) ?_
  refine lv_istore_n (lv' := [(1, .int (0 : Int32)), (0, .ref (q 0))]) hx hb dX2_kindHere_1 rfl hl (by decide) rfl (fun ls hl => ?_)
  exact L2 N (0 : Int32) _ _ _ hw (lv_sub hl [1, 0] rfl) h
set_option maxHeartbeats 4000000 in
set_option maxRecDepth 100000 in
theorem c_X2_readMark (l : Launch) (g : gE) (q : Nat → Nat) (q2 : Nat → Nat) (N : Nat)  (d : RD) (o : VD) (d' : RD) (o' : VD) (h : f_X2_readMark N  d o = some (d', o')) : MO l yX2_readMark (Cond.code yX2_readMark cX2_readMark 4 none :: TB) rm_X2_readMark [.ref (q 0), .ref (q2 0)] g ((RC g q d) ++ (VC g q2 o)) ((RC g q d') ++ (VC g q2 o')) none 0 0 := by
  refine MO.of (cc := cX2_readMark) (maxL := 4) (ret := none) (by decide) ?_
  intro p e s m below meth c cx hw hr hlocks _
  have hx := cx.1.1
  have hb := cx.1.2.1
  refine en_go (lv := [(0, .ref (q 0)), (1, .ref (q2 0))]) (Nat.le_of_ble_eq_true rfl) rfl (fun ls hl => ?_)
  have J43 : ∀ (a2 : Int32) (d_ : RD) (o_ : VD) (H : Heap) (locs : List Loc) (ls : Array Slot), Wd g (va_A ((RC g q d) ++ (VC g q2 o)) s.heap.size) ((RC g q d_) ++ (VC g q2 o_)) s H locs → lv_has ls 4 [(0, .ref (q 0)), (1, .ref (q2 0)), (2, .int a2)] → f_X2_readMark_J43 N   a2 d_ o_ = some (d', o') → W p l e rm_X2_readMark s m ([.ref (q 0), .ref (q2 0)] : List Value).toArray below meth c H locs 0 0 (MQ below (QO none g ((RC g q d') ++ (VC g q2 o')) (va_A ((RC g q d) ++ (VC g q2 o)) s.heap.size)) ([.ref (q 0), .ref (q2 0)] : List Value).toArray s 0 0 (va_A ((RC g q d) ++ (VC g q2 o)) s.heap.size)) (F0 m 43 ls []) := by
    intro a2 d_ o_ H locs ls hw hl h
    unfold f_X2_readMark_J43 at h
    refine lv_aload_n hx hb dX2_readMark_43 rfl (lv_at hl 0 rfl) ?_
    refine va_ldcS hx hb cx.1.2.2.2.1 (cx.2.2.2.2.1 8 (by decide)) dX2_readMark_44 ?_
    obtain ⟨x28, d29, g30, h⟩ := bd2_ex h
    refine c_V (As := [.ref (gK g 8)]) (rest := []) (w' := (RC g q d29) ++ (VC g q2 o_)) cx hw (c_X2_takesWord l g q N 8 (by decide) d_ x28 d29 g30) (cl_X2_71 cx.1.2.2.2.2 ⟨Nat.le_of_ble_eq_true rfl, Nat.le_of_ble_eq_true rfl⟩) (x_recv cx hw (ci := 2) rfl 0 rfl) (ct_R_V__0_1_2__R_0 g q q2 d_ o_ d29) hl.1 rfl rfl (Nat.le_of_ble_eq_true rfl) dX2_readMark_46 ⟨Nat.le_of_ble_eq_true rfl, Nat.le_of_ble_eq_true rfl⟩ (st1 := [.int x28]) rfl (fun H locs hw => ?_)
    refine lv_if_eq (tgt := 68) hx hb dX2_readMark_49 (by decide) (fun c31 => ?_) (fun c31 => ?_)
    · replace h := ite_t c31 h
      exact r_v cx hr hlocks hw (congr2 (fun z0 z1 => (RC g q z0) ++ (VC g q2 z1)) (pr1 h) (pr2 h)) dX2_readMark_68
    · replace h := ite_f c31 h
      refine lv_aload_n hx hb dX2_readMark_52 rfl (lv_at hl 1 rfl) ?_
      refine gf_X2_109 cx hw 3 rfl rfl dX2_readMark_53 ?_
      refine lv_iload_n hx hb dX2_readMark_56 rfl (lv_at hl 2 rfl) ?_
      refine lv_aload_n hx hb dX2_readMark_57 rfl (lv_at hl 0 rfl) ?_
      refine lv_iconst (v := 0) hx hb dX2_readMark_58 (by decide) ?_
      refine lv_bipush (v := 99) hx hb dX2_readMark_59 (by decide) ?_
      obtain ⟨x32, d33, g34, h⟩ := bd2_ex h
      refine c_V (As := [.int (0 : Int32), .int (99 : Int32)]) (rest := [.int a2, .ref (q2 2)]) (w' := (RC g q d33) ++ (VC g q2 o_)) cx hw (c_X2_takeNumber l g q N (0 : Int32) (99 : Int32) d29 x32 d33 g34) (cl_X2_58 cx.1.2.2.2.2 ⟨Nat.le_of_ble_eq_true rfl, Nat.le_of_ble_eq_true rfl⟩) (x_recv cx hw (ci := 2) rfl 0 rfl) (ct_R_V__0_1_2__R_0 g q q2 d29 o_ d33) hl.1 rfl rfl (Nat.le_of_ble_eq_true rfl) dX2_readMark_61 ⟨Nat.le_of_ble_eq_true rfl, Nat.le_of_ble_eq_true rfl⟩ (st1 := [.int x32, .int a2, .ref (q2 2)]) rfl (fun H locs hw => ?_)
      obtain ⟨x35, f36, g37, h⟩ := bd2_ex h
      refine c_SN (As := [.ref (q2 2), .int a2, .int x32]) (rest := []) (w' := (RC g q d33) ++ (VC g q2 (v_set_costs o_ f36))) cx hw (c_X4_exchange l g (q2 2) 9 N a2 x32 (v_costs o_) x35 f36 g37) (cl_X2_111 cx.1.2.2.2.2 cx.2.2.1 ⟨Nat.le_of_ble_eq_true rfl, Nat.le_of_ble_eq_true rfl⟩) (ct_R_V__5__A_0 g q q2 d33 o_ f36) hl.1 rfl rfl (Nat.le_of_ble_eq_true rfl) dX2_readMark_64 ⟨Nat.le_of_ble_eq_true rfl, Nat.le_of_ble_eq_true rfl⟩ (st1 := [.int x35]) rfl (fun H locs hw => ?_)
      obtain ⟨o38, eo38, h⟩ := lt_ex h
      have hw : Wd g (va_A ((RC g q d) ++ (VC g q2 o)) s.heap.size) ((RC g q d33) ++ (VC g q2 o38)) s H locs := by rw [eo38]; exact hw
      refine lv_pop hx hb dX2_readMark_67 rfl ?_
      exact r_v cx hr hlocks hw (congr2 (fun z0 z1 => (RC g q z0) ++ (VC g q2 z1)) (pr1 h) (pr2 h)) dX2_readMark_68
  unfold f_X2_readMark at h
  refine lv_aload_n hx hb dX2_readMark_0 rfl (lv_at hl 0 rfl) ?_
  obtain ⟨d1, g2, h⟩ := bd_ex h
  refine c_V (As := []) (rest := []) (w' := (RC g q d1) ++ (VC g q2 o)) cx hw (c_X2_nextToken l g q N  d d1 g2) (cl_X2_26 cx.1.2.2.2.2 ⟨Nat.le_of_ble_eq_true rfl, Nat.le_of_ble_eq_true rfl⟩) (x_recv cx hw (ci := 2) rfl 0 rfl) (ct_R_V__0_1_2__R_0 g q q2 d o d1) hl.1 rfl rfl (Nat.le_of_ble_eq_true rfl) dX2_readMark_1 ⟨Nat.le_of_ble_eq_true rfl, Nat.le_of_ble_eq_true rfl⟩ (st1 := []) rfl (fun H locs hw => ?_)
  refine lv_aload_n hx hb dX2_readMark_4 rfl (lv_at hl 0 rfl) ?_
  refine lv_iconst (v := 0) hx hb dX2_readMark_5 (by decide) ?_
  refine lv_bipush (v := 8) hx hb dX2_readMark_6 (by decide) ?_
  obtain ⟨x3, d4, g5, h⟩ := bd2_ex h
  refine c_V (As := [.int (0 : Int32), .int (8 : Int32)]) (rest := []) (w' := (RC g q d4) ++ (VC g q2 o)) cx hw (c_X2_takeNumber l g q N (0 : Int32) (8 : Int32) d1 x3 d4 g5) (cl_X2_58 cx.1.2.2.2.2 ⟨Nat.le_of_ble_eq_true rfl, Nat.le_of_ble_eq_true rfl⟩) (x_recv cx hw (ci := 2) rfl 0 rfl) (ct_R_V__0_1_2__R_0 g q q2 d1 o d4) hl.1 rfl rfl (Nat.le_of_ble_eq_true rfl) dX2_readMark_8 ⟨Nat.le_of_ble_eq_true rfl, Nat.le_of_ble_eq_true rfl⟩ (st1 := [.int x3]) rfl (fun H locs hw => ?_)
  refine lv_istore_n (lv' := [(2, .int x3), (0, .ref (q 0)), (1, .ref (q2 0))]) hx hb dX2_readMark_11 rfl hl (by decide) rfl (fun ls hl => ?_)
  refine lv_aload_n hx hb dX2_readMark_12 rfl (lv_at hl 1 rfl) ?_
  refine va_ldcS hx hb cx.1.2.2.2.1 (cx.2.2.2.2.1 7 (by decide)) dX2_readMark_13 ?_
  obtain ⟨x6, d7, g8, h⟩ := bd2_ex h
  refine c_V (As := [.ref (gK g 7)]) (rest := []) (w' := (RC g q d7) ++ (VC g q2 o)) cx hw (c_X2_takesWord l g q N 7 (by decide) d4 x6 d7 g8) (cl_X2_71 cx.1.2.2.2.2 ⟨Nat.le_of_ble_eq_true rfl, Nat.le_of_ble_eq_true rfl⟩) (x_recv cx hw (ci := 2) rfl 0 rfl) (ct_R_V__0_1_2__R_0 g q q2 d4 o d7) hl.1 rfl rfl (Nat.le_of_ble_eq_true rfl) dX2_readMark_15 ⟨Nat.le_of_ble_eq_true rfl, Nat.le_of_ble_eq_true rfl⟩ (st1 := [.int x6]) rfl (fun H locs hw => ?_)
  refine lv_if_eq (tgt := 43) hx hb dX2_readMark_18 (by decide) (fun c9 => ?_) (fun c9 => ?_)
  · replace h := ite_t c9 h
    exact J43 x3 d7 o _ _ _ hw (lv_sub hl [1, 2, 0] rfl) h
  · replace h := ite_f c9 h
    refine lv_aload_n hx hb dX2_readMark_21 rfl (lv_at hl 1 rfl) ?_
    refine lv_iconst (v := 0) hx hb dX2_readMark_22 (by decide) ?_
    refine lv_bipush (v := 9) hx hb dX2_readMark_23 (by decide) ?_
    obtain ⟨x10, d11, g12, h⟩ := bd2_ex h
    refine c_V (As := [.int (0 : Int32), .int (9 : Int32)]) (rest := []) (w' := (RC g q d11) ++ (VC g q2 o)) cx hw (c_X2_takeNumber l g q N (0 : Int32) (9 : Int32) d7 x10 d11 g12) (cl_X2_58 cx.1.2.2.2.2 ⟨Nat.le_of_ble_eq_true rfl, Nat.le_of_ble_eq_true rfl⟩) (x_recv cx hw (ci := 2) rfl 0 rfl) (ct_R_V__0_1_2__R_0 g q q2 d7 o d11) hl.1 rfl rfl (Nat.le_of_ble_eq_true rfl) dX2_readMark_25 ⟨Nat.le_of_ble_eq_true rfl, Nat.le_of_ble_eq_true rfl⟩ (st1 := [.int x10]) rfl (fun H locs hw => ?_)
    refine lv_istore_n (lv' := [(3, .int x10), (2, .int x3), (0, .ref (q 0)), (1, .ref (q2 0))]) hx hb dX2_readMark_28 rfl hl (by decide) rfl (fun ls hl => ?_)
    refine lv_aload_n hx hb dX2_readMark_29 rfl (lv_at hl 2 rfl) ?_
    refine gf_X2_22 cx hw 0 rfl rfl dX2_readMark_30 ?_
    refine lv_if_ne (tgt := 43) hx hb dX2_readMark_33 (by decide) (fun c13 => ?_) (fun c13 => ?_)
    · replace h := ite_f c13 h
      exact J43 x3 d11 o _ _ _ hw (lv_sub hl [2, 3, 1] rfl) h
    · replace h := ite_t c13 h
      refine lv_aload_n hx hb dX2_readMark_36 rfl (lv_at hl 3 rfl) ?_
      refine lv_iload_n hx hb dX2_readMark_37 rfl (lv_at hl 1 rfl) ?_
      refine lv_iload_n hx hb dX2_readMark_38 rfl (lv_at hl 0 rfl) ?_
      obtain ⟨x14, d15, g16, h⟩ := bd2_ex h
      refine c_V (As := [.int x3, .int x10]) (rest := []) (w' := (RC g q d11) ++ (VC g q2 d15)) cx hw (c_X3_putWeight l g q2 N x3 x10 o x14 d15 g16) (cl_X2_104 cx.1.2.2.2.2 ⟨Nat.le_of_ble_eq_true rfl, Nat.le_of_ble_eq_true rfl⟩) (x_recv cx hw (ci := 3) rfl 3 rfl) (ct_R_V__3_4_5_6_7_8_9_10_11_12_13_14_15__V_0 g q q2 d11 o d15) hl.1 rfl rfl (Nat.le_of_ble_eq_true rfl) dX2_readMark_39 ⟨Nat.le_of_ble_eq_true rfl, Nat.le_of_ble_eq_true rfl⟩ (st1 := [.int x14]) rfl (fun H locs hw => ?_)
      refine lv_pop hx hb dX2_readMark_42 rfl ?_
      exact J43 x3 d11 d15 _ _ _ hw (lv_sub hl [2, 3, 1] rfl) h
set_option maxHeartbeats 4000000 in
set_option maxRecDepth 100000 in
theorem c_X2_readPerson (l : Launch) (g : gE) (q : Nat → Nat) (q2 : Nat → Nat) (N : Nat) (p2 : Int32) (d : RD) (o : VD) (d' : RD) (o' : VD) (h : f_X2_readPerson N  p2 d o = some (d', o')) : MO l yX2_readPerson (Cond.code yX2_readPerson cX2_readPerson 5 none :: TB) rm_X2_readPerson [.ref (q 0), .ref (q2 0), .int p2] g ((RC g q d) ++ (VC g q2 o)) ((RC g q d') ++ (VC g q2 o')) none 0 0 := by
  refine MO.of (cc := cX2_readPerson) (maxL := 5) (ret := none) (by decide) ?_
  intro p e s m below meth c cx hw hr hlocks _
  have hx := cx.1.1
  have hb := cx.1.2.1
  refine en_go (lv := [(0, .ref (q 0)), (1, .ref (q2 0)), (2, .int p2)]) (Nat.le_of_ble_eq_true rfl) rfl (fun ls hl => ?_)
  have J129 : ∀ (a3 : Int32) (d_ : RD) (o_ : VD) (H : Heap) (locs : List Loc) (ls : Array Slot), Wd g (va_A ((RC g q d) ++ (VC g q2 o)) s.heap.size) ((RC g q d_) ++ (VC g q2 o_)) s H locs → lv_has ls 5 [(0, .ref (q 0)), (1, .ref (q2 0)), (3, .int a3)] → f_X2_readPerson_J129 N   a3 d_ o_ = some (d', o') → W p l e rm_X2_readPerson s m ([.ref (q 0), .ref (q2 0), .int p2] : List Value).toArray below meth c H locs 0 0 (MQ below (QO none g ((RC g q d') ++ (VC g q2 o')) (va_A ((RC g q d) ++ (VC g q2 o)) s.heap.size)) ([.ref (q 0), .ref (q2 0), .int p2] : List Value).toArray s 0 0 (va_A ((RC g q d) ++ (VC g q2 o)) s.heap.size)) (F0 m 129 ls []) := by
    intro a3 d_ o_ H locs ls hw hl h
    unfold f_X2_readPerson_J129 at h
    refine lv_aload_n hx hb dX2_readPerson_129 rfl (lv_at hl 0 rfl) ?_
    refine va_ldcS hx hb cx.1.2.2.2.1 (cx.2.2.2.2.1 6 (by decide)) dX2_readPerson_130 ?_
    obtain ⟨x56, d57, g58, h⟩ := bd2_ex h
    refine c_V (As := [.ref (gK g 6)]) (rest := []) (w' := (RC g q d57) ++ (VC g q2 o_)) cx hw (c_X2_takesWord l g q N 6 (by decide) d_ x56 d57 g58) (cl_X2_71 cx.1.2.2.2.2 ⟨Nat.le_of_ble_eq_true rfl, Nat.le_of_ble_eq_true rfl⟩) (x_recv cx hw (ci := 2) rfl 0 rfl) (ct_R_V__0_1_2__R_0 g q q2 d_ o_ d57) hl.1 rfl rfl (Nat.le_of_ble_eq_true rfl) dX2_readPerson_132 ⟨Nat.le_of_ble_eq_true rfl, Nat.le_of_ble_eq_true rfl⟩ (st1 := [.int x56]) rfl (fun H locs hw => ?_)
    refine lv_if_eq (tgt := 152) hx hb dX2_readPerson_135 (by decide) (fun c59 => ?_) (fun c59 => ?_)
    · replace h := ite_t c59 h
      exact r_v cx hr hlocks hw (congr2 (fun z0 z1 => (RC g q z0) ++ (VC g q2 z1)) (pr1 h) (pr2 h)) dX2_readPerson_152
    · replace h := ite_f c59 h
      refine lv_aload_n hx hb dX2_readPerson_138 rfl (lv_at hl 1 rfl) ?_
      refine gf_X2_99 cx hw 3 rfl rfl dX2_readPerson_139 ?_
      refine lv_iload_n hx hb dX2_readPerson_142 rfl (lv_at hl 2 rfl) ?_
      refine lv_aload_n hx hb dX2_readPerson_143 rfl (lv_at hl 0 rfl) ?_
      refine lv_iconst (v := 0) hx hb dX2_readPerson_144 (by decide) ?_
      refine lv_iload_n hx hb dX2_readPerson_145 rfl (lv_at hl 2 rfl) ?_
      refine lv_iconst (v := 1) hx hb dX2_readPerson_146 (by decide) ?_
      refine lv_isub hx hb dX2_readPerson_147 ?_
      obtain ⟨x60, d61, g62, h⟩ := bd2_ex h
      refine c_V (As := [.int (0 : Int32), .int (a3 - (1 : Int32))]) (rest := [.int a3, .ref (q2 9)]) (w' := (RC g q d61) ++ (VC g q2 o_)) cx hw (c_X2_takeNumber l g q N (0 : Int32) (a3 - (1 : Int32)) d57 x60 d61 g62) (cl_X2_58 cx.1.2.2.2.2 ⟨Nat.le_of_ble_eq_true rfl, Nat.le_of_ble_eq_true rfl⟩) (x_recv cx hw (ci := 2) rfl 0 rfl) (ct_R_V__0_1_2__R_0 g q q2 d57 o_ d61) hl.1 rfl rfl (Nat.le_of_ble_eq_true rfl) dX2_readPerson_148 ⟨Nat.le_of_ble_eq_true rfl, Nat.le_of_ble_eq_true rfl⟩ (st1 := [.int x60, .int a3, .ref (q2 9)]) rfl (fun H locs hw => ?_)
      have i63 := ck_in h
      replace h := ck_nx h
      refine x_iast cx hw 12 rfl i63 dX2_readPerson_151 (fun H locs hw => ?_)
      obtain ⟨o64, eo64, h⟩ := lt_ex h
      have hw : Wd g (va_A ((RC g q d) ++ (VC g q2 o)) s.heap.size) ((RC g q d61) ++ (VC g q2 o64)) s H locs := by rw [eo64]; exact hw
      exact r_v cx hr hlocks hw (congr2 (fun z0 z1 => (RC g q z0) ++ (VC g q2 z1)) (pr1 h) (pr2 h)) dX2_readPerson_152
  have J107 : ∀ (a3 : Int32) (d_ : RD) (o_ : VD) (H : Heap) (locs : List Loc) (ls : Array Slot), Wd g (va_A ((RC g q d) ++ (VC g q2 o)) s.heap.size) ((RC g q d_) ++ (VC g q2 o_)) s H locs → lv_has ls 5 [(0, .ref (q 0)), (1, .ref (q2 0)), (3, .int a3)] → f_X2_readPerson_J107 N   a3 d_ o_ = some (d', o') → W p l e rm_X2_readPerson s m ([.ref (q 0), .ref (q2 0), .int p2] : List Value).toArray below meth c H locs 0 0 (MQ below (QO none g ((RC g q d') ++ (VC g q2 o')) (va_A ((RC g q d) ++ (VC g q2 o)) s.heap.size)) ([.ref (q 0), .ref (q2 0), .int p2] : List Value).toArray s 0 0 (va_A ((RC g q d) ++ (VC g q2 o)) s.heap.size)) (F0 m 107 ls []) := by
    intro a3 d_ o_ H locs ls hw hl h
    unfold f_X2_readPerson_J107 at h
    refine lv_aload_n hx hb dX2_readPerson_107 rfl (lv_at hl 0 rfl) ?_
    refine va_ldcS hx hb cx.1.2.2.2.1 (cx.2.2.2.2.1 5 (by decide)) dX2_readPerson_108 ?_
    obtain ⟨x65, d66, g67, h⟩ := bd2_ex h
    refine c_V (As := [.ref (gK g 5)]) (rest := []) (w' := (RC g q d66) ++ (VC g q2 o_)) cx hw (c_X2_takesWord l g q N 5 (by decide) d_ x65 d66 g67) (cl_X2_71 cx.1.2.2.2.2 ⟨Nat.le_of_ble_eq_true rfl, Nat.le_of_ble_eq_true rfl⟩) (x_recv cx hw (ci := 2) rfl 0 rfl) (ct_R_V__0_1_2__R_0 g q q2 d_ o_ d66) hl.1 rfl rfl (Nat.le_of_ble_eq_true rfl) dX2_readPerson_110 ⟨Nat.le_of_ble_eq_true rfl, Nat.le_of_ble_eq_true rfl⟩ (st1 := [.int x65]) rfl (fun H locs hw => ?_)
    refine lv_if_eq (tgt := 129) hx hb dX2_readPerson_113 (by decide) (fun c68 => ?_) (fun c68 => ?_)
    · replace h := ite_t c68 h
      exact J129 a3 d66 o_ _ _ _ hw (lv_sub hl [0, 1, 2] rfl) h
    · replace h := ite_f c68 h
      refine lv_aload_n hx hb dX2_readPerson_116 rfl (lv_at hl 1 rfl) ?_
      refine gf_X2_94 cx hw 3 rfl rfl dX2_readPerson_117 ?_
      refine lv_iload_n hx hb dX2_readPerson_120 rfl (lv_at hl 2 rfl) ?_
      refine lv_aload_n hx hb dX2_readPerson_121 rfl (lv_at hl 0 rfl) ?_
      refine lv_iconst (v := 1) hx hb dX2_readPerson_122 (by decide) ?_
      refine lv_bipush (v := 120) hx hb dX2_readPerson_123 (by decide) ?_
      obtain ⟨x69, d70, g71, h⟩ := bd2_ex h
      refine c_V (As := [.int (1 : Int32), .int (120 : Int32)]) (rest := [.int a3, .ref (q2 8)]) (w' := (RC g q d70) ++ (VC g q2 o_)) cx hw (c_X2_takeNumber l g q N (1 : Int32) (120 : Int32) d66 x69 d70 g71) (cl_X2_58 cx.1.2.2.2.2 ⟨Nat.le_of_ble_eq_true rfl, Nat.le_of_ble_eq_true rfl⟩) (x_recv cx hw (ci := 2) rfl 0 rfl) (ct_R_V__0_1_2__R_0 g q q2 d66 o_ d70) hl.1 rfl rfl (Nat.le_of_ble_eq_true rfl) dX2_readPerson_125 ⟨Nat.le_of_ble_eq_true rfl, Nat.le_of_ble_eq_true rfl⟩ (st1 := [.int x69, .int a3, .ref (q2 8)]) rfl (fun H locs hw => ?_)
      have i72 := ck_in h
      replace h := ck_nx h
      refine x_iast cx hw 11 rfl i72 dX2_readPerson_128 (fun H locs hw => ?_)
      obtain ⟨o73, eo73, h⟩ := lt_ex h
      have hw : Wd g (va_A ((RC g q d) ++ (VC g q2 o)) s.heap.size) ((RC g q d70) ++ (VC g q2 o73)) s H locs := by rw [eo73]; exact hw
      exact J129 a3 d70 o73 _ _ _ hw (lv_sub hl [0, 1, 2] rfl) h
  have J85 : ∀ (a3 : Int32) (d_ : RD) (o_ : VD) (H : Heap) (locs : List Loc) (ls : Array Slot), Wd g (va_A ((RC g q d) ++ (VC g q2 o)) s.heap.size) ((RC g q d_) ++ (VC g q2 o_)) s H locs → lv_has ls 5 [(0, .ref (q 0)), (1, .ref (q2 0)), (3, .int a3)] → f_X2_readPerson_J85 N   a3 d_ o_ = some (d', o') → W p l e rm_X2_readPerson s m ([.ref (q 0), .ref (q2 0), .int p2] : List Value).toArray below meth c H locs 0 0 (MQ below (QO none g ((RC g q d') ++ (VC g q2 o')) (va_A ((RC g q d) ++ (VC g q2 o)) s.heap.size)) ([.ref (q 0), .ref (q2 0), .int p2] : List Value).toArray s 0 0 (va_A ((RC g q d) ++ (VC g q2 o)) s.heap.size)) (F0 m 85 ls []) := by
    intro a3 d_ o_ H locs ls hw hl h
    unfold f_X2_readPerson_J85 at h
    refine lv_aload_n hx hb dX2_readPerson_85 rfl (lv_at hl 0 rfl) ?_
    refine va_ldcS hx hb cx.1.2.2.2.1 (cx.2.2.2.2.1 4 (by decide)) dX2_readPerson_86 ?_
    obtain ⟨x74, d75, g76, h⟩ := bd2_ex h
    refine c_V (As := [.ref (gK g 4)]) (rest := []) (w' := (RC g q d75) ++ (VC g q2 o_)) cx hw (c_X2_takesWord l g q N 4 (by decide) d_ x74 d75 g76) (cl_X2_71 cx.1.2.2.2.2 ⟨Nat.le_of_ble_eq_true rfl, Nat.le_of_ble_eq_true rfl⟩) (x_recv cx hw (ci := 2) rfl 0 rfl) (ct_R_V__0_1_2__R_0 g q q2 d_ o_ d75) hl.1 rfl rfl (Nat.le_of_ble_eq_true rfl) dX2_readPerson_88 ⟨Nat.le_of_ble_eq_true rfl, Nat.le_of_ble_eq_true rfl⟩ (st1 := [.int x74]) rfl (fun H locs hw => ?_)
    refine lv_if_eq (tgt := 107) hx hb dX2_readPerson_91 (by decide) (fun c77 => ?_) (fun c77 => ?_)
    · replace h := ite_t c77 h
      exact J107 a3 d75 o_ _ _ _ hw (lv_sub hl [0, 1, 2] rfl) h
    · replace h := ite_f c77 h
      refine lv_aload_n hx hb dX2_readPerson_94 rfl (lv_at hl 1 rfl) ?_
      refine gf_X2_89 cx hw 3 rfl rfl dX2_readPerson_95 ?_
      refine lv_iload_n hx hb dX2_readPerson_98 rfl (lv_at hl 2 rfl) ?_
      refine lv_aload_n hx hb dX2_readPerson_99 rfl (lv_at hl 0 rfl) ?_
      refine lv_iconst (v := 0) hx hb dX2_readPerson_100 (by decide) ?_
      refine lv_ldc hx hb cx.1.2.2.2.1 (cx.1.2.2.2.2 _ tw_3_140) dX2_readPerson_101 ?_
      obtain ⟨x78, d79, g80, h⟩ := bd2_ex h
      refine c_V (As := [.int (0 : Int32), .int (999999 : Int32)]) (rest := [.int a3, .ref (q2 7)]) (w' := (RC g q d79) ++ (VC g q2 o_)) cx hw (c_X2_takeNumber l g q N (0 : Int32) (999999 : Int32) d75 x78 d79 g80) (cl_X2_58 cx.1.2.2.2.2 ⟨Nat.le_of_ble_eq_true rfl, Nat.le_of_ble_eq_true rfl⟩) (x_recv cx hw (ci := 2) rfl 0 rfl) (ct_R_V__0_1_2__R_0 g q q2 d75 o_ d79) hl.1 rfl rfl (Nat.le_of_ble_eq_true rfl) dX2_readPerson_103 ⟨Nat.le_of_ble_eq_true rfl, Nat.le_of_ble_eq_true rfl⟩ (st1 := [.int x78, .int a3, .ref (q2 7)]) rfl (fun H locs hw => ?_)
      have i81 := ck_in h
      replace h := ck_nx h
      refine x_iast cx hw 10 rfl i81 dX2_readPerson_106 (fun H locs hw => ?_)
      obtain ⟨o82, eo82, h⟩ := lt_ex h
      have hw : Wd g (va_A ((RC g q d) ++ (VC g q2 o)) s.heap.size) ((RC g q d79) ++ (VC g q2 o82)) s H locs := by rw [eo82]; exact hw
      exact J107 a3 d79 o82 _ _ _ hw (lv_sub hl [0, 1, 2] rfl) h
  have J63 : ∀ (a3 : Int32) (d_ : RD) (o_ : VD) (H : Heap) (locs : List Loc) (ls : Array Slot), Wd g (va_A ((RC g q d) ++ (VC g q2 o)) s.heap.size) ((RC g q d_) ++ (VC g q2 o_)) s H locs → lv_has ls 5 [(0, .ref (q 0)), (1, .ref (q2 0)), (3, .int a3)] → f_X2_readPerson_J63 N   a3 d_ o_ = some (d', o') → W p l e rm_X2_readPerson s m ([.ref (q 0), .ref (q2 0), .int p2] : List Value).toArray below meth c H locs 0 0 (MQ below (QO none g ((RC g q d') ++ (VC g q2 o')) (va_A ((RC g q d) ++ (VC g q2 o)) s.heap.size)) ([.ref (q 0), .ref (q2 0), .int p2] : List Value).toArray s 0 0 (va_A ((RC g q d) ++ (VC g q2 o)) s.heap.size)) (F0 m 63 ls []) := by
    intro a3 d_ o_ H locs ls hw hl h
    unfold f_X2_readPerson_J63 at h
    refine lv_aload_n hx hb dX2_readPerson_63 rfl (lv_at hl 0 rfl) ?_
    refine va_ldcS hx hb cx.1.2.2.2.1 (cx.2.2.2.2.1 3 (by decide)) dX2_readPerson_64 ?_
    obtain ⟨x83, d84, g85, h⟩ := bd2_ex h
    refine c_V (As := [.ref (gK g 3)]) (rest := []) (w' := (RC g q d84) ++ (VC g q2 o_)) cx hw (c_X2_takesWord l g q N 3 (by decide) d_ x83 d84 g85) (cl_X2_71 cx.1.2.2.2.2 ⟨Nat.le_of_ble_eq_true rfl, Nat.le_of_ble_eq_true rfl⟩) (x_recv cx hw (ci := 2) rfl 0 rfl) (ct_R_V__0_1_2__R_0 g q q2 d_ o_ d84) hl.1 rfl rfl (Nat.le_of_ble_eq_true rfl) dX2_readPerson_66 ⟨Nat.le_of_ble_eq_true rfl, Nat.le_of_ble_eq_true rfl⟩ (st1 := [.int x83]) rfl (fun H locs hw => ?_)
    refine lv_if_eq (tgt := 85) hx hb dX2_readPerson_69 (by decide) (fun c86 => ?_) (fun c86 => ?_)
    · replace h := ite_t c86 h
      exact J85 a3 d84 o_ _ _ _ hw (lv_sub hl [0, 1, 2] rfl) h
    · replace h := ite_f c86 h
      refine lv_aload_n hx hb dX2_readPerson_72 rfl (lv_at hl 1 rfl) ?_
      refine gf_X2_84 cx hw 3 rfl rfl dX2_readPerson_73 ?_
      refine lv_iload_n hx hb dX2_readPerson_76 rfl (lv_at hl 2 rfl) ?_
      refine lv_aload_n hx hb dX2_readPerson_77 rfl (lv_at hl 0 rfl) ?_
      refine lv_iconst (v := 0) hx hb dX2_readPerson_78 (by decide) ?_
      refine lv_bipush (v := 120) hx hb dX2_readPerson_79 (by decide) ?_
      obtain ⟨x87, d88, g89, h⟩ := bd2_ex h
      refine c_V (As := [.int (0 : Int32), .int (120 : Int32)]) (rest := [.int a3, .ref (q2 6)]) (w' := (RC g q d88) ++ (VC g q2 o_)) cx hw (c_X2_takeNumber l g q N (0 : Int32) (120 : Int32) d84 x87 d88 g89) (cl_X2_58 cx.1.2.2.2.2 ⟨Nat.le_of_ble_eq_true rfl, Nat.le_of_ble_eq_true rfl⟩) (x_recv cx hw (ci := 2) rfl 0 rfl) (ct_R_V__0_1_2__R_0 g q q2 d84 o_ d88) hl.1 rfl rfl (Nat.le_of_ble_eq_true rfl) dX2_readPerson_81 ⟨Nat.le_of_ble_eq_true rfl, Nat.le_of_ble_eq_true rfl⟩ (st1 := [.int x87, .int a3, .ref (q2 6)]) rfl (fun H locs hw => ?_)
      have i90 := ck_in h
      replace h := ck_nx h
      refine x_iast cx hw 9 rfl i90 dX2_readPerson_84 (fun H locs hw => ?_)
      obtain ⟨o91, eo91, h⟩ := lt_ex h
      have hw : Wd g (va_A ((RC g q d) ++ (VC g q2 o)) s.heap.size) ((RC g q d88) ++ (VC g q2 o91)) s H locs := by rw [eo91]; exact hw
      exact J85 a3 d88 o91 _ _ _ hw (lv_sub hl [0, 1, 2] rfl) h
  have J59 : ∀ (a3 : Int32) (t1 : Int32) (t2 : Int32) (d_ : RD) (o_ : VD) (H : Heap) (locs : List Loc) (ls : Array Slot), Wd g (va_A ((RC g q d) ++ (VC g q2 o)) s.heap.size) ((RC g q d_) ++ (VC g q2 o_)) s H locs → lv_has ls 5 [(0, .ref (q 0)), (1, .ref (q2 0)), (3, .int a3)] → f_X2_readPerson_J59 N   a3 t1 t2 d_ o_ = some (d', o') → W p l e rm_X2_readPerson s m ([.ref (q 0), .ref (q2 0), .int p2] : List Value).toArray below meth c H locs 0 0 (MQ below (QO none g ((RC g q d') ++ (VC g q2 o')) (va_A ((RC g q d) ++ (VC g q2 o)) s.heap.size)) ([.ref (q 0), .ref (q2 0), .int p2] : List Value).toArray s 0 0 (va_A ((RC g q d) ++ (VC g q2 o)) s.heap.size)) (F0 m 59 ls [.int t2, .int t1, .ref (q 0)]) := by
    intro a3 t1 t2 d_ o_ H locs ls hw hl h
    unfold f_X2_readPerson_J59 at h
    obtain ⟨x92, d93, g94, h⟩ := bd2_ex h
    refine c_V (As := [.int t1, .int t2]) (rest := []) (w' := (RC g q d93) ++ (VC g q2 o_)) cx hw (c_X2_takeNumber l g q N t1 t2 d_ x92 d93 g94) (cl_X2_58 cx.1.2.2.2.2 ⟨Nat.le_of_ble_eq_true rfl, Nat.le_of_ble_eq_true rfl⟩) (x_recv cx hw (ci := 2) rfl 0 rfl) (ct_R_V__0_1_2__R_0 g q q2 d_ o_ d93) hl.1 rfl rfl (Nat.le_of_ble_eq_true rfl) dX2_readPerson_59 ⟨Nat.le_of_ble_eq_true rfl, Nat.le_of_ble_eq_true rfl⟩ (st1 := [.int x92]) rfl (fun H locs hw => ?_)
    refine lv_pop hx hb dX2_readPerson_62 rfl ?_
    exact J63 a3 d93 o_ _ _ _ hw (lv_sub hl [0, 1, 2] rfl) h
  unfold f_X2_readPerson at h
  refine lv_aload_n hx hb dX2_readPerson_0 rfl (lv_at hl 1 rfl) ?_
  refine lv_iload_n hx hb dX2_readPerson_1 rfl (lv_at hl 2 rfl) ?_
  refine lv_iconst (v := 0) hx hb dX2_readPerson_2 (by decide) ?_
  obtain ⟨x1, d2, g3, h⟩ := bd2_ex h
  refine c_V (As := [.int p2, .int (0 : Int32)]) (rest := []) (w' := (RC g q d) ++ (VC g q2 d2)) cx hw (c_X3_addOne l g q2 N p2 (0 : Int32) o x1 d2 g3) (cl_X2_66 cx.1.2.2.2.2 ⟨Nat.le_of_ble_eq_true rfl, Nat.le_of_ble_eq_true rfl⟩) (x_recv cx hw (ci := 3) rfl 3 rfl) (ct_R_V__3_4_5_6_7_8_9_10_11_12_13_14_15__V_0 g q q2 d o d2) hl.1 rfl rfl (Nat.le_of_ble_eq_true rfl) dX2_readPerson_3 ⟨Nat.le_of_ble_eq_true rfl, Nat.le_of_ble_eq_true rfl⟩ (st1 := [.int x1]) rfl (fun H locs hw => ?_)
  refine lv_istore_n (lv' := [(3, .int x1), (0, .ref (q 0)), (1, .ref (q2 0)), (2, .int p2)]) hx hb dX2_readPerson_6 rfl hl (by decide) rfl (fun ls hl => ?_)
  refine lv_iload_n hx hb dX2_readPerson_7 rfl (lv_at hl 0 rfl) ?_
  refine lv_iconst (v := -1) hx hb dX2_readPerson_8 (by decide) ?_
  refine lv_icmp_ne (tgt := 18) hx hb dX2_readPerson_9 (by decide) (fun c4 => ?_) (fun c4 => ?_)
  · replace h := ite_f c4 h
    refine lv_aload_n hx hb dX2_readPerson_18 rfl (lv_at hl 1 rfl) ?_
    obtain ⟨d5, g6, h⟩ := bd_ex h
    refine c_V (As := []) (rest := []) (w' := (RC g q d5) ++ (VC g q2 d2)) cx hw (c_X2_nextToken l g q N  d d5 g6) (cl_X2_26 cx.1.2.2.2.2 ⟨Nat.le_of_ble_eq_true rfl, Nat.le_of_ble_eq_true rfl⟩) (x_recv cx hw (ci := 2) rfl 0 rfl) (ct_R_V__0_1_2__R_0 g q q2 d d2 d5) hl.1 rfl rfl (Nat.le_of_ble_eq_true rfl) dX2_readPerson_19 ⟨Nat.le_of_ble_eq_true rfl, Nat.le_of_ble_eq_true rfl⟩ (st1 := []) rfl (fun H locs hw => ?_)
    refine lv_aload_n hx hb dX2_readPerson_22 rfl (lv_at hl 1 rfl) ?_
    refine va_ldcS hx hb cx.1.2.2.2.1 (cx.2.2.2.2.1 2 (by decide)) dX2_readPerson_23 ?_
    obtain ⟨x7, d8, g9, h⟩ := bd2_ex h
    refine c_V (As := [.ref (gK g 2)]) (rest := []) (w' := (RC g q d8) ++ (VC g q2 d2)) cx hw (c_X2_takesWord l g q N 2 (by decide) d5 x7 d8 g9) (cl_X2_71 cx.1.2.2.2.2 ⟨Nat.le_of_ble_eq_true rfl, Nat.le_of_ble_eq_true rfl⟩) (x_recv cx hw (ci := 2) rfl 0 rfl) (ct_R_V__0_1_2__R_0 g q q2 d5 d2 d8) hl.1 rfl rfl (Nat.le_of_ble_eq_true rfl) dX2_readPerson_25 ⟨Nat.le_of_ble_eq_true rfl, Nat.le_of_ble_eq_true rfl⟩ (st1 := [.int x7]) rfl (fun H locs hw => ?_)
    refine lv_if_eq (tgt := 63) hx hb dX2_readPerson_28 (by decide) (fun c10 => ?_) (fun c10 => ?_)
    · replace h := ite_t c10 h
      exact J63 x1 d8 d2 _ _ _ hw (lv_sub hl [1, 2, 0] rfl) h
    · replace h := ite_f c10 h
      refine lv_aload_n hx hb dX2_readPerson_31 rfl (lv_at hl 1 rfl) ?_
      obtain ⟨x11, g12, h⟩ := bd_ex h
      refine c_V (As := []) (rest := []) (w' := (RC g q d8) ++ (VC g q2 d2)) cx hw (c_X2_lookHere l g q N  d8 x11 g12) (cl_X2_74 cx.1.2.2.2.2 ⟨Nat.le_of_ble_eq_true rfl, Nat.le_of_ble_eq_true rfl⟩) (x_recv cx hw (ci := 2) rfl 0 rfl) (ct_R_V__0_1_2__R g q q2 d8 d2 ) hl.1 rfl rfl (Nat.le_of_ble_eq_true rfl) dX2_readPerson_32 ⟨Nat.le_of_ble_eq_true rfl, Nat.le_of_ble_eq_true rfl⟩ (st1 := [.int x11]) rfl (fun H locs hw => ?_)
      refine lv_istore (lv' := [(4, .int x11), (3, .int x1), (0, .ref (q 0)), (1, .ref (q2 0)), (2, .int p2)]) hx hb dX2_readPerson_35 hl (by decide) rfl (fun ls hl => ?_)
      refine lv_aload_n hx hb dX2_readPerson_37 rfl (lv_at hl 3 rfl) ?_
      refine gf_X2_77 cx hw 3 rfl rfl dX2_readPerson_38 ?_
      refine lv_iload_n hx hb dX2_readPerson_41 rfl (lv_at hl 1 rfl) ?_
      refine lv_iload hx hb dX2_readPerson_42 (lv_at hl 0 rfl) ?_
      have i13 := ck_in h
      replace h := ck_nx h
      refine x_iast cx hw 13 rfl i13 dX2_readPerson_44 (fun H locs hw => ?_)
      obtain ⟨o14, eo14, h⟩ := lt_ex h
      have hw : Wd g (va_A ((RC g q d) ++ (VC g q2 o)) s.heap.size) ((RC g q d8) ++ (VC g q2 o14)) s H locs := by rw [eo14]; exact hw
      refine lv_aload_n hx hb dX2_readPerson_45 rfl (lv_at hl 2 rfl) ?_
      refine lv_iconst (v := 0) hx hb dX2_readPerson_46 (by decide) ?_
      refine lv_iload hx hb dX2_readPerson_47 (lv_at hl 0 rfl) ?_
      refine lv_iconst (v := -1) hx hb dX2_readPerson_49 (by decide) ?_
      refine lv_icmp_ne (tgt := 57) hx hb dX2_readPerson_50 (by decide) (fun c15 => ?_) (fun c15 => ?_)
      · replace h := ite_f c15 h
        refine lv_ldc hx hb cx.1.2.2.2.1 (cx.1.2.2.2.2 _ tw_3_133) dX2_readPerson_57 ?_
        exact J59 x1 (0 : Int32) (999999999 : Int32) d8 o14 _ _ _ hw (lv_sub hl [2, 3, 1] rfl) h
      · replace h := ite_t c15 h
        refine lv_iconst (v := -1) hx hb dX2_readPerson_53 (by decide) ?_
        refine lv_goto (tgt := 59) hx hb dX2_readPerson_54 (by decide) ?_
        exact J59 x1 (0 : Int32) (-1 : Int32) d8 o14 _ _ _ hw (lv_sub hl [2, 3, 1] rfl) h
  · replace h := ite_t c4 h
    refine lv_aload_n hx hb dX2_readPerson_12 rfl (lv_at hl 1 rfl) ?_
    refine lv_iconst (v := 1) hx hb dX2_readPerson_13 (by decide) ?_
    refine pf_X2_22 cx hw 0 rfl rfl rfl (Nat.le_of_ble_eq_true rfl) dX2_readPerson_14 (fun H locs hw => ?_)
    obtain ⟨d16, ed16, h⟩ := lt_ex h
    have hw : Wd g (va_A ((RC g q d) ++ (VC g q2 o)) s.heap.size) ((RC g q d16) ++ (VC g q2 d2)) s H locs := by rw [ed16]; exact hw
    exact r_v cx hr hlocks hw (congr2 (fun z0 z1 => (RC g q z0) ++ (VC g q2 z1)) (pr1 h) (pr2 h)) dX2_readPerson_17
set_option maxHeartbeats 4000000 in
set_option maxRecDepth 100000 in
theorem c_X2_readItem (l : Launch) (g : gE) (q : Nat → Nat) (q2 : Nat → Nat) (N : Nat)  (d : RD) (o : VD) (d' : RD) (o' : VD) (h : f_X2_readItem N  d o = some (d', o')) : MO l yX2_readItem (Cond.code yX2_readItem cX2_readItem 4 none :: TB) rm_X2_readItem [.ref (q 0), .ref (q2 0)] g ((RC g q d) ++ (VC g q2 o)) ((RC g q d') ++ (VC g q2 o')) none 0 0 := by
  refine MO.of (cc := cX2_readItem) (maxL := 4) (ret := none) (by decide) ?_
  intro p e s m below meth c cx hw hr hlocks _
  have hx := cx.1.1
  have hb := cx.1.2.1
  refine en_go (lv := [(0, .ref (q 0)), (1, .ref (q2 0))]) (Nat.le_of_ble_eq_true rfl) rfl (fun ls hl => ?_)
  unfold f_X2_readItem at h
  refine lv_aload_n hx hb dX2_readItem_0 rfl (lv_at hl 0 rfl) ?_
  obtain ⟨x1, g2, h⟩ := bd_ex h
  refine c_V (As := []) (rest := []) (w' := (RC g q d) ++ (VC g q2 o)) cx hw (c_X2_kindHere l g q N  d x1 g2) (cl_X2_39 cx.1.2.2.2.2 ⟨Nat.le_of_ble_eq_true rfl, Nat.le_of_ble_eq_true rfl⟩) (x_recv cx hw (ci := 2) rfl 0 rfl) (ct_R_V__0_1_2__R g q q2 d o ) hl.1 rfl rfl (Nat.le_of_ble_eq_true rfl) dX2_readItem_1 ⟨Nat.le_of_ble_eq_true rfl, Nat.le_of_ble_eq_true rfl⟩ (st1 := [.int x1]) rfl (fun H locs hw => ?_)
  refine lv_istore_n (lv' := [(2, .int x1), (0, .ref (q 0)), (1, .ref (q2 0))]) hx hb dX2_readItem_4 rfl hl (by decide) rfl (fun ls hl => ?_)
  refine lv_iload_n hx hb dX2_readItem_5 rfl (lv_at hl 0 rfl) ?_
  refine lv_iconst (v := -1) hx hb dX2_readItem_6 (by decide) ?_
  refine lv_icmp_eq (tgt := 19) hx hb dX2_readItem_7 (by decide) (fun c3 => ?_) (fun c3 => ?_)
  · replace h := ite_t c3 h
    refine lv_aload_n hx hb dX2_readItem_19 rfl (lv_at hl 1 rfl) ?_
    refine va_ldcS hx hb cx.1.2.2.2.1 (cx.2.2.2.2.1 0 (by decide)) dX2_readItem_20 ?_
    obtain ⟨x4, g5, h⟩ := bd_ex h
    refine c_V (As := [.ref (gK g 0)]) (rest := []) (w' := (RC g q d) ++ (VC g q2 o)) cx hw (c_X2_isWord l g q N 0 (by decide) d x4 g5) (cl_X2_49 cx.1.2.2.2.2 ⟨Nat.le_of_ble_eq_true rfl, Nat.le_of_ble_eq_true rfl⟩) (x_recv cx hw (ci := 2) rfl 0 rfl) (ct_R_V__0_1_2__R g q q2 d o ) hl.1 rfl rfl (Nat.le_of_ble_eq_true rfl) dX2_readItem_22 ⟨Nat.le_of_ble_eq_true rfl, Nat.le_of_ble_eq_true rfl⟩ (st1 := [.int x4]) rfl (fun H locs hw => ?_)
    refine lv_if_eq (tgt := 36) hx hb dX2_readItem_25 (by decide) (fun c6 => ?_) (fun c6 => ?_)
    · replace h := ite_t c6 h
      refine lv_aload_n hx hb dX2_readItem_36 rfl (lv_at hl 1 rfl) ?_
      refine va_ldcS hx hb cx.1.2.2.2.1 (cx.2.2.2.2.1 1 (by decide)) dX2_readItem_37 ?_
      obtain ⟨x7, g8, h⟩ := bd_ex h
      refine c_V (As := [.ref (gK g 1)]) (rest := []) (w' := (RC g q d) ++ (VC g q2 o)) cx hw (c_X2_isWord l g q N 1 (by decide) d x7 g8) (cl_X2_49 cx.1.2.2.2.2 ⟨Nat.le_of_ble_eq_true rfl, Nat.le_of_ble_eq_true rfl⟩) (x_recv cx hw (ci := 2) rfl 0 rfl) (ct_R_V__0_1_2__R g q q2 d o ) hl.1 rfl rfl (Nat.le_of_ble_eq_true rfl) dX2_readItem_39 ⟨Nat.le_of_ble_eq_true rfl, Nat.le_of_ble_eq_true rfl⟩ (st1 := [.int x7]) rfl (fun H locs hw => ?_)
      refine lv_if_eq (tgt := 71) hx hb dX2_readItem_42 (by decide) (fun c9 => ?_) (fun c9 => ?_)
      · replace h := ite_t c9 h
        refine lv_aload_n hx hb dX2_readItem_71 rfl (lv_at hl 1 rfl) ?_
        refine lv_iconst (v := 1) hx hb dX2_readItem_72 (by decide) ?_
        refine pf_X2_22 cx hw 0 rfl rfl rfl (Nat.le_of_ble_eq_true rfl) dX2_readItem_73 (fun H locs hw => ?_)
        obtain ⟨d10, ed10, h⟩ := lt_ex h
        have hw : Wd g (va_A ((RC g q d) ++ (VC g q2 o)) s.heap.size) ((RC g q d10) ++ (VC g q2 o)) s H locs := by rw [ed10]; exact hw
        exact r_v cx hr hlocks hw (congr2 (fun z0 z1 => (RC g q z0) ++ (VC g q2 z1)) (pr1 h) (pr2 h)) dX2_readItem_76
      · replace h := ite_f c9 h
        refine lv_aload_n hx hb dX2_readItem_45 rfl (lv_at hl 1 rfl) ?_
        obtain ⟨d11, g12, h⟩ := bd_ex h
        refine c_V (As := []) (rest := []) (w' := (RC g q d11) ++ (VC g q2 o)) cx hw (c_X2_nextToken l g q N  d d11 g12) (cl_X2_26 cx.1.2.2.2.2 ⟨Nat.le_of_ble_eq_true rfl, Nat.le_of_ble_eq_true rfl⟩) (x_recv cx hw (ci := 2) rfl 0 rfl) (ct_R_V__0_1_2__R_0 g q q2 d o d11) hl.1 rfl rfl (Nat.le_of_ble_eq_true rfl) dX2_readItem_46 ⟨Nat.le_of_ble_eq_true rfl, Nat.le_of_ble_eq_true rfl⟩ (st1 := []) rfl (fun H locs hw => ?_)
        refine lv_aload_n hx hb dX2_readItem_49 rfl (lv_at hl 1 rfl) ?_
        refine lv_iconst (v := 0) hx hb dX2_readItem_50 (by decide) ?_
        refine lv_iconst (v := 2) hx hb dX2_readItem_51 (by decide) ?_
        obtain ⟨x13, d14, g15, h⟩ := bd2_ex h
        refine c_V (As := [.int (0 : Int32), .int (2 : Int32)]) (rest := []) (w' := (RC g q d14) ++ (VC g q2 o)) cx hw (c_X2_takeNumber l g q N (0 : Int32) (2 : Int32) d11 x13 d14 g15) (cl_X2_58 cx.1.2.2.2.2 ⟨Nat.le_of_ble_eq_true rfl, Nat.le_of_ble_eq_true rfl⟩) (x_recv cx hw (ci := 2) rfl 0 rfl) (ct_R_V__0_1_2__R_0 g q q2 d11 o d14) hl.1 rfl rfl (Nat.le_of_ble_eq_true rfl) dX2_readItem_52 ⟨Nat.le_of_ble_eq_true rfl, Nat.le_of_ble_eq_true rfl⟩ (st1 := [.int x13]) rfl (fun H locs hw => ?_)
        refine lv_istore_n (lv' := [(3, .int x13), (2, .int x1), (0, .ref (q 0)), (1, .ref (q2 0))]) hx hb dX2_readItem_55 rfl hl (by decide) rfl (fun ls hl => ?_)
        refine lv_aload_n hx hb dX2_readItem_56 rfl (lv_at hl 2 rfl) ?_
        refine gf_X2_22 cx hw 0 rfl rfl dX2_readItem_57 ?_
        refine lv_if_ne (tgt := 68) hx hb dX2_readItem_60 (by decide) (fun c16 => ?_) (fun c16 => ?_)
        · replace h := ite_f c16 h
          refine lv_goto (tgt := 76) hx hb dX2_readItem_68 (by decide) ?_
          exact r_v cx hr hlocks hw (congr2 (fun z0 z1 => (RC g q z0) ++ (VC g q2 z1)) (pr1 h) (pr2 h)) dX2_readItem_76
        · replace h := ite_t c16 h
          refine lv_aload_n hx hb dX2_readItem_63 rfl (lv_at hl 3 rfl) ?_
          refine lv_iload_n hx hb dX2_readItem_64 rfl (lv_at hl 0 rfl) ?_
          refine pf_X2_62 cx hw 3 rfl rfl rfl (Nat.le_of_ble_eq_true rfl) dX2_readItem_65 (fun H locs hw => ?_)
          obtain ⟨o17, eo17, h⟩ := lt_ex h
          have hw : Wd g (va_A ((RC g q d) ++ (VC g q2 o)) s.heap.size) ((RC g q d14) ++ (VC g q2 o17)) s H locs := by rw [eo17]; exact hw
          refine lv_goto (tgt := 76) hx hb dX2_readItem_68 (by decide) ?_
          exact r_v cx hr hlocks hw (congr2 (fun z0 z1 => (RC g q z0) ++ (VC g q2 z1)) (pr1 h) (pr2 h)) dX2_readItem_76
    · replace h := ite_f c6 h
      refine lv_aload_n hx hb dX2_readItem_28 rfl (lv_at hl 1 rfl) ?_
      refine lv_aload_n hx hb dX2_readItem_29 rfl (lv_at hl 2 rfl) ?_
      obtain ⟨d18, o19, g20, h⟩ := bd2_ex h
      refine c_V (As := [.ref (q2 0)]) (rest := []) (w' := (RC g q d18) ++ (VC g q2 o19)) cx hw (c_X2_readMark l g q q2 N  d o d18 o19 g20) (cl_X2_53 cx.1.2.2.2.2 ⟨Nat.le_of_ble_eq_true rfl, Nat.le_of_ble_eq_true rfl⟩) (x_recv cx hw (ci := 2) rfl 0 rfl) (Ct.all (RV_ll ..)) hl.1 rfl rfl (Nat.le_of_ble_eq_true rfl) dX2_readItem_30 ⟨Nat.le_of_ble_eq_true rfl, Nat.le_of_ble_eq_true rfl⟩ (st1 := []) rfl (fun H locs hw => ?_)
      refine lv_goto (tgt := 76) hx hb dX2_readItem_33 (by decide) ?_
      exact r_v cx hr hlocks hw (congr2 (fun z0 z1 => (RC g q z0) ++ (VC g q2 z1)) (pr1 h) (pr2 h)) dX2_readItem_76
  · replace h := ite_f c3 h
    refine lv_aload_n hx hb dX2_readItem_10 rfl (lv_at hl 1 rfl) ?_
    refine lv_aload_n hx hb dX2_readItem_11 rfl (lv_at hl 2 rfl) ?_
    refine lv_iload_n hx hb dX2_readItem_12 rfl (lv_at hl 0 rfl) ?_
    obtain ⟨d21, o22, g23, h⟩ := bd2_ex h
    refine c_V (As := [.ref (q2 0), .int x1]) (rest := []) (w' := (RC g q d21) ++ (VC g q2 o22)) cx hw (c_X2_readPerson l g q q2 N x1 d o d21 o22 g23) (cl_X2_43 cx.1.2.2.2.2 ⟨Nat.le_of_ble_eq_true rfl, Nat.le_of_ble_eq_true rfl⟩) (x_recv cx hw (ci := 2) rfl 0 rfl) (Ct.all (RV_ll ..)) hl.1 rfl rfl (Nat.le_of_ble_eq_true rfl) dX2_readItem_13 ⟨Nat.le_of_ble_eq_true rfl, Nat.le_of_ble_eq_true rfl⟩ (st1 := []) rfl (fun H locs hw => ?_)
    refine lv_goto (tgt := 76) hx hb dX2_readItem_16 (by decide) ?_
    exact r_v cx hr hlocks hw (congr2 (fun z0 z1 => (RC g q z0) ++ (VC g q2 z1)) (pr1 h) (pr2 h)) dX2_readItem_76
set_option maxHeartbeats 4000000 in
set_option maxRecDepth 100000 in
theorem c_X2_readItems (l : Launch) (g : gE) (q : Nat → Nat) (q2 : Nat → Nat) (N : Nat)  (d : RD) (o : VD) (r : Int32) (d' : RD) (o' : VD) (h : f_X2_readItems N  d o = some (r, d', o')) : MO l yX2_readItems (Cond.code yX2_readItems cX2_readItems 3 (some .int) :: TB) rm_X2_readItems [.ref (q 0), .ref (q2 0)] g ((RC g q d) ++ (VC g q2 o)) ((RC g q d') ++ (VC g q2 o')) (some (.int r)) 0 0 := by
  refine MO.of (cc := cX2_readItems) (maxL := 3) (ret := (some .int)) (by decide) ?_
  intro p e s m below meth c cx hw hr hlocks _
  have hx := cx.1.1
  have hb := cx.1.2.1
  refine en_go (lv := [(0, .ref (q 0)), (1, .ref (q2 0))]) (Nat.le_of_ble_eq_true rfl) rfl (fun ls hl => ?_)
  have L16 : ∀ (n16 : Nat) (a2 : Int32) (d_ : RD) (o_ : VD) (H : Heap) (locs : List Loc) (ls : Array Slot), Wd g (va_A ((RC g q d) ++ (VC g q2 o)) s.heap.size) ((RC g q d_) ++ (VC g q2 o_)) s H locs → lv_has ls 3 [(0, .ref (q 0)), (1, .ref (q2 0)), (2, .int a2)] → f_X2_readItems_L16 N   n16 a2 d_ o_ = some (r, d', o') → W p l e rm_X2_readItems s m ([.ref (q 0), .ref (q2 0)] : List Value).toArray below meth c H locs 0 0 (MQ below (QO (some (.int r)) g ((RC g q d') ++ (VC g q2 o')) (va_A ((RC g q d) ++ (VC g q2 o)) s.heap.size)) ([.ref (q 0), .ref (q2 0)] : List Value).toArray s 0 0 (va_A ((RC g q d) ++ (VC g q2 o)) s.heap.size)) (F0 m 16 ls []) := by
    intro n16
    induction n16 with
    | zero => intro a2 d_ o_ H locs ls hw hl h; exact (Option.some_ne_none _ h.symm).elim
    | succ n16 ih16 =>
      have J43 : ∀ (a2 : Int32) (d_ : RD) (o_ : VD) (H : Heap) (locs : List Loc) (ls : Array Slot), Wd g (va_A ((RC g q d) ++ (VC g q2 o)) s.heap.size) ((RC g q d_) ++ (VC g q2 o_)) s H locs → lv_has ls 3 [(0, .ref (q 0)), (1, .ref (q2 0)), (2, .int a2)] → f_X2_readItems_J43 N  (f_X2_readItems_L16 N   n16) a2 d_ o_ = some (r, d', o') → W p l e rm_X2_readItems s m ([.ref (q 0), .ref (q2 0)] : List Value).toArray below meth c H locs 0 0 (MQ below (QO (some (.int r)) g ((RC g q d') ++ (VC g q2 o')) (va_A ((RC g q d) ++ (VC g q2 o)) s.heap.size)) ([.ref (q 0), .ref (q2 0)] : List Value).toArray s 0 0 (va_A ((RC g q d) ++ (VC g q2 o)) s.heap.size)) (F0 m 43 ls []) := by
        intro a2 d_ o_ H locs ls hw hl h
        unfold f_X2_readItems_J43 at h
        refine lv_aload_n hx hb dX2_readItems_43 rfl (lv_at hl 0 rfl) ?_
        refine gf_X2_22 cx hw 0 rfl rfl dX2_readItems_44 ?_
        refine lv_if_ne (tgt := 58) hx hb dX2_readItems_47 (by decide) (fun c16 => ?_) (fun c16 => ?_)
        · replace h := ite_f c16 h
          refine lv_iconst (v := -1) hx hb dX2_readItems_58 (by decide) ?_
          refine lv_aload_n hx hb dX2_readItems_59 rfl (lv_at hl 0 rfl) ?_
          refine gf_X2_36 cx hw 0 rfl rfl dX2_readItems_60 ?_
          refine lv_isub hx hb dX2_readItems_63 ?_
          exact r_i cx hr hlocks hw (pr1 h) (congr2 (fun z0 z1 => (RC g q z0) ++ (VC g q2 z1)) (p3b h) (p3c h)) dX2_readItems_64
        · replace h := ite_t c16 h
          refine lv_aload_n hx hb dX2_readItems_50 rfl (lv_at hl 0 rfl) ?_
          refine gf_X2_33 cx hw 0 rfl rfl dX2_readItems_51 ?_
          refine lv_iconst (v := 3) hx hb dX2_readItems_54 (by decide) ?_
          refine lv_icmp_eq (tgt := 65) hx hb dX2_readItems_55 (by decide) (fun c17 => ?_) (fun c17 => ?_)
          · replace h := ite_t c17 h
            refine lv_aload_n hx hb dX2_readItems_65 rfl (lv_at hl 0 rfl) ?_
            obtain ⟨d18, g19, h⟩ := bd_ex h
            refine c_V (As := []) (rest := []) (w' := (RC g q d18) ++ (VC g q2 o_)) cx hw (c_X2_nextToken l g q N  d_ d18 g19) (cl_X2_26 cx.1.2.2.2.2 ⟨Nat.le_of_ble_eq_true rfl, Nat.le_of_ble_eq_true rfl⟩) (x_recv cx hw (ci := 2) rfl 0 rfl) (ct_R_V__0_1_2__R_0 g q q2 d_ o_ d18) hl.1 rfl rfl (Nat.le_of_ble_eq_true rfl) dX2_readItems_66 ⟨Nat.le_of_ble_eq_true rfl, Nat.le_of_ble_eq_true rfl⟩ (st1 := []) rfl (fun H locs hw => ?_)
            obtain ⟨x20, ex20⟩ : ∃ y : Int32, y = (a2 + 1) := ⟨_, rfl⟩
            replace h := lt_nx ex20 h
            refine lv_iinc (v := x20) (lv' := [(2, .int x20), (0, .ref (q 0)), (1, .ref (q2 0))]) hx hb dX2_readItems_69 hl (k := 2) rfl (by rw [ex20]; rfl) (by decide) rfl (fun ls hl => ?_)
            refine lv_goto (tgt := 16) hx hb dX2_readItems_72 (by decide) ?_
            exact ih16 x20 d18 o_ _ _ _ hw (lv_sub hl [1, 2, 0] rfl) h
          · replace h := ite_f c17 h
            refine lv_iconst (v := -1) hx hb dX2_readItems_58 (by decide) ?_
            refine lv_aload_n hx hb dX2_readItems_59 rfl (lv_at hl 0 rfl) ?_
            refine gf_X2_36 cx hw 0 rfl rfl dX2_readItems_60 ?_
            refine lv_isub hx hb dX2_readItems_63 ?_
            exact r_i cx hr hlocks hw (pr1 h) (congr2 (fun z0 z1 => (RC g q z0) ++ (VC g q2 z1)) (p3b h) (p3c h)) dX2_readItems_64
      intro a2 d_ o_ H locs ls hw hl h
      rw [f_X2_readItems_L16] at h
      refine lv_iload_n hx hb dX2_readItems_16 rfl (lv_at hl 2 rfl) ?_
      refine lv_bipush (v := 120) hx hb dX2_readItems_17 (by decide) ?_
      refine lv_icmp_gt (tgt := 75) hx hb dX2_readItems_19 (by decide) (fun c21 => ?_) (fun c21 => ?_)
      · replace h := ite_t c21 h
        refine lv_iconst (v := -1) hx hb dX2_readItems_75 (by decide) ?_
        refine lv_aload_n hx hb dX2_readItems_76 rfl (lv_at hl 0 rfl) ?_
        refine gf_X2_36 cx hw 0 rfl rfl dX2_readItems_77 ?_
        refine lv_isub hx hb dX2_readItems_80 ?_
        exact r_i cx hr hlocks hw (pr1 h) (congr2 (fun z0 z1 => (RC g q z0) ++ (VC g q2 z1)) (p3b h) (p3c h)) dX2_readItems_81
      · replace h := ite_f c21 h
        refine lv_aload_n hx hb dX2_readItems_22 rfl (lv_at hl 0 rfl) ?_
        refine lv_aload_n hx hb dX2_readItems_23 rfl (lv_at hl 1 rfl) ?_
        obtain ⟨d22, o23, g24, h⟩ := bd2_ex h
        refine c_V (As := [.ref (q2 0)]) (rest := []) (w' := (RC g q d22) ++ (VC g q2 o23)) cx hw (c_X2_readItem l g q q2 N  d_ o_ d22 o23 g24) (cl_X2_29 cx.1.2.2.2.2 ⟨Nat.le_of_ble_eq_true rfl, Nat.le_of_ble_eq_true rfl⟩) (x_recv cx hw (ci := 2) rfl 0 rfl) (Ct.all (RV_ll ..)) hl.1 rfl rfl (Nat.le_of_ble_eq_true rfl) dX2_readItems_24 ⟨Nat.le_of_ble_eq_true rfl, Nat.le_of_ble_eq_true rfl⟩ (st1 := []) rfl (fun H locs hw => ?_)
        refine lv_aload_n hx hb dX2_readItems_27 rfl (lv_at hl 0 rfl) ?_
        refine gf_X2_22 cx hw 0 rfl rfl dX2_readItems_28 ?_
        refine lv_if_ne (tgt := 43) hx hb dX2_readItems_31 (by decide) (fun c25 => ?_) (fun c25 => ?_)
        · replace h := ite_f c25 h
          exact J43 a2 d22 o23 _ _ _ hw (lv_sub hl [0, 1, 2] rfl) h
        · replace h := ite_t c25 h
          refine lv_aload_n hx hb dX2_readItems_34 rfl (lv_at hl 0 rfl) ?_
          refine gf_X2_33 cx hw 0 rfl rfl dX2_readItems_35 ?_
          refine lv_if_ne (tgt := 43) hx hb dX2_readItems_38 (by decide) (fun c26 => ?_) (fun c26 => ?_)
          · replace h := ite_f c26 h
            exact J43 a2 d22 o23 _ _ _ hw (lv_sub hl [0, 1, 2] rfl) h
          · replace h := ite_t c26 h
            refine lv_iload_n hx hb dX2_readItems_41 rfl (lv_at hl 2 rfl) ?_
            exact r_i cx hr hlocks hw (pr1 h) (congr2 (fun z0 z1 => (RC g q z0) ++ (VC g q2 z1)) (p3b h) (p3c h)) dX2_readItems_42
  unfold f_X2_readItems at h
  refine lv_aload_n hx hb dX2_readItems_0 rfl (lv_at hl 0 rfl) ?_
  refine lv_iconst (v := 0) hx hb dX2_readItems_1 (by decide) ?_
  refine pf_X2_18 cx hw 0 rfl rfl rfl (Nat.le_of_ble_eq_true rfl) dX2_readItems_2 (fun H locs hw => ?_)
  obtain ⟨d1, ed1, h⟩ := lt_ex h
  have hw : Wd g (va_A ((RC g q d) ++ (VC g q2 o)) s.heap.size) ((RC g q d1) ++ (VC g q2 o)) s H locs := by rw [ed1]; exact hw
  refine lv_aload_n hx hb dX2_readItems_5 rfl (lv_at hl 0 rfl) ?_
  refine lv_iconst (v := 0) hx hb dX2_readItems_6 (by decide) ?_
  refine pf_X2_22 cx hw 0 rfl rfl rfl (Nat.le_of_ble_eq_true rfl) dX2_readItems_7 (fun H locs hw => ?_)
  obtain ⟨d2, ed2, h⟩ := lt_ex h
  have hw : Wd g (va_A ((RC g q d) ++ (VC g q2 o)) s.heap.size) ((RC g q d2) ++ (VC g q2 o)) s H locs := by rw [ed2]; exact hw
  refine lv_aload_n hx hb dX2_readItems_10 rfl (lv_at hl 0 rfl) ?_
  obtain ⟨d3, g4, h⟩ := bd_ex h
  refine c_V (As := []) (rest := []) (w' := (RC g q d3) ++ (VC g q2 o)) cx hw (c_X2_nextToken l g q N  d2 d3 g4) (cl_X2_26 cx.1.2.2.2.2 ⟨Nat.le_of_ble_eq_true rfl, Nat.le_of_ble_eq_true rfl⟩) (x_recv cx hw (ci := 2) rfl 0 rfl) (ct_R_V__0_1_2__R_0 g q q2 d2 o d3) hl.1 rfl rfl (Nat.le_of_ble_eq_true rfl) dX2_readItems_11 ⟨Nat.le_of_ble_eq_true rfl, Nat.le_of_ble_eq_true rfl⟩ (st1 := []) rfl (fun H locs hw => ?_)
  refine lv_iconst (v := 1) hx hb dX2_readItems_14 (by decide) ?_
  refine lv_istore_n (lv' := [(2, .int (1 : Int32)), (0, .ref (q 0)), (1, .ref (q2 0))]) hx hb dX2_readItems_15 rfl hl (by decide) rfl (fun ls hl => ?_)
  exact L16 N (1 : Int32) d3 o _ _ _ hw (lv_sub hl [1, 2, 0] rfl) h
set_option maxHeartbeats 4000000 in
set_option maxRecDepth 100000 in
theorem c_X4_valley (l : Launch) (g : gE) (q : Nat → Nat) (N : Nat)  (d : XD) (r : Int32) (d' : XD) (h : f_X4_valley N  d = some (r, d')) : MO l yX4_valley (Cond.code yX4_valley cX4_valley 2 (some .int) :: TB) rm_X4_valley [.ref (q 0)] g ((XC g q d)) ((XC g q d')) (some (.int r)) 0 0 := by
  refine MO.of (cc := cX4_valley) (maxL := 2) (ret := (some .int)) (by decide) ?_
  intro p e s m below meth c cx hw hr hlocks _
  have hx := cx.1.1
  have hb := cx.1.2.1
  refine en_go (lv := [(0, .ref (q 0))]) (Nat.le_of_ble_eq_true rfl) rfl (fun ls hl => ?_)
  unfold f_X4_valley at h
  refine lv_aload_n hx hb dX4_valley_0 rfl (lv_at hl 0 rfl) ?_
  refine gf_X4_19 cx hw 0 rfl rfl dX4_valley_1 ?_
  refine lv_aload_n hx hb dX4_valley_4 rfl (lv_at hl 0 rfl) ?_
  refine gf_X4_12 cx hw 0 rfl rfl dX4_valley_5 ?_
  obtain ⟨d1, g2, h⟩ := bd_ex h
  refine c_V (As := [.ref (qs 1 q 0)]) (rest := []) (w' := (XC g q (x_set_trial d d1))) cx hw (c_X3_takeFrom l g (qs 27 q) (qs 1 q) N  (x_trial d) (x_valley d) d1 g2) (cl_X4_164 cx.1.2.2.2.2 ⟨Nat.le_of_ble_eq_true rfl, Nat.le_of_ble_eq_true rfl⟩) (x_recv cx hw (ci := 3) rfl 27 rfl) (ct_X__27_28_29_30_31_32_33_34_35_36_37_38_39_1_2_3_4_5_6_7_8_9_10_11_12_13__V_V_0 g q d d1) hl.1 rfl rfl (Nat.le_of_ble_eq_true rfl) dX4_valley_8 ⟨Nat.le_of_ble_eq_true rfl, Nat.le_of_ble_eq_true rfl⟩ (st1 := []) rfl (fun H locs hw => ?_)
  obtain ⟨d3, ed3, h⟩ := lt_ex h
  have hw : Wd g (va_A ((XC g q d)) s.heap.size) ((XC g q d3)) s H locs := by rw [ed3]; exact hw
  refine lv_aload_n hx hb dX4_valley_11 rfl (lv_at hl 0 rfl) ?_
  refine gf_X4_25 cx hw 0 rfl rfl dX4_valley_12 ?_
  refine lv_aload_n hx hb dX4_valley_15 rfl (lv_at hl 0 rfl) ?_
  refine gf_X4_19 cx hw 0 rfl rfl dX4_valley_16 ?_
  obtain ⟨x4, d5, o6, g7, h⟩ := bd3_ex h
  refine c_V (As := [.ref (qs 27 q 0)]) (rest := []) (w' := (XC g q (x_set_trial (x_set_reader d3 d5) o6))) cx hw (c_X2_readItems l g (qs 40 q) (qs 27 q) N  (x_reader d3) (x_trial d3) x4 d5 o6 g7) (cl_X4_215 cx.1.2.2.2.2 ⟨Nat.le_of_ble_eq_true rfl, Nat.le_of_ble_eq_true rfl⟩) (x_recv cx hw (ci := 2) rfl 40 rfl) (ct_X__40_41_42_27_28_29_30_31_32_33_34_35_36_37_38_39__R_V_01 g q d3 d5 o6) hl.1 rfl rfl (Nat.le_of_ble_eq_true rfl) dX4_valley_19 ⟨Nat.le_of_ble_eq_true rfl, Nat.le_of_ble_eq_true rfl⟩ (st1 := [.int x4]) rfl (fun H locs hw => ?_)
  obtain ⟨d8, ed8, h⟩ := lt_ex h
  have hw : Wd g (va_A ((XC g q d)) s.heap.size) ((XC g q d8)) s H locs := by rw [ed8]; exact hw
  refine lv_istore_n (lv' := [(1, .int x4), (0, .ref (q 0))]) hx hb dX4_valley_22 rfl hl (by decide) rfl (fun ls hl => ?_)
  refine lv_iload_n hx hb dX4_valley_23 rfl (lv_at hl 0 rfl) ?_
  refine lv_if_le (tgt := 38) hx hb dX4_valley_24 (by decide) (fun c9 => ?_) (fun c9 => ?_)
  · replace h := ite_t c9 h
    refine lv_aload_n hx hb dX4_valley_38 rfl (lv_at hl 1 rfl) ?_
    refine gf_X4_25 cx hw 0 rfl rfl dX4_valley_39 ?_
    refine gf_X4_195 cx hw 40 rfl rfl dX4_valley_42 ?_
    obtain ⟨x10, d11, g12, h⟩ := bd2_ex h
    refine c_V (As := []) (rest := []) (w' := (XC g q (x_set_reader d8 (r_set_tape (x_reader d8) d11)))) cx hw (c_X1_clear l g (qs 1 (qs 40 q)) N  (r_tape (x_reader d8)) x10 d11 g12) (cl_X4_211 cx.1.2.2.2.2 ⟨Nat.le_of_ble_eq_true rfl, Nat.le_of_ble_eq_true rfl⟩) (x_recv cx hw (ci := 1) rfl 41 rfl) (ct_X__41_42__T_0 g q d8 d11) hl.1 rfl rfl (Nat.le_of_ble_eq_true rfl) dX4_valley_45 ⟨Nat.le_of_ble_eq_true rfl, Nat.le_of_ble_eq_true rfl⟩ (st1 := [.int x10]) rfl (fun H locs hw => ?_)
    obtain ⟨d13, ed13, h⟩ := lt_ex h
    have hw : Wd g (va_A ((XC g q d)) s.heap.size) ((XC g q d13)) s H locs := by rw [ed13]; exact hw
    refine lv_pop hx hb dX4_valley_48 rfl ?_
    refine lv_iload_n hx hb dX4_valley_49 rfl (lv_at hl 0 rfl) ?_
    exact r_i cx hr hlocks hw (pr1 h) (congrArg (fun z0 => (XC g q z0)) (pr2 h)) dX4_valley_50
  · replace h := ite_f c9 h
    refine lv_aload_n hx hb dX4_valley_27 rfl (lv_at hl 1 rfl) ?_
    refine gf_X4_12 cx hw 0 rfl rfl dX4_valley_28 ?_
    refine lv_aload_n hx hb dX4_valley_31 rfl (lv_at hl 1 rfl) ?_
    refine gf_X4_19 cx hw 0 rfl rfl dX4_valley_32 ?_
    obtain ⟨d14, g15, h⟩ := bd_ex h
    refine c_V (As := [.ref (qs 27 q 0)]) (rest := []) (w' := (XC g q (x_set_valley d8 d14))) cx hw (c_X3_takeFrom l g (qs 1 q) (qs 27 q) N  (x_valley d8) (x_trial d8) d14 g15) (cl_X4_164 cx.1.2.2.2.2 ⟨Nat.le_of_ble_eq_true rfl, Nat.le_of_ble_eq_true rfl⟩) (x_recv cx hw (ci := 3) rfl 1 rfl) (ct_X__1_2_3_4_5_6_7_8_9_10_11_12_13_27_28_29_30_31_32_33_34_35_36_37_38_39__V_V_0 g q d8 d14) hl.1 rfl rfl (Nat.le_of_ble_eq_true rfl) dX4_valley_35 ⟨Nat.le_of_ble_eq_true rfl, Nat.le_of_ble_eq_true rfl⟩ (st1 := []) rfl (fun H locs hw => ?_)
    obtain ⟨d16, ed16, h⟩ := lt_ex h
    have hw : Wd g (va_A ((XC g q d)) s.heap.size) ((XC g q d16)) s H locs := by rw [ed16]; exact hw
    refine lv_aload_n hx hb dX4_valley_38 rfl (lv_at hl 1 rfl) ?_
    refine gf_X4_25 cx hw 0 rfl rfl dX4_valley_39 ?_
    refine gf_X4_195 cx hw 40 rfl rfl dX4_valley_42 ?_
    obtain ⟨x17, d18, g19, h⟩ := bd2_ex h
    refine c_V (As := []) (rest := []) (w' := (XC g q (x_set_reader d16 (r_set_tape (x_reader d16) d18)))) cx hw (c_X1_clear l g (qs 1 (qs 40 q)) N  (r_tape (x_reader d16)) x17 d18 g19) (cl_X4_211 cx.1.2.2.2.2 ⟨Nat.le_of_ble_eq_true rfl, Nat.le_of_ble_eq_true rfl⟩) (x_recv cx hw (ci := 1) rfl 41 rfl) (ct_X__41_42__T_0 g q d16 d18) hl.1 rfl rfl (Nat.le_of_ble_eq_true rfl) dX4_valley_45 ⟨Nat.le_of_ble_eq_true rfl, Nat.le_of_ble_eq_true rfl⟩ (st1 := [.int x17]) rfl (fun H locs hw => ?_)
    obtain ⟨d20, ed20, h⟩ := lt_ex h
    have hw : Wd g (va_A ((XC g q d)) s.heap.size) ((XC g q d20)) s H locs := by rw [ed20]; exact hw
    refine lv_pop hx hb dX4_valley_48 rfl ?_
    refine lv_iload_n hx hb dX4_valley_49 rfl (lv_at hl 0 rfl) ?_
    exact r_i cx hr hlocks hw (pr1 h) (congrArg (fun z0 => (XC g q z0)) (pr2 h)) dX4_valley_50
