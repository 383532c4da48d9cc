def f_X4_kind_L48 (N : Nat)   : Nat → Int32 → Int32 → Int32 → Int32 → Int32 → XD → Option (Int32 × XD)
  | 0, _, _, _, _, _, _ => none
  | n48 + 1, a1, a2, a3, a4, a5, d_ =>
  if (5 : Int32) < a5 then
    some (a3, d_)
  else
    (f_X3_takeFrom N (x_trial d_) (x_valley d_)).bind fun d20 =>
    lt (x_set_trial d_ d20) fun d22 =>
    (ck a1 12).bind fun _ =>
    lt (x_set_trial d22 (v_set_kinds (x_trial d22) (upd (v_kinds (x_trial d22)) (a1).toNatClampNeg a5))) fun d24 =>
    bd2 (f_X3_goYears N a2 (x_trial d24)) fun x25 d26 =>
    lt (x_set_trial d24 d26) fun d28 =>
    (rd (v_goods (x_trial d28)) 12 a1).bind fun x29 =>
    if x29 ≤ a4 then
      lt (a5 + 1) fun x31 =>
      f_X4_kind_L48 N   n48 a1 a2 a3 a4 x31 d28
    else
      (rd (v_goods (x_trial d28)) 12 a1).bind fun x32 =>
      lt (a5 + 1) fun x33 =>
      f_X4_kind_L48 N   n48 a1 a2 a5 x32 x33 d28
def f_X4_kind (N : Nat)  (p1 : Int32) (p2 : Int32) (d : XD) : Option (Int32 × XD) :=
  (f_X4_isOne N p1 d).bind fun x1 =>
  if x1 = 0 then
    bd2 (f_X4_tell N (-1000000001 : Int32) d) fun x4 d5 =>
    some (x4, d5)
  else
    (f_X4_isWithin N p2 (1 : Int32) (100 : Int32)).bind fun x7 =>
    if x7 = 0 then
      bd2 (f_X4_tell N (-1000000001 : Int32) d) fun x16 d17 =>
      some (x16, d17)
    else
      (f_X4_isTooLate N p2 d).bind fun x10 =>
      if x10 = 0 then
        f_X4_kind_L48 N   N p1 p2 (0 : Int32) (-1 : Int32) (0 : Int32) d
      else
        bd2 (f_X4_tell N (-1000000005 : Int32) d) fun x13 d14 =>
        some (x13, d14)
def f_X4_fair_J105 (N : Nat)  (K40 : Int32 → Int32 → Int32 → Int32 → XD → Option (Int32 × XD)) (a1 : Int32) (a2 : Int32) (a3 : Int32) (a4 : Int32) (t0 : Int32) (d_ : XD) : Option (Int32 × XD) :=
  if a3 ≤ t0 then
    lt (a4 + 1) fun x27 =>
    K40 a1 a2 a3 x27 d_
  else
    lt (a4 + 1) fun x28 =>
    K40 a1 a4 t0 x28 d_
def f_X4_fair_L40 (N : Nat)   : Nat → Int32 → Int32 → Int32 → Int32 → XD → Option (Int32 × XD)
  | 0, _, _, _, _, _ => none
  | n40 + 1, a1, a2, a3, a4, d_ =>
  if (2 : Int32) < a4 then
    some (a2, d_)
  else
    (f_X3_takeFrom N (x_trial d_) (x_valley d_)).bind fun d14 =>
    lt (x_set_trial d_ d14) fun d16 =>
    lt (x_set_trial d16 (v_set_law (x_trial d16) a4)) fun d17 =>
    bd2 (f_X3_goYears N a1 (x_trial d17)) fun x18 d19 =>
    lt (x_set_trial d17 d19) fun d21 =>
    (f_X3_richestBut N (-1 : Int32) (x_trial d21)).bind fun x22 =>
    if x22 = (-1 : Int32) then
      f_X4_fair_J105 N  (f_X4_fair_L40 N   n40) a1 a2 a3 a4 (0 : Int32) d21
    else
      (rd (v_goods (x_trial d21)) 12 x22).bind fun x25 =>
      f_X4_fair_J105 N  (f_X4_fair_L40 N   n40) a1 a2 a3 a4 x25 d21
def f_X4_fair (N : Nat)  (p1 : Int32) (d : XD) : Option (Int32 × XD) :=
  (f_X4_isWithin N p1 (1 : Int32) (100 : Int32)).bind fun x1 =>
  if x1 = 0 then
    bd2 (f_X4_tell N (-1000000001 : Int32) d) fun x10 d11 =>
    some (x10, d11)
  else
    (f_X4_isTooLate N p1 d).bind fun x4 =>
    if x4 = 0 then
      f_X4_fair_L40 N   N p1 (0 : Int32) (1000000 : Int32) (0 : Int32) d
    else
      bd2 (f_X4_tell N (-1000000005 : Int32) d) fun x7 d8 =>
      some (x7, d8)
def f_X4_ways_L79 (N : Nat)  (K70 : Int32 → Int32 → Int32 → Int32 → Int32 → Int32 → XD → Option (Int32 × XD)) : Nat → Int32 → Int32 → Int32 → Int32 → Int32 → Int32 → Int32 → XD → Option (Int32 × XD)
  | 0, _, _, _, _, _, _, _, _ => none
  | n79 + 1, a1, a2, a3, a4, a5, a6, a7, d_ =>
  if a3 < a7 then
    lt (a6 + 1) fun x21 =>
    K70 a1 a2 a3 a4 a5 x21 d_
  else
    (ck a1 13).bind fun _ =>
    lt (x_set_trial d_ (v_set_looks (x_trial d_) (upd (v_looks (x_trial d_)) (a1).toNatClampNeg ((a4 ||| a6) ||| (a7 <<< ((9 : Int32) &&& 31)))))) fun d23 =>
    (f_X3_heirFor N a1 (x_trial d23)).bind fun x24 =>
    if x24 = a2 then
      lt (a5 + 1) fun x28 =>
      lt (a7 + 1) fun x29 =>
      f_X4_ways_L79 N  K70 n79 a1 a2 a3 a4 x28 a6 x29 d23
    else
      lt (a7 + 1) fun x27 =>
      f_X4_ways_L79 N  K70 n79 a1 a2 a3 a4 a5 a6 x27 d23
def f_X4_ways_L70 (N : Nat)   : Nat → Int32 → Int32 → Int32 → Int32 → Int32 → Int32 → XD → Option (Int32 × XD)
  | 0, _, _, _, _, _, _, _ => none
  | n70 + 1, a1, a2, a3, a4, a5, a6, d_ =>
  if a3 < a6 then
    some (a5, d_)
  else
    f_X4_ways_L79 N  (f_X4_ways_L70 N   n70) N a1 a2 a3 a4 a5 a6 (0 : Int32) d_
def f_X4_ways (N : Nat)  (p1 : Int32) (p2 : Int32) (d : XD) : Option (Int32 × XD) :=
  (f_X4_areTwo N p1 p2 d).bind fun x1 =>
  if x1 = 0 then
    bd2 (f_X4_tell N (-1000000001 : Int32) d) fun x16 d17 =>
    some (x16, d17)
  else
    (f_X3_lives N p2 (x_valley d)).bind fun x4 =>
    if x4 = 0 then
      bd2 (f_X4_tell N (-1000000005 : Int32) d) fun x13 d14 =>
      some (x13, d14)
    else
      (f_X3_takeFrom N (x_trial d) (x_valley d)).bind fun d7 =>
      lt (x_set_trial d d7) fun d9 =>
      (rd (v_looks (x_valley d9)) 13 p1).bind fun x10 =>
      (f_X4_copied N x10 (0 : Int32) (63 : Int32)).bind fun x11 =>
      f_X4_ways_L70 N   N p1 p2 (63 : Int32) x11 (0 : Int32) (0 : Int32) d9
def f_X4_feed_L41 (N : Nat)   : Nat → Int32 → Int32 → XD → Option (Int32 × XD)
  | 0, _, _, _ => none
  | n41 + 1, a1, a3, d_ =>
  if a3 < 0 then
    some ((t_length (r_tape (x_reader d_))), d_)
  else
    (f_X1_append N (a1 >>> (((8 : Int32) * a3) &&& 31)) (r_tape (x_reader d_))).bind fun d15 =>
    lt (x_set_reader d_ (r_set_tape (x_reader d_) d15)) fun d17 =>
    lt (a3 + (-1)) fun x18 =>
    f_X4_feed_L41 N   n41 a1 x18 d17
def f_X4_feed (N : Nat)  (p1 : Int32) (p2 : Int32) (d : XD) : Option (Int32 × XD) :=
  (f_X4_isWithin N p2 (1 : Int32) (4 : Int32)).bind fun x1 =>
  if x1 = 0 then
    bd2 (f_X4_tell N (-1000000001 : Int32) d) fun x11 d12 =>
    some (x11, d12)
  else
    (f_X1_hasRoom N p2 (r_tape (x_reader d))).bind fun x4 =>
    if x4 = 0 then
      bd2 (f_X4_tell N (-1000000002 : Int32) d) fun x8 d9 =>
      some (x8, d9)
    else
      lt (p2 - (1 : Int32)) fun x7 =>
      f_X4_feed_L41 N   N p1 x7 d
def f_X4_wipe (N : Nat)   (d : XD) : Option (Int32 × XD) :=
  bd2 (f_X1_clear N (r_tape (x_reader d))) fun x1 d2 =>
  lt (x_set_reader d (r_set_tape (x_reader d) d2)) fun d4 =>
  some (x1, d4)
def f_X4_image (N : Nat)   (d : XD) : Option (Int32 × XD) :=
  (f_X3_takeFrom N (x_kept d) (x_valley d)).bind fun d1 =>
  lt (x_set_kept d d1) fun d3 =>
  lt (x_set_isKept d3 (1 : Int32)) fun d4 =>
  some ((1 : Int32), d4)
def f_X4_undo (N : Nat)   (d : XD) : Option (Int32 × XD) :=
  if (x_isKept d) = 0 then
    bd2 (f_X4_tell N (-1000000004 : Int32) d) fun x5 d6 =>
    some (x5, d6)
  else
    (f_X3_takeFrom N (x_valley d) (x_kept d)).bind fun d2 =>
    lt (x_set_valley d d2) fun d4 =>
    some ((v_people (x_valley d4)), d4)
def f_X4_tear (N : Nat)   (d : XD) : Option (Int32 × XD) :=
  if (x_isKept d) = 0 then
    lt (x_set_isKept d (0 : Int32)) fun d2 =>
    some ((0 : Int32), d2)
  else
    lt (x_set_isKept d (0 : Int32)) fun d3 =>
    some ((1 : Int32), d3)
def f_X4_count (N : Nat)  (p1 : Int32) (d : XD) : Option (Int32 × XD) :=
  if p1 = 0 then
    some ((v_people (x_valley d)), d)
  else
    if p1 = 1 then
      some ((t_length (r_tape (x_reader d))), d)
    else
      if p1 = 2 then
        (f_X3_weightOfAll N (x_valley d)).bind fun x4 =>
        some (x4, d)
      else
        if p1 = 3 then
          (f_X3_sumOf N 12 (v_living (x_valley d)) (x_valley d) (v_ages (x_valley d))).bind fun x7 =>
          some (x7, d)
        else
          bd2 (f_X4_tell N (-1000000001 : Int32) d) fun x9 d10 =>
          some (x9, d10)
def f_X4_status_L33 (N : Nat)   : Nat → Int32 → Int32 → XD → Option (Int32 × XD)
  | 0, _, _, _ => none
  | n33 + 1, a2, a3, d_ =>
  if (7 : Int32) ≤ a3 then
    some (a2, d_)
  else
    (rd (x_tally d_) 7 a3).bind fun x10 =>
    lt (a2 + x10) fun x11 =>
    lt (a3 + 1) fun x12 =>
    f_X4_status_L33 N   n33 x11 x12 d_
def f_X4_status (N : Nat)  (p1 : Int32) (d : XD) : Option (Int32 × XD) :=
  (f_X4_isWithin N p1 (0 : Int32) (6 : Int32)).bind fun x1 =>
  if x1 = 0 then
    if p1 = (-1 : Int32) then
      f_X4_status_L33 N   N (0 : Int32) (0 : Int32) d
    else
      bd2 (f_X4_tell N (-1000000001 : Int32) d) fun x5 d6 =>
      some (x5, d6)
  else
    (rd (x_tally d) 7 p1).bind fun x8 =>
    some (x8, d)
theorem ct_X__41_42__T (g : gE) (q : Nat → Nat) (d : XD)  : Ct ((XC g q d)) ((TC g (qs 1 (qs 40 q)) (r_tape (x_reader d)))) ((XC g q d)) ((TC g (qs 1 (qs 40 q)) (r_tape (x_reader d)))) := (Ct.skip _ (Ct.skip _ (Ct.skip _ (Ct.skip _ (Ct.inl _ (Ct.skip _ (Ct.all (TC_ll ..))) (RC_ll ..))))))
theorem ct_X__41_42__T_0 (g : gE) (q : Nat → Nat) (d : XD) (u0 : TD) : Ct ((XC g q d)) ((TC g (qs 1 (qs 40 q)) (r_tape (x_reader d)))) ((XC g q (x_set_reader d (r_set_tape (x_reader d) u0)))) ((TC g (qs 1 (qs 40 q)) u0)) := (Ct.skip _ (Ct.skip _ (Ct.skip _ (Ct.skip _ (Ct.inl _ (Ct.skip _ (Ct.all (TC_ll ..))) (RC_ll ..))))))
theorem ct_X__14_15_16_17_18_19_20_21_22_23_24_25_26_1_2_3_4_5_6_7_8_9_10_11_12_13__V_V_0 (g : gE) (q : Nat → Nat) (d : XD) (u0 : VD) : Ct ((XC g q d)) ((VC g (qs 14 q) (x_kept d)) ++ (VC g (qs 1 q) (x_valley d))) ((XC g q (x_set_kept d u0))) ((VC g (qs 14 q) u0) ++ (VC g (qs 1 q) (x_valley d))) := (Ct.swap (Ct.skip _ (Ct.app (Ct.all (VC_ll ..)) (Ct.inl _ (Ct.all (VC_ll ..)) (VC_ll ..)) (VC_ll ..))) (VC_ll ..))
theorem ct_X__1_2_3_4_5_6_7_8_9_10_11_12_13_14_15_16_17_18_19_20_21_22_23_24_25_26__V_V_0 (g : gE) (q : Nat → Nat) (d : XD) (u0 : VD) : Ct ((XC g q d)) ((VC g (qs 1 q) (x_valley d)) ++ (VC g (qs 14 q) (x_kept d))) ((XC g q (x_set_valley d u0))) ((VC g (qs 1 q) u0) ++ (VC g (qs 14 q) (x_kept d))) := (Ct.skip _ (Ct.app (Ct.all (VC_ll ..)) (Ct.inl _ (Ct.all (VC_ll ..)) (VC_ll ..)) (VC_ll ..)))
theorem ct_X__1_7__VO_A (g : gE) (q : Nat → Nat) (d : XD)  : Ct ((XC g q d)) ((VO g (qs 1 q) (x_valley d)) ++ (ACI g (qs 1 q 6) 12 (v_ages (x_valley d)))) ((XC g q d)) ((VO g (qs 1 q) (x_valley d)) ++ (ACI g (qs 1 q 6) 12 (v_ages (x_valley d)))) := (Ct.skip _ (Ct.inl _ (ctV_OA_6 ..) (VC_ll ..)))
set_option maxHeartbeats 4000000 in
set_option maxRecDepth 100000 in
theorem c_X4_kind (l : Launch) (g : gE) (q : Nat → Nat) (N : Nat) (p1 : Int32) (p2 : Int32) (d : XD) (r : Int32) (d' : XD) (h : f_X4_kind N  p1 p2 d = some (r, d')) : MO l yX4_kind (Cond.code yX4_kind cX4_kind 6 (some .int) :: TB) rm_X4_kind [.ref (q 0), .int p1, .int p2] g ((XC g q d)) ((XC g q d')) (some (.int r)) 0 0 := by
  refine MO.of (cc := cX4_kind) (maxL := 6) (ret := (some .int)) (by decide) ?_
  intro p e s m below meth c cx hw hr hlocks _
  have hx := cx.1.1
  have hb := cx.1.2.1
  refine en_go (lv := [(0, .ref (q 0)), (1, .int p1), (2, .int p2)]) (Nat.le_of_ble_eq_true rfl) rfl (fun ls hl => ?_)
  have L48 : ∀ (n48 : Nat) (a1 : Int32) (a2 : Int32) (a3 : Int32) (a4 : Int32) (a5 : Int32) (d_ : XD) (H : Heap) (locs : List Loc) (ls : Array Slot), Wd g (va_A ((XC g q d)) s.heap.size) ((XC g q d_)) s H locs → lv_has ls 6 [(0, .ref (q 0)), (1, .int a1), (2, .int a2), (3, .int a3), (4, .int a4), (5, .int a5)] → f_X4_kind_L48 N   n48 a1 a2 a3 a4 a5 d_ = some (r, d') → W p l e rm_X4_kind s m ([.ref (q 0), .int p1, .int p2] : List Value).toArray below meth c H locs 0 0 (MQ below (QO (some (.int r)) g ((XC g q d')) (va_A ((XC g q d)) s.heap.size)) ([.ref (q 0), .int p1, .int p2] : List Value).toArray s 0 0 (va_A ((XC g q d)) s.heap.size)) (F0 m 48 ls []) := by
    intro n48
    induction n48 with
    | zero => intro a1 a2 a3 a4 a5 d_ H locs ls hw hl h; exact (Option.some_ne_none _ h.symm).elim
    | succ n48 ih48 =>
      intro a1 a2 a3 a4 a5 d_ H locs ls hw hl h
      rw [f_X4_kind_L48] at h
      refine lv_iload hx hb dX4_kind_48 (lv_at hl 5 rfl) ?_
      refine lv_iconst (v := 5) hx hb dX4_kind_50 (by decide) ?_
      refine lv_icmp_gt (tgt := 119) hx hb dX4_kind_51 (by decide) (fun c34 => ?_) (fun c34 => ?_)
      · replace h := ite_t c34 h
        refine lv_iload_n hx hb dX4_kind_119 rfl (lv_at hl 3 rfl) ?_
        exact r_i cx hr hlocks hw (pr1 h) (congrArg (fun z0 => (XC g q z0)) (pr2 h)) dX4_kind_120
      · replace h := ite_f c34 h
        refine lv_aload_n hx hb dX4_kind_54 rfl (lv_at hl 0 rfl) ?_
        refine gf_X4_19 cx hw 0 rfl rfl dX4_kind_55 ?_
        refine lv_aload_n hx hb dX4_kind_58 rfl (lv_at hl 0 rfl) ?_
        refine gf_X4_12 cx hw 0 rfl rfl dX4_kind_59 ?_
        obtain ⟨d35, g36, h⟩ := bd_ex h
        refine c_V (As := [.ref (qs 1 q 0)]) (rest := []) (w' := (XC g q (x_set_trial d_ d35))) cx hw (c_X3_takeFrom l g (qs 27 q) (qs 1 q) N  (x_trial d_) (x_valley d_) d35 g36) (cl_X4_164 cx.1.2.2.2.2 ⟨Nat.le_of_ble_eq_true rfl, Nat.le_of_ble_eq_true rfl⟩) (x_recv cx hw (ci := 3) rfl 27 rfl) (ct_X__27_28_29_30_31_32_33_34_35_36_37_38_39_1_2_3_4_5_6_7_8_9_10_11_12_13__V_V_0 g q d_ d35) hl.1 rfl rfl (Nat.le_of_ble_eq_true rfl) dX4_kind_62 ⟨Nat.le_of_ble_eq_true rfl, Nat.le_of_ble_eq_true rfl⟩ (st1 := []) rfl (fun H locs hw => ?_)
        obtain ⟨d37, ed37, h⟩ := lt_ex h
        have hw : Wd g (va_A ((XC g q d)) s.heap.size) ((XC g q d37)) s H locs := by rw [ed37]; exact hw
        refine lv_aload_n hx hb dX4_kind_65 rfl (lv_at hl 0 rfl) ?_
        refine gf_X4_19 cx hw 0 rfl rfl dX4_kind_66 ?_
        refine gf_X4_75 cx hw 27 rfl rfl dX4_kind_69 ?_
        refine lv_iload_n hx hb dX4_kind_72 rfl (lv_at hl 1 rfl) ?_
        refine lv_iload hx hb dX4_kind_73 (lv_at hl 5 rfl) ?_
        have i38 := ck_in h
        replace h := ck_nx h
        refine x_iast cx hw 32 rfl i38 dX4_kind_75 (fun H locs hw => ?_)
        obtain ⟨d39, ed39, h⟩ := lt_ex h
        have hw : Wd g (va_A ((XC g q d)) s.heap.size) ((XC g q d39)) s H locs := by rw [ed39]; exact hw
        refine lv_aload_n hx hb dX4_kind_76 rfl (lv_at hl 0 rfl) ?_
        refine gf_X4_19 cx hw 0 rfl rfl dX4_kind_77 ?_
        refine lv_iload_n hx hb dX4_kind_80 rfl (lv_at hl 2 rfl) ?_
        obtain ⟨x40, d41, g42, h⟩ := bd2_ex h
        refine c_V (As := [.int a2]) (rest := []) (w' := (XC g q (x_set_trial d39 d41))) cx hw (c_X3_goYears l g (qs 27 q) N a2 (x_trial d39) x40 d41 g42) (cl_X4_148 cx.1.2.2.2.2 ⟨Nat.le_of_ble_eq_true rfl, Nat.le_of_ble_eq_true rfl⟩) (x_recv cx hw (ci := 3) rfl 27 rfl) (ct_X__27_28_29_30_31_32_33_34_35_36_37_38_39__V_0 g q d39 d41) hl.1 rfl rfl (Nat.le_of_ble_eq_true rfl) dX4_kind_81 ⟨Nat.le_of_ble_eq_true rfl, Nat.le_of_ble_eq_true rfl⟩ (st1 := [.int x40]) rfl (fun H locs hw => ?_)
        obtain ⟨d43, ed43, h⟩ := lt_ex h
        have hw : Wd g (va_A ((XC g q d)) s.heap.size) ((XC g q d43)) s H locs := by rw [ed43]; exact hw
        refine lv_pop hx hb dX4_kind_84 rfl ?_
        refine lv_aload_n hx hb dX4_kind_85 rfl (lv_at hl 0 rfl) ?_
        refine gf_X4_19 cx hw 0 rfl rfl dX4_kind_86 ?_
        refine gf_X4_81 cx hw 27 rfl rfl dX4_kind_89 ?_
        refine lv_iload_n hx hb dX4_kind_92 rfl (lv_at hl 1 rfl) ?_
        have ix44 := rd_in h
        refine x_iald cx hw 34 rfl ix44 dX4_kind_93 ?_
        refine lv_topi (fun x44 ex44 => ?_)
        replace h := rd_nx ex44 h
        refine lv_iload hx hb dX4_kind_94 (lv_at hl 4 rfl) ?_
        refine lv_icmp_le (tgt := 113) hx hb dX4_kind_96 (by decide) (fun c45 => ?_) (fun c45 => ?_)
        · replace h := ite_t c45 h
          obtain ⟨x46, ex46⟩ : ∃ y : Int32, y = (a5 + 1) := ⟨_, rfl⟩
          replace h := lt_nx ex46 h
          refine lv_iinc (v := x46) (lv' := [(5, .int x46), (0, .ref (q 0)), (1, .int a1), (2, .int a2), (3, .int a3), (4, .int a4)]) hx hb dX4_kind_113 hl (k := 5) rfl (by rw [ex46]; rfl) (by decide) rfl (fun ls hl => ?_)
          refine lv_goto (tgt := 48) hx hb dX4_kind_116 (by decide) ?_
          exact ih48 a1 a2 a3 a4 x46 d43 _ _ _ hw (lv_sub hl [1, 2, 3, 4, 5, 0] rfl) h
        · replace h := ite_f c45 h
          refine lv_aload_n hx hb dX4_kind_99 rfl (lv_at hl 0 rfl) ?_
          refine gf_X4_19 cx hw 0 rfl rfl dX4_kind_100 ?_
          refine gf_X4_81 cx hw 27 rfl rfl dX4_kind_103 ?_
          refine lv_iload_n hx hb dX4_kind_106 rfl (lv_at hl 1 rfl) ?_
          have ix47 := rd_in h
          refine x_iald cx hw 34 rfl ix47 dX4_kind_107 ?_
          refine lv_topi (fun x47 ex47 => ?_)
          replace h := rd_nx ex47 h
          refine lv_istore (lv' := [(4, .int x47), (0, .ref (q 0)), (1, .int a1), (2, .int a2), (3, .int a3), (5, .int a5)]) hx hb dX4_kind_108 hl (by decide) rfl (fun ls hl => ?_)
          refine lv_iload hx hb dX4_kind_110 (lv_at hl 5 rfl) ?_
          refine lv_istore_n (lv' := [(3, .int a5), (4, .int x47), (0, .ref (q 0)), (1, .int a1), (2, .int a2), (5, .int a5)]) hx hb dX4_kind_112 rfl hl (by decide) rfl (fun ls hl => ?_)
          obtain ⟨x48, ex48⟩ : ∃ y : Int32, y = (a5 + 1) := ⟨_, rfl⟩
          replace h := lt_nx ex48 h
          refine lv_iinc (v := x48) (lv' := [(5, .int x48), (3, .int a5), (4, .int x47), (0, .ref (q 0)), (1, .int a1), (2, .int a2)]) hx hb dX4_kind_113 hl (k := 5) rfl (by rw [ex48]; rfl) (by decide) rfl (fun ls hl => ?_)
          refine lv_goto (tgt := 48) hx hb dX4_kind_116 (by decide) ?_
          exact ih48 a1 a2 a5 x47 x48 d43 _ _ _ hw (lv_sub hl [3, 4, 5, 1, 2, 0] rfl) h
  unfold f_X4_kind at h
  refine lv_aload_n hx hb dX4_kind_0 rfl (lv_at hl 0 rfl) ?_
  refine lv_iload_n hx hb dX4_kind_1 rfl (lv_at hl 1 rfl) ?_
  obtain ⟨x1, g2, h⟩ := bd_ex h
  refine c_V (As := [.int p1]) (rest := []) (w' := (XC g q d)) cx hw (c_X4_isOne l g q N p1 d x1 g2) (cl_X4_72 cx.1.2.2.2.2 ⟨Nat.le_of_ble_eq_true rfl, Nat.le_of_ble_eq_true rfl⟩) (x_recv cx hw (ci := 4) rfl 0 rfl) (Ct.all (XC_ll ..)) hl.1 rfl rfl (Nat.le_of_ble_eq_true rfl) dX4_kind_2 ⟨Nat.le_of_ble_eq_true rfl, Nat.le_of_ble_eq_true rfl⟩ (st1 := [.int x1]) rfl (fun H locs hw => ?_)
  refine lv_if_eq (tgt := 18) hx hb dX4_kind_5 (by decide) (fun c3 => ?_) (fun c3 => ?_)
  · replace h := ite_t c3 h
    refine lv_aload_n hx hb dX4_kind_18 rfl (lv_at hl 0 rfl) ?_
    refine lv_ldc hx hb cx.1.2.2.2.1 (cx.1.2.2.2.2 _ tw_1_202) dX4_kind_19 ?_
    obtain ⟨x4, d5, g6, h⟩ := bd2_ex h
    refine c_V (As := [.int (-1000000001 : Int32)]) (rest := []) (w' := (XC g q d5)) cx hw (c_X4_tell l g q N (-1000000001 : Int32) d x4 d5 g6) (cl_X4_45 cx.1.2.2.2.2 ⟨Nat.le_of_ble_eq_true rfl, Nat.le_of_ble_eq_true rfl⟩) (x_recv cx hw (ci := 4) rfl 0 rfl) (Ct.all (XC_ll ..)) hl.1 rfl rfl (Nat.le_of_ble_eq_true rfl) dX4_kind_21 ⟨Nat.le_of_ble_eq_true rfl, Nat.le_of_ble_eq_true rfl⟩ (st1 := [.int x4]) rfl (fun H locs hw => ?_)
    exact r_i cx hr hlocks hw (pr1 h) (congrArg (fun z0 => (XC g q z0)) (pr2 h)) dX4_kind_24
  · replace h := ite_f c3 h
    refine lv_iload_n hx hb dX4_kind_8 rfl (lv_at hl 2 rfl) ?_
    refine lv_iconst (v := 1) hx hb dX4_kind_9 (by decide) ?_
    refine lv_bipush (v := 100) hx hb dX4_kind_10 (by decide) ?_
    obtain ⟨x7, g8, h⟩ := bd_ex h
    refine c_S (As := [.int p2, .int (1 : Int32), .int (100 : Int32)]) (rest := []) (w' := (XC g q d)) cx hw (c_X4_isWithin l g  N p2 (1 : Int32) (100 : Int32)  x7 g8) (cl_X4_40 cx.1.2.2.2.2 ⟨Nat.le_of_ble_eq_true rfl, Nat.le_of_ble_eq_true rfl⟩) Ct.nil hl.1 rfl rfl (Nat.le_of_ble_eq_true rfl) dX4_kind_12 ⟨Nat.le_of_ble_eq_true rfl, Nat.le_of_ble_eq_true rfl⟩ (st1 := [.int x7]) rfl (fun H locs hw => ?_)
    refine lv_if_ne (tgt := 25) hx hb dX4_kind_15 (by decide) (fun c9 => ?_) (fun c9 => ?_)
    · replace h := ite_f c9 h
      refine lv_aload_n hx hb dX4_kind_25 rfl (lv_at hl 0 rfl) ?_
      refine lv_iload_n hx hb dX4_kind_26 rfl (lv_at hl 2 rfl) ?_
      obtain ⟨x10, g11, h⟩ := bd_ex h
      refine c_V (As := [.int p2]) (rest := []) (w' := (XC g q d)) cx hw (c_X4_isTooLate l g q N p2 d x10 g11) (cl_X4_144 cx.1.2.2.2.2 ⟨Nat.le_of_ble_eq_true rfl, Nat.le_of_ble_eq_true rfl⟩) (x_recv cx hw (ci := 4) rfl 0 rfl) (Ct.all (XC_ll ..)) hl.1 rfl rfl (Nat.le_of_ble_eq_true rfl) dX4_kind_27 ⟨Nat.le_of_ble_eq_true rfl, Nat.le_of_ble_eq_true rfl⟩ (st1 := [.int x10]) rfl (fun H locs hw => ?_)
      refine lv_if_eq (tgt := 40) hx hb dX4_kind_30 (by decide) (fun c12 => ?_) (fun c12 => ?_)
      · replace h := ite_t c12 h
        refine lv_iconst (v := 0) hx hb dX4_kind_40 (by decide) ?_
        refine lv_istore_n (lv' := [(3, .int (0 : Int32)), (0, .ref (q 0)), (1, .int p1), (2, .int p2)]) hx hb dX4_kind_41 rfl hl (by decide) rfl (fun ls hl => ?_)
        refine lv_iconst (v := -1) hx hb dX4_kind_42 (by decide) ?_
        refine lv_istore (lv' := [(4, .int (-1 : Int32)), (3, .int (0 : Int32)), (0, .ref (q 0)), (1, .int p1), (2, .int p2)]) hx hb dX4_kind_43 hl (by decide) rfl (fun ls hl => ?_)
        refine lv_iconst (v := 0) hx hb dX4_kind_45 (by decide) ?_
        refine lv_istore (lv' := [(5, .int (0 : Int32)), (4, .int (-1 : Int32)), (3, .int (0 : Int32)), (0, .ref (q 0)), (1, .int p1), (2, .int p2)]) hx hb dX4_kind_46 hl (by decide) rfl (fun ls hl => ?_)
        exact L48 N p1 p2 (0 : Int32) (-1 : Int32) (0 : Int32) d _ _ _ hw (lv_sub hl [3, 4, 5, 2, 1, 0] rfl) h
      · replace h := ite_f c12 h
        refine lv_aload_n hx hb dX4_kind_33 rfl (lv_at hl 0 rfl) ?_
        refine lv_ldc hx hb cx.1.2.2.2.1 (cx.1.2.2.2.2 _ tw_2_130) dX4_kind_34 ?_
        obtain ⟨x13, d14, g15, h⟩ := bd2_ex h
        refine c_V (As := [.int (-1000000005 : Int32)]) (rest := []) (w' := (XC g q d14)) cx hw (c_X4_tell l g q N (-1000000005 : Int32) d x13 d14 g15) (cl_X4_45 cx.1.2.2.2.2 ⟨Nat.le_of_ble_eq_true rfl, Nat.le_of_ble_eq_true rfl⟩) (x_recv cx hw (ci := 4) rfl 0 rfl) (Ct.all (XC_ll ..)) hl.1 rfl rfl (Nat.le_of_ble_eq_true rfl) dX4_kind_36 ⟨Nat.le_of_ble_eq_true rfl, Nat.le_of_ble_eq_true rfl⟩ (st1 := [.int x13]) rfl (fun H locs hw => ?_)
        exact r_i cx hr hlocks hw (pr1 h) (congrArg (fun z0 => (XC g q z0)) (pr2 h)) dX4_kind_39
    · replace h := ite_t c9 h
      refine lv_aload_n hx hb dX4_kind_18 rfl (lv_at hl 0 rfl) ?_
      refine lv_ldc hx hb cx.1.2.2.2.1 (cx.1.2.2.2.2 _ tw_1_202) dX4_kind_19 ?_
      obtain ⟨x16, d17, g18, h⟩ := bd2_ex h
      refine c_V (As := [.int (-1000000001 : Int32)]) (rest := []) (w' := (XC g q d17)) cx hw (c_X4_tell l g q N (-1000000001 : Int32) d x16 d17 g18) (cl_X4_45 cx.1.2.2.2.2 ⟨Nat.le_of_ble_eq_true rfl, Nat.le_of_ble_eq_true rfl⟩) (x_recv cx hw (ci := 4) rfl 0 rfl) (Ct.all (XC_ll ..)) hl.1 rfl rfl (Nat.le_of_ble_eq_true rfl) dX4_kind_21 ⟨Nat.le_of_ble_eq_true rfl, Nat.le_of_ble_eq_true rfl⟩ (st1 := [.int x16]) rfl (fun H locs hw => ?_)
      exact r_i cx hr hlocks hw (pr1 h) (congrArg (fun z0 => (XC g q z0)) (pr2 h)) dX4_kind_24
set_option maxHeartbeats 4000000 in
set_option maxRecDepth 100000 in
theorem c_X4_fair (l : Launch) (g : gE) (q : Nat → Nat) (N : Nat) (p1 : Int32) (d : XD) (r : Int32) (d' : XD) (h : f_X4_fair N  p1 d = some (r, d')) : MO l yX4_fair (Cond.code yX4_fair cX4_fair 7 (some .int) :: TB) rm_X4_fair [.ref (q 0), .int p1] g ((XC g q d)) ((XC g q d')) (some (.int r)) 0 0 := by
  refine MO.of (cc := cX4_fair) (maxL := 7) (ret := (some .int)) (by decide) ?_
  intro p e s m below meth c cx hw hr hlocks _
  have hx := cx.1.1
  have hb := cx.1.2.1
  refine en_go (lv := [(0, .ref (q 0)), (1, .int p1)]) (Nat.le_of_ble_eq_true rfl) rfl (fun ls hl => ?_)
  have L40 : ∀ (n40 : Nat) (a1 : Int32) (a2 : Int32) (a3 : Int32) (a4 : Int32) (d_ : XD) (H : Heap) (locs : List Loc) (ls : Array Slot), Wd g (va_A ((XC g q d)) s.heap.size) ((XC g q d_)) s H locs → lv_has ls 7 [(0, .ref (q 0)), (1, .int a1), (2, .int a2), (3, .int a3), (4, .int a4)] → f_X4_fair_L40 N   n40 a1 a2 a3 a4 d_ = some (r, d') → W p l e rm_X4_fair s m ([.ref (q 0), .int p1] : List Value).toArray below meth c H locs 0 0 (MQ below (QO (some (.int r)) g ((XC g q d')) (va_A ((XC g q d)) s.heap.size)) ([.ref (q 0), .int p1] : List Value).toArray s 0 0 (va_A ((XC g q d)) s.heap.size)) (F0 m 40 ls []) := by
    intro n40
    induction n40 with
    | zero => intro a1 a2 a3 a4 d_ H locs ls hw hl h; exact (Option.some_ne_none _ h.symm).elim
    | succ n40 ih40 =>
      have J105 : ∀ (a1 : Int32) (a2 : Int32) (a3 : Int32) (a4 : Int32) (t0 : Int32) (d_ : XD) (H : Heap) (locs : List Loc) (ls : Array Slot), Wd g (va_A ((XC g q d)) s.heap.size) ((XC g q d_)) s H locs → lv_has ls 7 [(0, .ref (q 0)), (1, .int a1), (2, .int a2), (3, .int a3), (4, .int a4)] → f_X4_fair_J105 N  (f_X4_fair_L40 N   n40) a1 a2 a3 a4 t0 d_ = some (r, d') → W p l e rm_X4_fair s m ([.ref (q 0), .int p1] : List Value).toArray below meth c H locs 0 0 (MQ below (QO (some (.int r)) g ((XC g q d')) (va_A ((XC g q d)) s.heap.size)) ([.ref (q 0), .int p1] : List Value).toArray s 0 0 (va_A ((XC g q d)) s.heap.size)) (F0 m 105 ls [.int t0]) := by
        intro a1 a2 a3 a4 t0 d_ H locs ls hw hl h
        unfold f_X4_fair_J105 at h
        refine lv_istore (lv' := [(6, .int t0), (0, .ref (q 0)), (1, .int a1), (2, .int a2), (3, .int a3), (4, .int a4)]) hx hb dX4_fair_105 hl (by decide) rfl (fun ls hl => ?_)
        refine lv_iload hx hb dX4_fair_107 (lv_at hl 0 rfl) ?_
        refine lv_iload_n hx hb dX4_fair_109 rfl (lv_at hl 4 rfl) ?_
        refine lv_icmp_ge (tgt := 119) hx hb dX4_fair_110 (by decide) (fun c29 => ?_) (fun c29 => ?_)
        · replace h := ite_t c29 h
          obtain ⟨x30, ex30⟩ : ∃ y : Int32, y = (a4 + 1) := ⟨_, rfl⟩
          replace h := lt_nx ex30 h
          refine lv_iinc (v := x30) (lv' := [(4, .int x30), (6, .int t0), (0, .ref (q 0)), (1, .int a1), (2, .int a2), (3, .int a3)]) hx hb dX4_fair_119 hl (k := 5) rfl (by rw [ex30]; rfl) (by decide) rfl (fun ls hl => ?_)
          refine lv_goto (tgt := 40) hx hb dX4_fair_122 (by decide) ?_
          exact ih40 a1 a2 a3 x30 d_ _ _ _ hw (lv_sub hl [2, 3, 4, 5, 0] rfl) h
        · replace h := ite_f c29 h
          refine lv_iload hx hb dX4_fair_113 (lv_at hl 0 rfl) ?_
          refine lv_istore_n (lv' := [(3, .int t0), (6, .int t0), (0, .ref (q 0)), (1, .int a1), (2, .int a2), (4, .int a4)]) hx hb dX4_fair_115 rfl hl (by decide) rfl (fun ls hl => ?_)
          refine lv_iload hx hb dX4_fair_116 (lv_at hl 5 rfl) ?_
          refine lv_istore_n (lv' := [(2, .int a4), (3, .int t0), (6, .int t0), (0, .ref (q 0)), (1, .int a1), (4, .int a4)]) hx hb dX4_fair_118 rfl hl (by decide) rfl (fun ls hl => ?_)
          obtain ⟨x31, ex31⟩ : ∃ y : Int32, y = (a4 + 1) := ⟨_, rfl⟩
          replace h := lt_nx ex31 h
          refine lv_iinc (v := x31) (lv' := [(4, .int x31), (2, .int a4), (3, .int t0), (6, .int t0), (0, .ref (q 0)), (1, .int a1)]) hx hb dX4_fair_119 hl (k := 5) rfl (by rw [ex31]; rfl) (by decide) rfl (fun ls hl => ?_)
          refine lv_goto (tgt := 40) hx hb dX4_fair_122 (by decide) ?_
          exact ih40 a1 a4 t0 x31 d_ _ _ _ hw (lv_sub hl [4, 5, 1, 2, 0] rfl) h
      intro a1 a2 a3 a4 d_ H locs ls hw hl h
      rw [f_X4_fair_L40] at h
      refine lv_iload hx hb dX4_fair_40 (lv_at hl 4 rfl) ?_
      refine lv_iconst (v := 2) hx hb dX4_fair_42 (by decide) ?_
      refine lv_icmp_gt (tgt := 125) hx hb dX4_fair_43 (by decide) (fun c32 => ?_) (fun c32 => ?_)
      · replace h := ite_t c32 h
        refine lv_iload_n hx hb dX4_fair_125 rfl (lv_at hl 2 rfl) ?_
        exact r_i cx hr hlocks hw (pr1 h) (congrArg (fun z0 => (XC g q z0)) (pr2 h)) dX4_fair_126
      · replace h := ite_f c32 h
        refine lv_aload_n hx hb dX4_fair_46 rfl (lv_at hl 0 rfl) ?_
        refine gf_X4_19 cx hw 0 rfl rfl dX4_fair_47 ?_
        refine lv_aload_n hx hb dX4_fair_50 rfl (lv_at hl 0 rfl) ?_
        refine gf_X4_12 cx hw 0 rfl rfl dX4_fair_51 ?_
        obtain ⟨d33, g34, h⟩ := bd_ex h
        refine c_V (As := [.ref (qs 1 q 0)]) (rest := []) (w' := (XC g q (x_set_trial d_ d33))) cx hw (c_X3_takeFrom l g (qs 27 q) (qs 1 q) N  (x_trial d_) (x_valley d_) d33 g34) (cl_X4_164 cx.1.2.2.2.2 ⟨Nat.le_of_ble_eq_true rfl, Nat.le_of_ble_eq_true rfl⟩) (x_recv cx hw (ci := 3) rfl 27 rfl) (ct_X__27_28_29_30_31_32_33_34_35_36_37_38_39_1_2_3_4_5_6_7_8_9_10_11_12_13__V_V_0 g q d_ d33) hl.1 rfl rfl (Nat.le_of_ble_eq_true rfl) dX4_fair_54 ⟨Nat.le_of_ble_eq_true rfl, Nat.le_of_ble_eq_true rfl⟩ (st1 := []) rfl (fun H locs hw => ?_)
        obtain ⟨d35, ed35, h⟩ := lt_ex h
        have hw : Wd g (va_A ((XC g q d)) s.heap.size) ((XC g q d35)) s H locs := by rw [ed35]; exact hw
        refine lv_aload_n hx hb dX4_fair_57 rfl (lv_at hl 0 rfl) ?_
        refine gf_X4_19 cx hw 0 rfl rfl dX4_fair_58 ?_
        refine lv_iload hx hb dX4_fair_61 (lv_at hl 4 rfl) ?_
        refine pf_X4_60 cx hw 27 rfl rfl rfl (Nat.le_of_ble_eq_true rfl) dX4_fair_63 (fun H locs hw => ?_)
        obtain ⟨d36, ed36, h⟩ := lt_ex h
        have hw : Wd g (va_A ((XC g q d)) s.heap.size) ((XC g q d36)) s H locs := by rw [ed36]; exact hw
        refine lv_aload_n hx hb dX4_fair_66 rfl (lv_at hl 0 rfl) ?_
        refine gf_X4_19 cx hw 0 rfl rfl dX4_fair_67 ?_
        refine lv_iload_n hx hb dX4_fair_70 rfl (lv_at hl 1 rfl) ?_
        obtain ⟨x37, d38, g39, h⟩ := bd2_ex h
        refine c_V (As := [.int a1]) (rest := []) (w' := (XC g q (x_set_trial d36 d38))) cx hw (c_X3_goYears l g (qs 27 q) N a1 (x_trial d36) x37 d38 g39) (cl_X4_148 cx.1.2.2.2.2 ⟨Nat.le_of_ble_eq_true rfl, Nat.le_of_ble_eq_true rfl⟩) (x_recv cx hw (ci := 3) rfl 27 rfl) (ct_X__27_28_29_30_31_32_33_34_35_36_37_38_39__V_0 g q d36 d38) hl.1 rfl rfl (Nat.le_of_ble_eq_true rfl) dX4_fair_71 ⟨Nat.le_of_ble_eq_true rfl, Nat.le_of_ble_eq_true rfl⟩ (st1 := [.int x37]) rfl (fun H locs hw => ?_)
        obtain ⟨d40, ed40, h⟩ := lt_ex h
        have hw : Wd g (va_A ((XC g q d)) s.heap.size) ((XC g q d40)) s H locs := by rw [ed40]; exact hw
        refine lv_pop hx hb dX4_fair_74 rfl ?_
        refine lv_aload_n hx hb dX4_fair_75 rfl (lv_at hl 0 rfl) ?_
        refine gf_X4_19 cx hw 0 rfl rfl dX4_fair_76 ?_
        refine lv_iconst (v := -1) hx hb dX4_fair_79 (by decide) ?_
        obtain ⟨x41, g42, h⟩ := bd_ex h
        refine c_V (As := [.int (-1 : Int32)]) (rest := []) (w' := (XC g q d40)) cx hw (c_X3_richestBut l g (qs 27 q) N (-1 : Int32) (x_trial d40) x41 g42) (cl_X4_168 cx.1.2.2.2.2 ⟨Nat.le_of_ble_eq_true rfl, Nat.le_of_ble_eq_true rfl⟩) (x_recv cx hw (ci := 3) rfl 27 rfl) (ct_X__27_28_29_30_31_32_33_34_35_36_37_38_39__V g q d40 ) hl.1 rfl rfl (Nat.le_of_ble_eq_true rfl) dX4_fair_80 ⟨Nat.le_of_ble_eq_true rfl, Nat.le_of_ble_eq_true rfl⟩ (st1 := [.int x41]) rfl (fun H locs hw => ?_)
        refine lv_istore (lv' := [(5, .int x41), (0, .ref (q 0)), (1, .int a1), (2, .int a2), (3, .int a3), (4, .int a4)]) hx hb dX4_fair_83 hl (by decide) rfl (fun ls hl => ?_)
        refine lv_iload hx hb dX4_fair_85 (lv_at hl 0 rfl) ?_
        refine lv_iconst (v := -1) hx hb dX4_fair_87 (by decide) ?_
        refine lv_icmp_ne (tgt := 95) hx hb dX4_fair_88 (by decide) (fun c43 => ?_) (fun c43 => ?_)
        · replace h := ite_f c43 h
          refine lv_aload_n hx hb dX4_fair_95 rfl (lv_at hl 1 rfl) ?_
          refine gf_X4_19 cx hw 0 rfl rfl dX4_fair_96 ?_
          refine gf_X4_81 cx hw 27 rfl rfl dX4_fair_99 ?_
          refine lv_iload hx hb dX4_fair_102 (lv_at hl 0 rfl) ?_
          have ix44 := rd_in h
          refine x_iald cx hw 34 rfl ix44 dX4_fair_104 ?_
          refine lv_topi (fun x44 ex44 => ?_)
          replace h := rd_nx ex44 h
          exact J105 a1 a2 a3 a4 x44 d40 _ _ _ hw (lv_sub hl [1, 2, 3, 4, 5] rfl) h
        · replace h := ite_t c43 h
          refine lv_iconst (v := 0) hx hb dX4_fair_91 (by decide) ?_
          refine lv_goto (tgt := 105) hx hb dX4_fair_92 (by decide) ?_
          exact J105 a1 a2 a3 a4 (0 : Int32) d40 _ _ _ hw (lv_sub hl [1, 2, 3, 4, 5] rfl) h
  unfold f_X4_fair at h
  refine lv_iload_n hx hb dX4_fair_0 rfl (lv_at hl 1 rfl) ?_
  refine lv_iconst (v := 1) hx hb dX4_fair_1 (by decide) ?_
  refine lv_bipush (v := 100) hx hb dX4_fair_2 (by decide) ?_
  obtain ⟨x1, g2, h⟩ := bd_ex h
  refine c_S (As := [.int p1, .int (1 : Int32), .int (100 : Int32)]) (rest := []) (w' := (XC g q d)) cx hw (c_X4_isWithin l g  N p1 (1 : Int32) (100 : Int32)  x1 g2) (cl_X4_40 cx.1.2.2.2.2 ⟨Nat.le_of_ble_eq_true rfl, Nat.le_of_ble_eq_true rfl⟩) Ct.nil hl.1 rfl rfl (Nat.le_of_ble_eq_true rfl) dX4_fair_4 ⟨Nat.le_of_ble_eq_true rfl, Nat.le_of_ble_eq_true rfl⟩ (st1 := [.int x1]) rfl (fun H locs hw => ?_)
  refine lv_if_ne (tgt := 17) hx hb dX4_fair_7 (by decide) (fun c3 => ?_) (fun c3 => ?_)
  · replace h := ite_f c3 h
    refine lv_aload_n hx hb dX4_fair_17 rfl (lv_at hl 0 rfl) ?_
    refine lv_iload_n hx hb dX4_fair_18 rfl (lv_at hl 1 rfl) ?_
    obtain ⟨x4, g5, h⟩ := bd_ex h
    refine c_V (As := [.int p1]) (rest := []) (w' := (XC g q d)) cx hw (c_X4_isTooLate l g q N p1 d x4 g5) (cl_X4_144 cx.1.2.2.2.2 ⟨Nat.le_of_ble_eq_true rfl, Nat.le_of_ble_eq_true rfl⟩) (x_recv cx hw (ci := 4) rfl 0 rfl) (Ct.all (XC_ll ..)) hl.1 rfl rfl (Nat.le_of_ble_eq_true rfl) dX4_fair_19 ⟨Nat.le_of_ble_eq_true rfl, Nat.le_of_ble_eq_true rfl⟩ (st1 := [.int x4]) rfl (fun H locs hw => ?_)
    refine lv_if_eq (tgt := 32) hx hb dX4_fair_22 (by decide) (fun c6 => ?_) (fun c6 => ?_)
    · replace h := ite_t c6 h
      refine lv_iconst (v := 0) hx hb dX4_fair_32 (by decide) ?_
      refine lv_istore_n (lv' := [(2, .int (0 : Int32)), (0, .ref (q 0)), (1, .int p1)]) hx hb dX4_fair_33 rfl hl (by decide) rfl (fun ls hl => ?_)
      refine lv_ldc hx hb cx.1.2.2.2.1 (cx.1.2.2.2.2 _ tw_2_238) dX4_fair_34 ?_
      refine lv_istore_n (lv' := [(3, .int (1000000 : Int32)), (2, .int (0 : Int32)), (0, .ref (q 0)), (1, .int p1)]) hx hb dX4_fair_36 rfl hl (by decide) rfl (fun ls hl => ?_)
      refine lv_iconst (v := 0) hx hb dX4_fair_37 (by decide) ?_
      refine lv_istore (lv' := [(4, .int (0 : Int32)), (3, .int (1000000 : Int32)), (2, .int (0 : Int32)), (0, .ref (q 0)), (1, .int p1)]) hx hb dX4_fair_38 hl (by decide) rfl (fun ls hl => ?_)
      exact L40 N p1 (0 : Int32) (1000000 : Int32) (0 : Int32) d _ _ _ hw (lv_sub hl [3, 4, 2, 1, 0] rfl) h
    · replace h := ite_f c6 h
      refine lv_aload_n hx hb dX4_fair_25 rfl (lv_at hl 0 rfl) ?_
      refine lv_ldc hx hb cx.1.2.2.2.1 (cx.1.2.2.2.2 _ tw_2_130) dX4_fair_26 ?_
      obtain ⟨x7, d8, g9, h⟩ := bd2_ex h
      refine c_V (As := [.int (-1000000005 : Int32)]) (rest := []) (w' := (XC g q d8)) cx hw (c_X4_tell l g q N (-1000000005 : Int32) d x7 d8 g9) (cl_X4_45 cx.1.2.2.2.2 ⟨Nat.le_of_ble_eq_true rfl, Nat.le_of_ble_eq_true rfl⟩) (x_recv cx hw (ci := 4) rfl 0 rfl) (Ct.all (XC_ll ..)) hl.1 rfl rfl (Nat.le_of_ble_eq_true rfl) dX4_fair_28 ⟨Nat.le_of_ble_eq_true rfl, Nat.le_of_ble_eq_true rfl⟩ (st1 := [.int x7]) rfl (fun H locs hw => ?_)
      exact r_i cx hr hlocks hw (pr1 h) (congrArg (fun z0 => (XC g q z0)) (pr2 h)) dX4_fair_31
  · replace h := ite_t c3 h
    refine lv_aload_n hx hb dX4_fair_10 rfl (lv_at hl 0 rfl) ?_
    refine lv_ldc hx hb cx.1.2.2.2.1 (cx.1.2.2.2.2 _ tw_1_202) dX4_fair_11 ?_
    obtain ⟨x10, d11, g12, h⟩ := bd2_ex h
    refine c_V (As := [.int (-1000000001 : Int32)]) (rest := []) (w' := (XC g q d11)) cx hw (c_X4_tell l g q N (-1000000001 : Int32) d x10 d11 g12) (cl_X4_45 cx.1.2.2.2.2 ⟨Nat.le_of_ble_eq_true rfl, Nat.le_of_ble_eq_true rfl⟩) (x_recv cx hw (ci := 4) rfl 0 rfl) (Ct.all (XC_ll ..)) hl.1 rfl rfl (Nat.le_of_ble_eq_true rfl) dX4_fair_13 ⟨Nat.le_of_ble_eq_true rfl, Nat.le_of_ble_eq_true rfl⟩ (st1 := [.int x10]) rfl (fun H locs hw => ?_)
    exact r_i cx hr hlocks hw (pr1 h) (congrArg (fun z0 => (XC g q z0)) (pr2 h)) dX4_fair_16
set_option maxHeartbeats 4000000 in
set_option maxRecDepth 100000 in
theorem c_X4_ways (l : Launch) (g : gE) (q : Nat → Nat) (N : Nat) (p1 : Int32) (p2 : Int32) (d : XD) (r : Int32) (d' : XD) (h : f_X4_ways N  p1 p2 d = some (r, d')) : MO l yX4_ways (Cond.code yX4_ways cX4_ways 8 (some .int) :: TB) rm_X4_ways [.ref (q 0), .int p1, .int p2] g ((XC g q d)) ((XC g q d')) (some (.int r)) 0 0 := by
  refine MO.of (cc := cX4_ways) (maxL := 8) (ret := (some .int)) (by decide) ?_
  intro p e s m below meth c cx hw hr hlocks _
  have hx := cx.1.1
  have hb := cx.1.2.1
  refine en_go (lv := [(0, .ref (q 0)), (1, .int p1), (2, .int p2)]) (Nat.le_of_ble_eq_true rfl) rfl (fun ls hl => ?_)
  have L70 : ∀ (n70 : Nat) (a1 : Int32) (a2 : Int32) (a3 : Int32) (a4 : Int32) (a5 : Int32) (a6 : Int32) (d_ : XD) (H : Heap) (locs : List Loc) (ls : Array Slot), Wd g (va_A ((XC g q d)) s.heap.size) ((XC g q d_)) s H locs → lv_has ls 8 [(0, .ref (q 0)), (1, .int a1), (2, .int a2), (3, .int a3), (4, .int a4), (5, .int a5), (6, .int a6)] → f_X4_ways_L70 N   n70 a1 a2 a3 a4 a5 a6 d_ = some (r, d') → W p l e rm_X4_ways s m ([.ref (q 0), .int p1, .int p2] : List Value).toArray below meth c H locs 0 0 (MQ below (QO (some (.int r)) g ((XC g q d')) (va_A ((XC g q d)) s.heap.size)) ([.ref (q 0), .int p1, .int p2] : List Value).toArray s 0 0 (va_A ((XC g q d)) s.heap.size)) (F0 m 70 ls []) := by
    intro n70
    induction n70 with
    | zero => intro a1 a2 a3 a4 a5 a6 d_ H locs ls hw hl h; exact (Option.some_ne_none _ h.symm).elim
    | succ n70 ih70 =>
      have L79 : ∀ (n79 : Nat) (a1 : Int32) (a2 : Int32) (a3 : Int32) (a4 : Int32) (a5 : Int32) (a6 : Int32) (a7 : Int32) (d_ : XD) (H : Heap) (locs : List Loc) (ls : Array Slot), Wd g (va_A ((XC g q d)) s.heap.size) ((XC g q d_)) s H locs → lv_has ls 8 [(0, .ref (q 0)), (1, .int a1), (2, .int a2), (3, .int a3), (4, .int a4), (5, .int a5), (6, .int a6), (7, .int a7)] → f_X4_ways_L79 N  (f_X4_ways_L70 N   n70) n79 a1 a2 a3 a4 a5 a6 a7 d_ = some (r, d') → W p l e rm_X4_ways s m ([.ref (q 0), .int p1, .int p2] : List Value).toArray below meth c H locs 0 0 (MQ below (QO (some (.int r)) g ((XC g q d')) (va_A ((XC g q d)) s.heap.size)) ([.ref (q 0), .int p1, .int p2] : List Value).toArray s 0 0 (va_A ((XC g q d)) s.heap.size)) (F0 m 79 ls []) := by
        intro n79
        induction n79 with
        | zero => intro a1 a2 a3 a4 a5 a6 a7 d_ H locs ls hw hl h; exact (Option.some_ne_none _ h.symm).elim
        | succ n79 ih79 =>
          intro a1 a2 a3 a4 a5 a6 a7 d_ H locs ls hw hl h
          rw [f_X4_ways_L79] at h
          refine lv_iload hx hb dX4_ways_79 (lv_at hl 7 rfl) ?_
          refine lv_iload_n hx hb dX4_ways_81 rfl (lv_at hl 3 rfl) ?_
          refine lv_icmp_gt (tgt := 126) hx hb dX4_ways_82 (by decide) (fun c30 => ?_) (fun c30 => ?_)
          · replace h := ite_t c30 h
            obtain ⟨x31, ex31⟩ : ∃ y : Int32, y = (a6 + 1) := ⟨_, rfl⟩
            replace h := lt_nx ex31 h
            refine lv_iinc (v := x31) (lv' := [(6, .int x31), (0, .ref (q 0)), (1, .int a1), (2, .int a2), (3, .int a3), (4, .int a4), (5, .int a5), (7, .int a7)]) hx hb dX4_ways_126 hl (k := 6) rfl (by rw [ex31]; rfl) (by decide) rfl (fun ls hl => ?_)
            refine lv_goto (tgt := 70) hx hb dX4_ways_129 (by decide) ?_
            exact ih70 a1 a2 a3 a4 a5 x31 d_ _ _ _ hw (lv_sub hl [1, 2, 3, 4, 5, 6, 0] rfl) h
          · replace h := ite_f c30 h
            refine lv_aload_n hx hb dX4_ways_85 rfl (lv_at hl 0 rfl) ?_
            refine gf_X4_19 cx hw 0 rfl rfl dX4_ways_86 ?_
            refine gf_X4_102 cx hw 27 rfl rfl dX4_ways_89 ?_
            refine lv_iload_n hx hb dX4_ways_92 rfl (lv_at hl 1 rfl) ?_
            refine lv_iload hx hb dX4_ways_93 (lv_at hl 4 rfl) ?_
            refine lv_iload hx hb dX4_ways_95 (lv_at hl 6 rfl) ?_
            refine lv_ior hx hb dX4_ways_97 ?_
            refine lv_iload hx hb dX4_ways_98 (lv_at hl 7 rfl) ?_
            refine lv_bipush (v := 9) hx hb dX4_ways_100 (by decide) ?_
            refine lv_ishl hx hb dX4_ways_102 ?_
            refine lv_ior hx hb dX4_ways_103 ?_
            have i32 := ck_in h
            replace h := ck_nx h
            refine x_iast cx hw 37 rfl i32 dX4_ways_104 (fun H locs hw => ?_)
            obtain ⟨d33, ed33, h⟩ := lt_ex h
            have hw : Wd g (va_A ((XC g q d)) s.heap.size) ((XC g q d33)) s H locs := by rw [ed33]; exact hw
            refine lv_aload_n hx hb dX4_ways_105 rfl (lv_at hl 0 rfl) ?_
            refine gf_X4_19 cx hw 0 rfl rfl dX4_ways_106 ?_
            refine lv_iload_n hx hb dX4_ways_109 rfl (lv_at hl 1 rfl) ?_
            obtain ⟨x34, g35, h⟩ := bd_ex h
            refine c_V (As := [.int a1]) (rest := []) (w' := (XC g q d33)) cx hw (c_X3_heirFor l g (qs 27 q) N a1 (x_trial d33) x34 g35) (cl_X4_131 cx.1.2.2.2.2 ⟨Nat.le_of_ble_eq_true rfl, Nat.le_of_ble_eq_true rfl⟩) (x_recv cx hw (ci := 3) rfl 27 rfl) (ct_X__27_28_29_30_31_32_33_34_35_36_37_38_39__V g q d33 ) hl.1 rfl rfl (Nat.le_of_ble_eq_true rfl) dX4_ways_110 ⟨Nat.le_of_ble_eq_true rfl, Nat.le_of_ble_eq_true rfl⟩ (st1 := [.int x34]) rfl (fun H locs hw => ?_)
            refine lv_iload_n hx hb dX4_ways_113 rfl (lv_at hl 2 rfl) ?_
            refine lv_icmp_ne (tgt := 120) hx hb dX4_ways_114 (by decide) (fun c36 => ?_) (fun c36 => ?_)
            · replace h := ite_f c36 h
              obtain ⟨x37, ex37⟩ : ∃ y : Int32, y = (a7 + 1) := ⟨_, rfl⟩
              replace h := lt_nx ex37 h
              refine lv_iinc (v := x37) (lv' := [(7, .int x37), (0, .ref (q 0)), (1, .int a1), (2, .int a2), (3, .int a3), (4, .int a4), (5, .int a5), (6, .int a6)]) hx hb dX4_ways_120 hl (k := 7) rfl (by rw [ex37]; rfl) (by decide) rfl (fun ls hl => ?_)
              refine lv_goto (tgt := 79) hx hb dX4_ways_123 (by decide) ?_
              exact ih79 a1 a2 a3 a4 a5 a6 x37 d33 _ _ _ hw (lv_sub hl [1, 2, 3, 4, 5, 6, 7, 0] rfl) h
            · replace h := ite_t c36 h
              obtain ⟨x38, ex38⟩ : ∃ y : Int32, y = (a5 + 1) := ⟨_, rfl⟩
              replace h := lt_nx ex38 h
              refine lv_iinc (v := x38) (lv' := [(5, .int x38), (0, .ref (q 0)), (1, .int a1), (2, .int a2), (3, .int a3), (4, .int a4), (6, .int a6), (7, .int a7)]) hx hb dX4_ways_117 hl (k := 5) rfl (by rw [ex38]; rfl) (by decide) rfl (fun ls hl => ?_)
              obtain ⟨x39, ex39⟩ : ∃ y : Int32, y = (a7 + 1) := ⟨_, rfl⟩
              replace h := lt_nx ex39 h
              refine lv_iinc (v := x39) (lv' := [(7, .int x39), (5, .int x38), (0, .ref (q 0)), (1, .int a1), (2, .int a2), (3, .int a3), (4, .int a4), (6, .int a6)]) hx hb dX4_ways_120 hl (k := 7) rfl (by rw [ex39]; rfl) (by decide) rfl (fun ls hl => ?_)
              refine lv_goto (tgt := 79) hx hb dX4_ways_123 (by decide) ?_
              exact ih79 a1 a2 a3 a4 x38 a6 x39 d33 _ _ _ hw (lv_sub hl [2, 3, 4, 5, 6, 1, 7, 0] rfl) h
      intro a1 a2 a3 a4 a5 a6 d_ H locs ls hw hl h
      rw [f_X4_ways_L70] at h
      refine lv_iload hx hb dX4_ways_70 (lv_at hl 6 rfl) ?_
      refine lv_iload_n hx hb dX4_ways_72 rfl (lv_at hl 3 rfl) ?_
      refine lv_icmp_gt (tgt := 132) hx hb dX4_ways_73 (by decide) (fun c40 => ?_) (fun c40 => ?_)
      · replace h := ite_t c40 h
        refine lv_iload hx hb dX4_ways_132 (lv_at hl 5 rfl) ?_
        exact r_i cx hr hlocks hw (pr1 h) (congrArg (fun z0 => (XC g q z0)) (pr2 h)) dX4_ways_134
      · replace h := ite_f c40 h
        refine lv_iconst (v := 0) hx hb dX4_ways_76 (by decide) ?_
        refine lv_istore (lv' := [(7, .int (0 : Int32)), (0, .ref (q 0)), (1, .int a1), (2, .int a2), (3, .int a3), (4, .int a4), (5, .int a5), (6, .int a6)]) hx hb dX4_ways_77 hl (by decide) rfl (fun ls hl => ?_)
        exact L79 N a1 a2 a3 a4 a5 a6 (0 : Int32) d_ _ _ _ hw (lv_sub hl [1, 2, 3, 4, 5, 6, 7, 0] rfl) h
  unfold f_X4_ways at h
  refine lv_aload_n hx hb dX4_ways_0 rfl (lv_at hl 0 rfl) ?_
  refine lv_iload_n hx hb dX4_ways_1 rfl (lv_at hl 1 rfl) ?_
  refine lv_iload_n hx hb dX4_ways_2 rfl (lv_at hl 2 rfl) ?_
  obtain ⟨x1, g2, h⟩ := bd_ex h
  refine c_V (As := [.int p1, .int p2]) (rest := []) (w' := (XC g q d)) cx hw (c_X4_areTwo l g q N p1 p2 d x1 g2) (cl_X4_117 cx.1.2.2.2.2 ⟨Nat.le_of_ble_eq_true rfl, Nat.le_of_ble_eq_true rfl⟩) (x_recv cx hw (ci := 4) rfl 0 rfl) (Ct.all (XC_ll ..)) hl.1 rfl rfl (Nat.le_of_ble_eq_true rfl) dX4_ways_3 ⟨Nat.le_of_ble_eq_true rfl, Nat.le_of_ble_eq_true rfl⟩ (st1 := [.int x1]) rfl (fun H locs hw => ?_)
  refine lv_if_ne (tgt := 16) hx hb dX4_ways_6 (by decide) (fun c3 => ?_) (fun c3 => ?_)
  · replace h := ite_f c3 h
    refine lv_aload_n hx hb dX4_ways_16 rfl (lv_at hl 0 rfl) ?_
    refine gf_X4_12 cx hw 0 rfl rfl dX4_ways_17 ?_
    refine lv_iload_n hx hb dX4_ways_20 rfl (lv_at hl 2 rfl) ?_
    obtain ⟨x4, g5, h⟩ := bd_ex h
    refine c_V (As := [.int p2]) (rest := []) (w' := (XC g q d)) cx hw (c_X3_lives l g (qs 1 q) N p2 (x_valley d) x4 g5) (cl_X4_90 cx.1.2.2.2.2 ⟨Nat.le_of_ble_eq_true rfl, Nat.le_of_ble_eq_true rfl⟩) (x_recv cx hw (ci := 3) rfl 1 rfl) (ct_X__1_2_3_4_5_6_7_8_9_10_11_12_13__V g q d ) hl.1 rfl rfl (Nat.le_of_ble_eq_true rfl) dX4_ways_21 ⟨Nat.le_of_ble_eq_true rfl, Nat.le_of_ble_eq_true rfl⟩ (st1 := [.int x4]) rfl (fun H locs hw => ?_)
    refine lv_if_ne (tgt := 34) hx hb dX4_ways_24 (by decide) (fun c6 => ?_) (fun c6 => ?_)
    · replace h := ite_f c6 h
      refine lv_aload_n hx hb dX4_ways_34 rfl (lv_at hl 0 rfl) ?_
      refine gf_X4_19 cx hw 0 rfl rfl dX4_ways_35 ?_
      refine lv_aload_n hx hb dX4_ways_38 rfl (lv_at hl 0 rfl) ?_
      refine gf_X4_12 cx hw 0 rfl rfl dX4_ways_39 ?_
      obtain ⟨d7, g8, h⟩ := bd_ex h
      refine c_V (As := [.ref (qs 1 q 0)]) (rest := []) (w' := (XC g q (x_set_trial d d7))) cx hw (c_X3_takeFrom l g (qs 27 q) (qs 1 q) N  (x_trial d) (x_valley d) d7 g8) (cl_X4_164 cx.1.2.2.2.2 ⟨Nat.le_of_ble_eq_true rfl, Nat.le_of_ble_eq_true rfl⟩) (x_recv cx hw (ci := 3) rfl 27 rfl) (ct_X__27_28_29_30_31_32_33_34_35_36_37_38_39_1_2_3_4_5_6_7_8_9_10_11_12_13__V_V_0 g q d d7) hl.1 rfl rfl (Nat.le_of_ble_eq_true rfl) dX4_ways_42 ⟨Nat.le_of_ble_eq_true rfl, Nat.le_of_ble_eq_true rfl⟩ (st1 := []) rfl (fun H locs hw => ?_)
      obtain ⟨d9, ed9, h⟩ := lt_ex h
      have hw : Wd g (va_A ((XC g q d)) s.heap.size) ((XC g q d9)) s H locs := by rw [ed9]; exact hw
      refine lv_bipush (v := 63) hx hb dX4_ways_45 (by decide) ?_
      refine lv_istore_n (lv' := [(3, .int (63 : Int32)), (0, .ref (q 0)), (1, .int p1), (2, .int p2)]) hx hb dX4_ways_47 rfl hl (by decide) rfl (fun ls hl => ?_)
      refine lv_aload_n hx hb dX4_ways_48 rfl (lv_at hl 1 rfl) ?_
      refine gf_X4_12 cx hw 0 rfl rfl dX4_ways_49 ?_
      refine gf_X4_102 cx hw 1 rfl rfl dX4_ways_52 ?_
      refine lv_iload_n hx hb dX4_ways_55 rfl (lv_at hl 2 rfl) ?_
      have ix10 := rd_in h
      refine x_iald cx hw 11 rfl ix10 dX4_ways_56 ?_
      refine lv_topi (fun x10 ex10 => ?_)
      replace h := rd_nx ex10 h
      refine lv_iconst (v := 0) hx hb dX4_ways_57 (by decide) ?_
      refine lv_iload_n hx hb dX4_ways_58 rfl (lv_at hl 0 rfl) ?_
      obtain ⟨x11, g12, h⟩ := bd_ex h
      refine c_S (As := [.int x10, .int (0 : Int32), .int (63 : Int32)]) (rest := []) (w' := (XC g q d9)) cx hw (c_X4_copied l g  N x10 (0 : Int32) (63 : Int32)  x11 g12) (cl_X4_180 cx.1.2.2.2.2 ⟨Nat.le_of_ble_eq_true rfl, Nat.le_of_ble_eq_true rfl⟩) Ct.nil hl.1 rfl rfl (Nat.le_of_ble_eq_true rfl) dX4_ways_59 ⟨Nat.le_of_ble_eq_true rfl, Nat.le_of_ble_eq_true rfl⟩ (st1 := [.int x11]) rfl (fun H locs hw => ?_)
      refine lv_istore (lv' := [(4, .int x11), (3, .int (63 : Int32)), (0, .ref (q 0)), (1, .int p1), (2, .int p2)]) hx hb dX4_ways_62 hl (by decide) rfl (fun ls hl => ?_)
      refine lv_iconst (v := 0) hx hb dX4_ways_64 (by decide) ?_
      refine lv_istore (lv' := [(5, .int (0 : Int32)), (4, .int x11), (3, .int (63 : Int32)), (0, .ref (q 0)), (1, .int p1), (2, .int p2)]) hx hb dX4_ways_65 hl (by decide) rfl (fun ls hl => ?_)
      refine lv_iconst (v := 0) hx hb dX4_ways_67 (by decide) ?_
      refine lv_istore (lv' := [(6, .int (0 : Int32)), (5, .int (0 : Int32)), (4, .int x11), (3, .int (63 : Int32)), (0, .ref (q 0)), (1, .int p1), (2, .int p2)]) hx hb dX4_ways_68 hl (by decide) rfl (fun ls hl => ?_)
      exact L70 N p1 p2 (63 : Int32) x11 (0 : Int32) (0 : Int32) d9 _ _ _ hw (lv_sub hl [4, 5, 6, 3, 2, 1, 0] rfl) h
    · replace h := ite_t c6 h
      refine lv_aload_n hx hb dX4_ways_27 rfl (lv_at hl 0 rfl) ?_
      refine lv_ldc hx hb cx.1.2.2.2.1 (cx.1.2.2.2.2 _ tw_2_130) dX4_ways_28 ?_
      obtain ⟨x13, d14, g15, h⟩ := bd2_ex h
      refine c_V (As := [.int (-1000000005 : Int32)]) (rest := []) (w' := (XC g q d14)) cx hw (c_X4_tell l g q N (-1000000005 : Int32) d x13 d14 g15) (cl_X4_45 cx.1.2.2.2.2 ⟨Nat.le_of_ble_eq_true rfl, Nat.le_of_ble_eq_true rfl⟩) (x_recv cx hw (ci := 4) rfl 0 rfl) (Ct.all (XC_ll ..)) hl.1 rfl rfl (Nat.le_of_ble_eq_true rfl) dX4_ways_30 ⟨Nat.le_of_ble_eq_true rfl, Nat.le_of_ble_eq_true rfl⟩ (st1 := [.int x13]) rfl (fun H locs hw => ?_)
      exact r_i cx hr hlocks hw (pr1 h) (congrArg (fun z0 => (XC g q z0)) (pr2 h)) dX4_ways_33
  · replace h := ite_t c3 h
    refine lv_aload_n hx hb dX4_ways_9 rfl (lv_at hl 0 rfl) ?_
    refine lv_ldc hx hb cx.1.2.2.2.1 (cx.1.2.2.2.2 _ tw_1_202) dX4_ways_10 ?_
    obtain ⟨x16, d17, g18, h⟩ := bd2_ex h
    refine c_V (As := [.int (-1000000001 : Int32)]) (rest := []) (w' := (XC g q d17)) cx hw (c_X4_tell l g q N (-1000000001 : Int32) d x16 d17 g18) (cl_X4_45 cx.1.2.2.2.2 ⟨Nat.le_of_ble_eq_true rfl, Nat.le_of_ble_eq_true rfl⟩) (x_recv cx hw (ci := 4) rfl 0 rfl) (Ct.all (XC_ll ..)) hl.1 rfl rfl (Nat.le_of_ble_eq_true rfl) dX4_ways_12 ⟨Nat.le_of_ble_eq_true rfl, Nat.le_of_ble_eq_true rfl⟩ (st1 := [.int x16]) rfl (fun H locs hw => ?_)
    exact r_i cx hr hlocks hw (pr1 h) (congrArg (fun z0 => (XC g q z0)) (pr2 h)) dX4_ways_15
set_option maxHeartbeats 4000000 in
set_option maxRecDepth 100000 in
theorem c_X4_feed (l : Launch) (g : gE) (q : Nat → Nat) (N : Nat) (p1 : Int32) (p2 : Int32) (d : XD) (r : Int32) (d' : XD) (h : f_X4_feed N  p1 p2 d = some (r, d')) : MO l yX4_feed (Cond.code yX4_feed cX4_feed 4 (some .int) :: TB) rm_X4_feed [.ref (q 0), .int p1, .int p2] g ((XC g q d)) ((XC g q d')) (some (.int r)) 0 0 := by
  refine MO.of (cc := cX4_feed) (maxL := 4) (ret := (some .int)) (by decide) ?_
  intro p e s m below meth c cx hw hr hlocks _
  have hx := cx.1.1
  have hb := cx.1.2.1
  refine en_go (lv := [(0, .ref (q 0)), (1, .int p1), (2, .int p2)]) (Nat.le_of_ble_eq_true rfl) rfl (fun ls hl => ?_)
  have L41 : ∀ (n41 : Nat) (a1 : Int32) (a3 : Int32) (d_ : XD) (H : Heap) (locs : List Loc) (ls : Array Slot), Wd g (va_A ((XC g q d)) s.heap.size) ((XC g q d_)) s H locs → lv_has ls 4 [(0, .ref (q 0)), (1, .int a1), (3, .int a3)] → f_X4_feed_L41 N   n41 a1 a3 d_ = some (r, d') → W p l e rm_X4_feed s m ([.ref (q 0), .int p1, .int p2] : List Value).toArray below meth c H locs 0 0 (MQ below (QO (some (.int r)) g ((XC g q d')) (va_A ((XC g q d)) s.heap.size)) ([.ref (q 0), .int p1, .int p2] : List Value).toArray s 0 0 (va_A ((XC g q d)) s.heap.size)) (F0 m 41 ls []) := by
    intro n41
    induction n41 with
    | zero => intro a1 a3 d_ H locs ls hw hl h; exact (Option.some_ne_none _ h.symm).elim
    | succ n41 ih41 =>
      intro a1 a3 d_ H locs ls hw hl h
      rw [f_X4_feed_L41] at h
      refine lv_iload_n hx hb dX4_feed_41 rfl (lv_at hl 2 rfl) ?_
      refine lv_if_lt (tgt := 67) hx hb dX4_feed_42 (by decide) (fun c19 => ?_) (fun c19 => ?_)
      · replace h := ite_t c19 h
        refine lv_aload_n hx hb dX4_feed_67 rfl (lv_at hl 0 rfl) ?_
        refine gf_X4_25 cx hw 0 rfl rfl dX4_feed_68 ?_
        refine gf_X4_195 cx hw 40 rfl rfl dX4_feed_71 ?_
        refine gf_X4_208 cx hw 41 rfl rfl dX4_feed_74 ?_
        exact r_i cx hr hlocks hw (pr1 h) (congrArg (fun z0 => (XC g q z0)) (pr2 h)) dX4_feed_77
      · replace h := ite_f c19 h
        refine lv_aload_n hx hb dX4_feed_45 rfl (lv_at hl 0 rfl) ?_
        refine gf_X4_25 cx hw 0 rfl rfl dX4_feed_46 ?_
        refine gf_X4_195 cx hw 40 rfl rfl dX4_feed_49 ?_
        refine lv_iload_n hx hb dX4_feed_52 rfl (lv_at hl 1 rfl) ?_
        refine lv_bipush (v := 8) hx hb dX4_feed_53 (by decide) ?_
        refine lv_iload_n hx hb dX4_feed_55 rfl (lv_at hl 2 rfl) ?_
        refine lv_imul hx hb dX4_feed_56 ?_
        refine lv_ishr hx hb dX4_feed_57 ?_
        obtain ⟨d20, g21, h⟩ := bd_ex h
        refine c_V (As := [.int (a1 >>> (((8 : Int32) * a3) &&& 31))]) (rest := []) (w' := (XC g q (x_set_reader d_ (r_set_tape (x_reader d_) d20)))) cx hw (c_X1_append l g (qs 1 (qs 40 q)) N (a1 >>> (((8 : Int32) * a3) &&& 31)) (r_tape (x_reader d_)) d20 g21) (cl_X4_204 cx.1.2.2.2.2 ⟨Nat.le_of_ble_eq_true rfl, Nat.le_of_ble_eq_true rfl⟩) (x_recv cx hw (ci := 1) rfl 41 rfl) (ct_X__41_42__T_0 g q d_ d20) hl.1 rfl rfl (Nat.le_of_ble_eq_true rfl) dX4_feed_58 ⟨Nat.le_of_ble_eq_true rfl, Nat.le_of_ble_eq_true rfl⟩ (st1 := []) rfl (fun H locs hw => ?_)
        obtain ⟨d22, ed22, h⟩ := lt_ex h
        have hw : Wd g (va_A ((XC g q d)) s.heap.size) ((XC g q d22)) s H locs := by rw [ed22]; exact hw
        obtain ⟨x23, ex23⟩ : ∃ y : Int32, y = (a3 + (-1)) := ⟨_, rfl⟩
        replace h := lt_nx ex23 h
        refine lv_iinc (v := x23) (lv' := [(3, .int x23), (0, .ref (q 0)), (1, .int a1)]) hx hb dX4_feed_61 hl (k := 2) rfl (by rw [ex23]; rfl) (by decide) rfl (fun ls hl => ?_)
        refine lv_goto (tgt := 41) hx hb dX4_feed_64 (by decide) ?_
        exact ih41 a1 x23 d22 _ _ _ hw (lv_sub hl [1, 2, 0] rfl) h
  unfold f_X4_feed at h
  refine lv_iload_n hx hb dX4_feed_0 rfl (lv_at hl 2 rfl) ?_
  refine lv_iconst (v := 1) hx hb dX4_feed_1 (by decide) ?_
  refine lv_iconst (v := 4) hx hb dX4_feed_2 (by decide) ?_
  obtain ⟨x1, g2, h⟩ := bd_ex h
  refine c_S (As := [.int p2, .int (1 : Int32), .int (4 : Int32)]) (rest := []) (w' := (XC g q d)) cx hw (c_X4_isWithin l g  N p2 (1 : Int32) (4 : Int32)  x1 g2) (cl_X4_40 cx.1.2.2.2.2 ⟨Nat.le_of_ble_eq_true rfl, Nat.le_of_ble_eq_true rfl⟩) Ct.nil hl.1 rfl rfl (Nat.le_of_ble_eq_true rfl) dX4_feed_3 ⟨Nat.le_of_ble_eq_true rfl, Nat.le_of_ble_eq_true rfl⟩ (st1 := [.int x1]) rfl (fun H locs hw => ?_)
  refine lv_if_ne (tgt := 16) hx hb dX4_feed_6 (by decide) (fun c3 => ?_) (fun c3 => ?_)
  · replace h := ite_f c3 h
    refine lv_aload_n hx hb dX4_feed_16 rfl (lv_at hl 0 rfl) ?_
    refine gf_X4_25 cx hw 0 rfl rfl dX4_feed_17 ?_
    refine gf_X4_195 cx hw 40 rfl rfl dX4_feed_20 ?_
    refine lv_iload_n hx hb dX4_feed_23 rfl (lv_at hl 2 rfl) ?_
    obtain ⟨x4, g5, h⟩ := bd_ex h
    refine c_V (As := [.int p2]) (rest := []) (w' := (XC g q d)) cx hw (c_X1_hasRoom l g (qs 1 (qs 40 q)) N p2 (r_tape (x_reader d)) x4 g5) (cl_X4_199 cx.1.2.2.2.2 ⟨Nat.le_of_ble_eq_true rfl, Nat.le_of_ble_eq_true rfl⟩) (x_recv cx hw (ci := 1) rfl 41 rfl) (ct_X__41_42__T g q d ) hl.1 rfl rfl (Nat.le_of_ble_eq_true rfl) dX4_feed_24 ⟨Nat.le_of_ble_eq_true rfl, Nat.le_of_ble_eq_true rfl⟩ (st1 := [.int x4]) rfl (fun H locs hw => ?_)
    refine lv_if_ne (tgt := 37) hx hb dX4_feed_27 (by decide) (fun c6 => ?_) (fun c6 => ?_)
    · replace h := ite_f c6 h
      refine lv_iload_n hx hb dX4_feed_37 rfl (lv_at hl 2 rfl) ?_
      refine lv_iconst (v := 1) hx hb dX4_feed_38 (by decide) ?_
      refine lv_isub hx hb dX4_feed_39 ?_
      refine lv_topi (fun x7 ex7 => ?_)
      replace h := lt_nx ex7 h
      refine lv_istore_n (lv' := [(3, .int x7), (0, .ref (q 0)), (1, .int p1), (2, .int p2)]) hx hb dX4_feed_40 rfl hl (by decide) rfl (fun ls hl => ?_)
      exact L41 N p1 x7 d _ _ _ hw (lv_sub hl [1, 2, 0] rfl) h
    · replace h := ite_t c6 h
      refine lv_aload_n hx hb dX4_feed_30 rfl (lv_at hl 0 rfl) ?_
      refine lv_ldc hx hb cx.1.2.2.2.1 (cx.1.2.2.2.2 _ tw_1_230) dX4_feed_31 ?_
      obtain ⟨x8, d9, g10, h⟩ := bd2_ex h
      refine c_V (As := [.int (-1000000002 : Int32)]) (rest := []) (w' := (XC g q d9)) cx hw (c_X4_tell l g q N (-1000000002 : Int32) d x8 d9 g10) (cl_X4_45 cx.1.2.2.2.2 ⟨Nat.le_of_ble_eq_true rfl, Nat.le_of_ble_eq_true rfl⟩) (x_recv cx hw (ci := 4) rfl 0 rfl) (Ct.all (XC_ll ..)) hl.1 rfl rfl (Nat.le_of_ble_eq_true rfl) dX4_feed_33 ⟨Nat.le_of_ble_eq_true rfl, Nat.le_of_ble_eq_true rfl⟩ (st1 := [.int x8]) rfl (fun H locs hw => ?_)
      exact r_i cx hr hlocks hw (pr1 h) (congrArg (fun z0 => (XC g q z0)) (pr2 h)) dX4_feed_36
  · replace h := ite_t c3 h
    refine lv_aload_n hx hb dX4_feed_9 rfl (lv_at hl 0 rfl) ?_
    refine lv_ldc hx hb cx.1.2.2.2.1 (cx.1.2.2.2.2 _ tw_1_202) dX4_feed_10 ?_
    obtain ⟨x11, d12, g13, h⟩ := bd2_ex h
    refine c_V (As := [.int (-1000000001 : Int32)]) (rest := []) (w' := (XC g q d12)) cx hw (c_X4_tell l g q N (-1000000001 : Int32) d x11 d12 g13) (cl_X4_45 cx.1.2.2.2.2 ⟨Nat.le_of_ble_eq_true rfl, Nat.le_of_ble_eq_true rfl⟩) (x_recv cx hw (ci := 4) rfl 0 rfl) (Ct.all (XC_ll ..)) hl.1 rfl rfl (Nat.le_of_ble_eq_true rfl) dX4_feed_12 ⟨Nat.le_of_ble_eq_true rfl, Nat.le_of_ble_eq_true rfl⟩ (st1 := [.int x11]) rfl (fun H locs hw => ?_)
    exact r_i cx hr hlocks hw (pr1 h) (congrArg (fun z0 => (XC g q z0)) (pr2 h)) dX4_feed_15
set_option maxHeartbeats 4000000 in
set_option maxRecDepth 100000 in
theorem c_X4_wipe (l : Launch) (g : gE) (q : Nat → Nat) (N : Nat)  (d : XD) (r : Int32) (d' : XD) (h : f_X4_wipe N  d = some (r, d')) : MO l yX4_wipe (Cond.code yX4_wipe cX4_wipe 1 (some .int) :: TB) rm_X4_wipe [.ref (q 0)] g ((XC g q d)) ((XC g q d')) (some (.int r)) 0 0 := by
  refine MO.of (cc := cX4_wipe) (maxL := 1) (ret := (some .int)) (by decide) ?_
  intro p e s m below meth c cx hw hr hlocks _
  have hx := cx.1.1
  have hb := cx.1.2.1
  refine en_go (lv := [(0, .ref (q 0))]) (Nat.le_of_ble_eq_true rfl) rfl (fun ls hl => ?_)
  unfold f_X4_wipe at h
  refine lv_aload_n hx hb dX4_wipe_0 rfl (lv_at hl 0 rfl) ?_
  refine gf_X4_25 cx hw 0 rfl rfl dX4_wipe_1 ?_
  refine gf_X4_195 cx hw 40 rfl rfl dX4_wipe_4 ?_
  obtain ⟨x1, d2, g3, h⟩ := bd2_ex h
  refine c_V (As := []) (rest := []) (w' := (XC g q (x_set_reader d (r_set_tape (x_reader d) d2)))) cx hw (c_X1_clear l g (qs 1 (qs 40 q)) N  (r_tape (x_reader d)) x1 d2 g3) (cl_X4_211 cx.1.2.2.2.2 ⟨Nat.le_of_ble_eq_true rfl, Nat.le_of_ble_eq_true rfl⟩) (x_recv cx hw (ci := 1) rfl 41 rfl) (ct_X__41_42__T_0 g q d d2) hl.1 rfl rfl (Nat.le_of_ble_eq_true rfl) dX4_wipe_7 ⟨Nat.le_of_ble_eq_true rfl, Nat.le_of_ble_eq_true rfl⟩ (st1 := [.int x1]) rfl (fun H locs hw => ?_)
  obtain ⟨d4, ed4, h⟩ := lt_ex h
  have hw : Wd g (va_A ((XC g q d)) s.heap.size) ((XC g q d4)) s H locs := by rw [ed4]; exact hw
  exact r_i cx hr hlocks hw (pr1 h) (congrArg (fun z0 => (XC g q z0)) (pr2 h)) dX4_wipe_10
set_option maxHeartbeats 4000000 in
set_option maxRecDepth 100000 in
theorem c_X4_image (l : Launch) (g : gE) (q : Nat → Nat) (N : Nat)  (d : XD) (r : Int32) (d' : XD) (h : f_X4_image N  d = some (r, d')) : MO l yX4_image (Cond.code yX4_image cX4_image 1 (some .int) :: TB) rm_X4_image [.ref (q 0)] g ((XC g q d)) ((XC g q d')) (some (.int r)) 0 0 := by
  refine MO.of (cc := cX4_image) (maxL := 1) (ret := (some .int)) (by decide) ?_
  intro p e s m below meth c cx hw hr hlocks _
  have hx := cx.1.1
  have hb := cx.1.2.1
  refine en_go (lv := [(0, .ref (q 0))]) (Nat.le_of_ble_eq_true rfl) rfl (fun ls hl => ?_)
  unfold f_X4_image at h
  refine lv_aload_n hx hb dX4_image_0 rfl (lv_at hl 0 rfl) ?_
  refine gf_X4_16 cx hw 0 rfl rfl dX4_image_1 ?_
  refine lv_aload_n hx hb dX4_image_4 rfl (lv_at hl 0 rfl) ?_
  refine gf_X4_12 cx hw 0 rfl rfl dX4_image_5 ?_
  obtain ⟨d1, g2, h⟩ := bd_ex h
  refine c_V (As := [.ref (qs 1 q 0)]) (rest := []) (w' := (XC g q (x_set_kept d d1))) cx hw (c_X3_takeFrom l g (qs 14 q) (qs 1 q) N  (x_kept d) (x_valley d) d1 g2) (cl_X4_164 cx.1.2.2.2.2 ⟨Nat.le_of_ble_eq_true rfl, Nat.le_of_ble_eq_true rfl⟩) (x_recv cx hw (ci := 3) rfl 14 rfl) (ct_X__14_15_16_17_18_19_20_21_22_23_24_25_26_1_2_3_4_5_6_7_8_9_10_11_12_13__V_V_0 g q d d1) hl.1 rfl rfl (Nat.le_of_ble_eq_true rfl) dX4_image_8 ⟨Nat.le_of_ble_eq_true rfl, Nat.le_of_ble_eq_true rfl⟩ (st1 := []) rfl (fun H locs hw => ?_)
  obtain ⟨d3, ed3, h⟩ := lt_ex h
  have hw : Wd g (va_A ((XC g q d)) s.heap.size) ((XC g q d3)) s H locs := by rw [ed3]; exact hw
  refine lv_aload_n hx hb dX4_image_11 rfl (lv_at hl 0 rfl) ?_
  refine lv_iconst (v := 1) hx hb dX4_image_12 (by decide) ?_
  refine pf_X4_267 cx hw 0 rfl rfl rfl (Nat.le_of_ble_eq_true rfl) dX4_image_13 (fun H locs hw => ?_)
  obtain ⟨d4, ed4, h⟩ := lt_ex h
  have hw : Wd g (va_A ((XC g q d)) s.heap.size) ((XC g q d4)) s H locs := by rw [ed4]; exact hw
  refine lv_iconst (v := 1) hx hb dX4_image_16 (by decide) ?_
  exact r_i cx hr hlocks hw (pr1 h) (congrArg (fun z0 => (XC g q z0)) (pr2 h)) dX4_image_17
set_option maxHeartbeats 4000000 in
set_option maxRecDepth 100000 in
theorem c_X4_undo (l : Launch) (g : gE) (q : Nat → Nat) (N : Nat)  (d : XD) (r : Int32) (d' : XD) (h : f_X4_undo N  d = some (r, d')) : MO l yX4_undo (Cond.code yX4_undo cX4_undo 1 (some .int) :: TB) rm_X4_undo [.ref (q 0)] g ((XC g q d)) ((XC g q d')) (some (.int r)) 0 0 := by
  refine MO.of (cc := cX4_undo) (maxL := 1) (ret := (some .int)) (by decide) ?_
  intro p e s m below meth c cx hw hr hlocks _
  have hx := cx.1.1
  have hb := cx.1.2.1
  refine en_go (lv := [(0, .ref (q 0))]) (Nat.le_of_ble_eq_true rfl) rfl (fun ls hl => ?_)
  unfold f_X4_undo at h
  refine lv_aload_n hx hb dX4_undo_0 rfl (lv_at hl 0 rfl) ?_
  refine gf_X4_267 cx hw 0 rfl rfl dX4_undo_1 ?_
  refine lv_if_ne (tgt := 14) hx hb dX4_undo_4 (by decide) (fun c1 => ?_) (fun c1 => ?_)
  · replace h := ite_f c1 h
    refine lv_aload_n hx hb dX4_undo_14 rfl (lv_at hl 0 rfl) ?_
    refine gf_X4_12 cx hw 0 rfl rfl dX4_undo_15 ?_
    refine lv_aload_n hx hb dX4_undo_18 rfl (lv_at hl 0 rfl) ?_
    refine gf_X4_16 cx hw 0 rfl rfl dX4_undo_19 ?_
    obtain ⟨d2, g3, h⟩ := bd_ex h
    refine c_V (As := [.ref (qs 14 q 0)]) (rest := []) (w' := (XC g q (x_set_valley d d2))) cx hw (c_X3_takeFrom l g (qs 1 q) (qs 14 q) N  (x_valley d) (x_kept d) d2 g3) (cl_X4_164 cx.1.2.2.2.2 ⟨Nat.le_of_ble_eq_true rfl, Nat.le_of_ble_eq_true rfl⟩) (x_recv cx hw (ci := 3) rfl 1 rfl) (ct_X__1_2_3_4_5_6_7_8_9_10_11_12_13_14_15_16_17_18_19_20_21_22_23_24_25_26__V_V_0 g q d d2) hl.1 rfl rfl (Nat.le_of_ble_eq_true rfl) dX4_undo_22 ⟨Nat.le_of_ble_eq_true rfl, Nat.le_of_ble_eq_true rfl⟩ (st1 := []) rfl (fun H locs hw => ?_)
    obtain ⟨d4, ed4, h⟩ := lt_ex h
    have hw : Wd g (va_A ((XC g q d)) s.heap.size) ((XC g q d4)) s H locs := by rw [ed4]; exact hw
    refine lv_aload_n hx hb dX4_undo_25 rfl (lv_at hl 0 rfl) ?_
    refine gf_X4_12 cx hw 0 rfl rfl dX4_undo_26 ?_
    refine gf_X4_261 cx hw 1 rfl rfl dX4_undo_29 ?_
    exact r_i cx hr hlocks hw (pr1 h) (congrArg (fun z0 => (XC g q z0)) (pr2 h)) dX4_undo_32
  · replace h := ite_t c1 h
    refine lv_aload_n hx hb dX4_undo_7 rfl (lv_at hl 0 rfl) ?_
    refine lv_ldc hx hb cx.1.2.2.2.1 (cx.1.2.2.2.2 _ tw_2_92) dX4_undo_8 ?_
    obtain ⟨x5, d6, g7, h⟩ := bd2_ex h
    refine c_V (As := [.int (-1000000004 : Int32)]) (rest := []) (w' := (XC g q d6)) cx hw (c_X4_tell l g q N (-1000000004 : Int32) d x5 d6 g7) (cl_X4_45 cx.1.2.2.2.2 ⟨Nat.le_of_ble_eq_true rfl, Nat.le_of_ble_eq_true rfl⟩) (x_recv cx hw (ci := 4) rfl 0 rfl) (Ct.all (XC_ll ..)) hl.1 rfl rfl (Nat.le_of_ble_eq_true rfl) dX4_undo_10 ⟨Nat.le_of_ble_eq_true rfl, Nat.le_of_ble_eq_true rfl⟩ (st1 := [.int x5]) rfl (fun H locs hw => ?_)
    exact r_i cx hr hlocks hw (pr1 h) (congrArg (fun z0 => (XC g q z0)) (pr2 h)) dX4_undo_13
set_option maxHeartbeats 4000000 in
set_option maxRecDepth 100000 in
theorem c_X4_tear (l : Launch) (g : gE) (q : Nat → Nat) (N : Nat)  (d : XD) (r : Int32) (d' : XD) (h : f_X4_tear N  d = some (r, d')) : MO l yX4_tear (Cond.code yX4_tear cX4_tear 2 (some .int) :: TB) rm_X4_tear [.ref (q 0)] g ((XC g q d)) ((XC g q d')) (some (.int r)) 0 0 := by
  refine MO.of (cc := cX4_tear) (maxL := 2) (ret := (some .int)) (by decide) ?_
  intro p e s m below meth c cx hw hr hlocks _
  have hx := cx.1.1
  have hb := cx.1.2.1
  refine en_go (lv := [(0, .ref (q 0))]) (Nat.le_of_ble_eq_true rfl) rfl (fun ls hl => ?_)
  unfold f_X4_tear at h
  refine lv_aload_n hx hb dX4_tear_0 rfl (lv_at hl 0 rfl) ?_
  refine gf_X4_267 cx hw 0 rfl rfl dX4_tear_1 ?_
  refine lv_if_eq (tgt := 11) hx hb dX4_tear_4 (by decide) (fun c1 => ?_) (fun c1 => ?_)
  · replace h := ite_t c1 h
    refine lv_iconst (v := 0) hx hb dX4_tear_11 (by decide) ?_
    refine lv_istore_n (lv' := [(1, .int (0 : Int32)), (0, .ref (q 0))]) hx hb dX4_tear_12 rfl hl (by decide) rfl (fun ls hl => ?_)
    refine lv_aload_n hx hb dX4_tear_13 rfl (lv_at hl 1 rfl) ?_
    refine lv_iconst (v := 0) hx hb dX4_tear_14 (by decide) ?_
    refine pf_X4_267 cx hw 0 rfl rfl rfl (Nat.le_of_ble_eq_true rfl) dX4_tear_15 (fun H locs hw => ?_)
    obtain ⟨d2, ed2, h⟩ := lt_ex h
    have hw : Wd g (va_A ((XC g q d)) s.heap.size) ((XC g q d2)) s H locs := by rw [ed2]; exact hw
    refine lv_iload_n hx hb dX4_tear_18 rfl (lv_at hl 0 rfl) ?_
    exact r_i cx hr hlocks hw (pr1 h) (congrArg (fun z0 => (XC g q z0)) (pr2 h)) dX4_tear_19
  · replace h := ite_f c1 h
    refine lv_iconst (v := 1) hx hb dX4_tear_7 (by decide) ?_
    refine lv_goto (tgt := 12) hx hb dX4_tear_8 (by decide) ?_
    refine lv_istore_n (lv' := [(1, .int (1 : Int32)), (0, .ref (q 0))]) hx hb dX4_tear_12 rfl hl (by decide) rfl (fun ls hl => ?_)
    refine lv_aload_n hx hb dX4_tear_13 rfl (lv_at hl 1 rfl) ?_
    refine lv_iconst (v := 0) hx hb dX4_tear_14 (by decide) ?_
    refine pf_X4_267 cx hw 0 rfl rfl rfl (Nat.le_of_ble_eq_true rfl) dX4_tear_15 (fun H locs hw => ?_)
    obtain ⟨d3, ed3, h⟩ := lt_ex h
    have hw : Wd g (va_A ((XC g q d)) s.heap.size) ((XC g q d3)) s H locs := by rw [ed3]; exact hw
    refine lv_iload_n hx hb dX4_tear_18 rfl (lv_at hl 0 rfl) ?_
    exact r_i cx hr hlocks hw (pr1 h) (congrArg (fun z0 => (XC g q z0)) (pr2 h)) dX4_tear_19
set_option maxHeartbeats 4000000 in
set_option maxRecDepth 100000 in
theorem c_X4_count (l : Launch) (g : gE) (q : Nat → Nat) (N : Nat) (p1 : Int32) (d : XD) (r : Int32) (d' : XD) (h : f_X4_count N  p1 d = some (r, d')) : MO l yX4_count (Cond.code yX4_count cX4_count 2 (some .int) :: TB) rm_X4_count [.ref (q 0), .int p1] g ((XC g q d)) ((XC g q d')) (some (.int r)) 0 0 := by
  refine MO.of (cc := cX4_count) (maxL := 2) (ret := (some .int)) (by decide) ?_
  intro p e s m below meth c cx hw hr hlocks _
  have hx := cx.1.1
  have hb := cx.1.2.1
  refine en_go (lv := [(0, .ref (q 0)), (1, .int p1)]) (Nat.le_of_ble_eq_true rfl) rfl (fun ls hl => ?_)
  unfold f_X4_count at h
  refine lv_iload_n hx hb dX4_count_0 rfl (lv_at hl 1 rfl) ?_
  by_cases c1 : p1 = 0
  · replace h := ite_t c1 h
    refine lv_tableIn (tgt := 32) hx hb dX4_count_1 (by rw [c1]; decide) (by rw [c1]; decide) (by rw [c1]; rfl) (by decide) ?_
    refine lv_aload_n hx hb dX4_count_32 rfl (lv_at hl 0 rfl) ?_
    refine gf_X4_12 cx hw 0 rfl rfl dX4_count_33 ?_
    refine gf_X4_261 cx hw 1 rfl rfl dX4_count_36 ?_
    exact r_i cx hr hlocks hw (pr1 h) (congrArg (fun z0 => (XC g q z0)) (pr2 h)) dX4_count_39
  · replace h := ite_f c1 h
    by_cases c2 : p1 = 1
    · replace h := ite_t c2 h
      refine lv_tableIn (tgt := 40) hx hb dX4_count_1 (by rw [c2]; decide) (by rw [c2]; decide) (by rw [c2]; rfl) (by decide) ?_
      refine lv_aload_n hx hb dX4_count_40 rfl (lv_at hl 0 rfl) ?_
      refine gf_X4_25 cx hw 0 rfl rfl dX4_count_41 ?_
      refine gf_X4_195 cx hw 40 rfl rfl dX4_count_44 ?_
      refine gf_X4_208 cx hw 41 rfl rfl dX4_count_47 ?_
      exact r_i cx hr hlocks hw (pr1 h) (congrArg (fun z0 => (XC g q z0)) (pr2 h)) dX4_count_50
    · replace h := ite_f c2 h
      by_cases c3 : p1 = 2
      · replace h := ite_t c3 h
        refine lv_tableIn (tgt := 51) hx hb dX4_count_1 (by rw [c3]; decide) (by rw [c3]; decide) (by rw [c3]; rfl) (by decide) ?_
        refine lv_aload_n hx hb dX4_count_51 rfl (lv_at hl 0 rfl) ?_
        refine gf_X4_12 cx hw 0 rfl rfl dX4_count_52 ?_
        obtain ⟨x4, g5, h⟩ := bd_ex h
        refine c_V (As := []) (rest := []) (w' := (XC g q d)) cx hw (c_X3_weightOfAll l g (qs 1 q) N  (x_valley d) x4 g5) (cl_X4_271 cx.1.2.2.2.2 ⟨Nat.le_of_ble_eq_true rfl, Nat.le_of_ble_eq_true rfl⟩) (x_recv cx hw (ci := 3) rfl 1 rfl) (ct_X__1_2_3_4_5_6_7_8_9_10_11_12_13__V g q d ) hl.1 rfl rfl (Nat.le_of_ble_eq_true rfl) dX4_count_55 ⟨Nat.le_of_ble_eq_true rfl, Nat.le_of_ble_eq_true rfl⟩ (st1 := [.int x4]) rfl (fun H locs hw => ?_)
        exact r_i cx hr hlocks hw (pr1 h) (congrArg (fun z0 => (XC g q z0)) (pr2 h)) dX4_count_58
      · replace h := ite_f c3 h
        by_cases c6 : p1 = 3
        · replace h := ite_t c6 h
          refine lv_tableIn (tgt := 59) hx hb dX4_count_1 (by rw [c6]; decide) (by rw [c6]; decide) (by rw [c6]; rfl) (by decide) ?_
          refine lv_aload_n hx hb dX4_count_59 rfl (lv_at hl 0 rfl) ?_
          refine gf_X4_12 cx hw 0 rfl rfl dX4_count_60 ?_
          refine lv_aload_n hx hb dX4_count_63 rfl (lv_at hl 0 rfl) ?_
          refine gf_X4_12 cx hw 0 rfl rfl dX4_count_64 ?_
          refine gf_X4_78 cx hw 1 rfl rfl dX4_count_67 ?_
          refine lv_aload_n hx hb dX4_count_70 rfl (lv_at hl 0 rfl) ?_
          refine gf_X4_12 cx hw 0 rfl rfl dX4_count_71 ?_
          refine gf_X4_157 cx hw 1 rfl rfl dX4_count_74 ?_
          obtain ⟨x7, g8, h⟩ := bd_ex h
          refine c_V (As := [.ref (qs 1 q 6), .int (v_living (x_valley d))]) (rest := []) (w' := (XC g q d)) cx hw (c_X3_sumOf l g (qs 1 q) (qs 1 q 6) 12 N (v_living (x_valley d)) (x_valley d) (v_ages (x_valley d)) x7 g8) (cl_X4_160 cx.1.2.2.2.2 ⟨Nat.le_of_ble_eq_true rfl, Nat.le_of_ble_eq_true rfl⟩) (x_recv cx hw (ci := 3) rfl 1 rfl) (ct_X__1_7__VO_A g q d ) hl.1 rfl rfl (Nat.le_of_ble_eq_true rfl) dX4_count_77 ⟨Nat.le_of_ble_eq_true rfl, Nat.le_of_ble_eq_true rfl⟩ (st1 := [.int x7]) rfl (fun H locs hw => ?_)
          exact r_i cx hr hlocks hw (pr1 h) (congrArg (fun z0 => (XC g q z0)) (pr2 h)) dX4_count_80
        · replace h := ite_f c6 h
          have tc1 : (p1).toInt ≠ 0 := fun e => c1 (Int32.toInt_inj.mp (e.trans (by decide)))
          have tc2 : (p1).toInt ≠ 1 := fun e => c2 (Int32.toInt_inj.mp (e.trans (by decide)))
          have tc3 : (p1).toInt ≠ 2 := fun e => c3 (Int32.toInt_inj.mp (e.trans (by decide)))
          have tc6 : (p1).toInt ≠ 3 := fun e => c6 (Int32.toInt_inj.mp (e.trans (by decide)))
          refine lv_tableOut (tgt := 81) hx hb dX4_count_1 (by omega) (by decide) ?_
          refine lv_aload_n hx hb dX4_count_81 rfl (lv_at hl 0 rfl) ?_
          refine lv_ldc hx hb cx.1.2.2.2.1 (cx.1.2.2.2.2 _ tw_1_202) dX4_count_82 ?_
          obtain ⟨x9, d10, g11, h⟩ := bd2_ex h
          refine c_V (As := [.int (-1000000001 : Int32)]) (rest := []) (w' := (XC g q d10)) cx hw (c_X4_tell l g q N (-1000000001 : Int32) d x9 d10 g11) (cl_X4_45 cx.1.2.2.2.2 ⟨Nat.le_of_ble_eq_true rfl, Nat.le_of_ble_eq_true rfl⟩) (x_recv cx hw (ci := 4) rfl 0 rfl) (Ct.all (XC_ll ..)) hl.1 rfl rfl (Nat.le_of_ble_eq_true rfl) dX4_count_84 ⟨Nat.le_of_ble_eq_true rfl, Nat.le_of_ble_eq_true rfl⟩ (st1 := [.int x9]) rfl (fun H locs hw => ?_)
          exact r_i cx hr hlocks hw (pr1 h) (congrArg (fun z0 => (XC g q z0)) (pr2 h)) dX4_count_87
set_option maxHeartbeats 4000000 in
set_option maxRecDepth 100000 in
theorem c_X4_status (l : Launch) (g : gE) (q : Nat → Nat) (N : Nat) (p1 : Int32) (d : XD) (r : Int32) (d' : XD) (h : f_X4_status N  p1 d = some (r, d')) : MO l yX4_status (Cond.code yX4_status cX4_status 4 (some .int) :: TB) rm_X4_status [.ref (q 0), .int p1] g ((XC g q d)) ((XC g q d')) (some (.int r)) 0 0 := by
  refine MO.of (cc := cX4_status) (maxL := 4) (ret := (some .int)) (by decide) ?_
  intro p e s m below meth c cx hw hr hlocks _
  have hx := cx.1.1
  have hb := cx.1.2.1
  refine en_go (lv := [(0, .ref (q 0)), (1, .int p1)]) (Nat.le_of_ble_eq_true rfl) rfl (fun ls hl => ?_)
  have L33 : ∀ (n33 : Nat) (a2 : Int32) (a3 : Int32) (d_ : XD) (H : Heap) (locs : List Loc) (ls : Array Slot), Wd g (va_A ((XC g q d)) s.heap.size) ((XC g q d_)) s H locs → lv_has ls 4 [(0, .ref (q 0)), (2, .int a2), (3, .int a3)] → f_X4_status_L33 N   n33 a2 a3 d_ = some (r, d') → W p l e rm_X4_status s m ([.ref (q 0), .int p1] : List Value).toArray below meth c H locs 0 0 (MQ below (QO (some (.int r)) g ((XC g q d')) (va_A ((XC g q d)) s.heap.size)) ([.ref (q 0), .int p1] : List Value).toArray s 0 0 (va_A ((XC g q d)) s.heap.size)) (F0 m 33 ls []) := by
    intro n33
    induction n33 with
    | zero => intro a2 a3 d_ H locs ls hw hl h; exact (Option.some_ne_none _ h.symm).elim
    | succ n33 ih33 =>
      intro a2 a3 d_ H locs ls hw hl h
      rw [f_X4_status_L33] at h
      refine lv_iload_n hx hb dX4_status_33 rfl (lv_at hl 2 rfl) ?_
      refine lv_bipush (v := 7) hx hb dX4_status_34 (by decide) ?_
      refine lv_icmp_ge (tgt := 54) hx hb dX4_status_36 (by decide) (fun c13 => ?_) (fun c13 => ?_)
      · replace h := ite_t c13 h
        refine lv_iload_n hx hb dX4_status_54 rfl (lv_at hl 1 rfl) ?_
        exact r_i cx hr hlocks hw (pr1 h) (congrArg (fun z0 => (XC g q z0)) (pr2 h)) dX4_status_55
      · replace h := ite_f c13 h
        refine lv_iload_n hx hb dX4_status_39 rfl (lv_at hl 1 rfl) ?_
        refine lv_aload_n hx hb dX4_status_40 rfl (lv_at hl 0 rfl) ?_
        refine gf_X4_35 cx hw 0 rfl rfl dX4_status_41 ?_
        refine lv_iload_n hx hb dX4_status_44 rfl (lv_at hl 2 rfl) ?_
        have ix14 := rd_in h
        refine x_iald cx hw 44 rfl ix14 dX4_status_45 ?_
        refine lv_topi (fun x14 ex14 => ?_)
        replace h := rd_nx ex14 h
        refine lv_iadd hx hb dX4_status_46 ?_
        refine lv_topi (fun x15 ex15 => ?_)
        replace h := lt_nx ex15 h
        refine lv_istore_n (lv' := [(2, .int x15), (0, .ref (q 0)), (3, .int a3)]) hx hb dX4_status_47 rfl hl (by decide) rfl (fun ls hl => ?_)
        obtain ⟨x16, ex16⟩ : ∃ y : Int32, y = (a3 + 1) := ⟨_, rfl⟩
        replace h := lt_nx ex16 h
        refine lv_iinc (v := x16) (lv' := [(3, .int x16), (2, .int x15), (0, .ref (q 0))]) hx hb dX4_status_48 hl (k := 2) rfl (by rw [ex16]; rfl) (by decide) rfl (fun ls hl => ?_)
        refine lv_goto (tgt := 33) hx hb dX4_status_51 (by decide) ?_
        exact ih33 x15 x16 d_ _ _ _ hw (lv_sub hl [2, 1, 0] rfl) h
  unfold f_X4_status at h
  refine lv_iload_n hx hb dX4_status_0 rfl (lv_at hl 1 rfl) ?_
  refine lv_iconst (v := 0) hx hb dX4_status_1 (by decide) ?_
  refine lv_bipush (v := 6) hx hb dX4_status_2 (by decide) ?_
  obtain ⟨x1, g2, h⟩ := bd_ex h
  refine c_S (As := [.int p1, .int (0 : Int32), .int (6 : Int32)]) (rest := []) (w' := (XC g q d)) cx hw (c_X4_isWithin l g  N p1 (0 : Int32) (6 : Int32)  x1 g2) (cl_X4_40 cx.1.2.2.2.2 ⟨Nat.le_of_ble_eq_true rfl, Nat.le_of_ble_eq_true rfl⟩) Ct.nil hl.1 rfl rfl (Nat.le_of_ble_eq_true rfl) dX4_status_4 ⟨Nat.le_of_ble_eq_true rfl, Nat.le_of_ble_eq_true rfl⟩ (st1 := [.int x1]) rfl (fun H locs hw => ?_)
  refine lv_if_eq (tgt := 17) hx hb dX4_status_7 (by decide) (fun c3 => ?_) (fun c3 => ?_)
  · replace h := ite_t c3 h
    refine lv_iload_n hx hb dX4_status_17 rfl (lv_at hl 1 rfl) ?_
    refine lv_iconst (v := -1) hx hb dX4_status_18 (by decide) ?_
    refine lv_icmp_eq (tgt := 29) hx hb dX4_status_19 (by decide) (fun c4 => ?_) (fun c4 => ?_)
    · replace h := ite_t c4 h
      refine lv_iconst (v := 0) hx hb dX4_status_29 (by decide) ?_
      refine lv_istore_n (lv' := [(2, .int (0 : Int32)), (0, .ref (q 0)), (1, .int p1)]) hx hb dX4_status_30 rfl hl (by decide) rfl (fun ls hl => ?_)
      refine lv_iconst (v := 0) hx hb dX4_status_31 (by decide) ?_
      refine lv_istore_n (lv' := [(3, .int (0 : Int32)), (2, .int (0 : Int32)), (0, .ref (q 0)), (1, .int p1)]) hx hb dX4_status_32 rfl hl (by decide) rfl (fun ls hl => ?_)
      exact L33 N (0 : Int32) (0 : Int32) d _ _ _ hw (lv_sub hl [2, 1, 0] rfl) h
    · replace h := ite_f c4 h
      refine lv_aload_n hx hb dX4_status_22 rfl (lv_at hl 0 rfl) ?_
      refine lv_ldc hx hb cx.1.2.2.2.1 (cx.1.2.2.2.2 _ tw_1_202) dX4_status_23 ?_
      obtain ⟨x5, d6, g7, h⟩ := bd2_ex h
      refine c_V (As := [.int (-1000000001 : Int32)]) (rest := []) (w' := (XC g q d6)) cx hw (c_X4_tell l g q N (-1000000001 : Int32) d x5 d6 g7) (cl_X4_45 cx.1.2.2.2.2 ⟨Nat.le_of_ble_eq_true rfl, Nat.le_of_ble_eq_true rfl⟩) (x_recv cx hw (ci := 4) rfl 0 rfl) (Ct.all (XC_ll ..)) hl.1 rfl rfl (Nat.le_of_ble_eq_true rfl) dX4_status_25 ⟨Nat.le_of_ble_eq_true rfl, Nat.le_of_ble_eq_true rfl⟩ (st1 := [.int x5]) rfl (fun H locs hw => ?_)
      exact r_i cx hr hlocks hw (pr1 h) (congrArg (fun z0 => (XC g q z0)) (pr2 h)) dX4_status_28
  · replace h := ite_f c3 h
    refine lv_aload_n hx hb dX4_status_10 rfl (lv_at hl 0 rfl) ?_
    refine gf_X4_35 cx hw 0 rfl rfl dX4_status_11 ?_
    refine lv_iload_n hx hb dX4_status_14 rfl (lv_at hl 1 rfl) ?_
    have ix8 := rd_in h
    refine x_iald cx hw 44 rfl ix8 dX4_status_15 ?_
    refine lv_topi (fun x8 ex8 => ?_)
    replace h := rd_nx ex8 h
    exact r_i cx hr hlocks hw (pr1 h) (congrArg (fun z0 => (XC g q z0)) (pr2 h)) dX4_status_16
