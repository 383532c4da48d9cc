def f_X4_sheetAt (N : Nat)  (p1 : Int32) (d : XD) : Option (Option Nat) :=
  (f_X4_isWithin N p1 (0 : Int32) (3 : Int32)).bind fun x1 =>
  if x1 = 0 then
    some none
  else
    (ck p1 4).bind fun _ =>
    some (some (p1).toNatClampNeg)
def f_X4_sheet (N : Nat)  (p1 : Int32) (p2 : Int32) (p3 : Int32) (d : XD) : Option (Int32 × XD) :=
  (f_X4_sheetAt N p1 d).bind fun r1 =>
  sel r1 (
    bd2 (f_X4_tell N (-1000000001 : Int32) d) fun x5 d6 =>
    some (x5, d6)
  ) fun i3 =>
  if p2 = 0 then
    if 0 ≤ p3 then
      if p3 ≤ (40 : Int32) then
        bd2 (f_X0_begin N p2 p3 (sAt (x_sheets d) i3)) fun x231 d232 =>
        lt (x_set_sheets d (sPut (x_sheets d) i3 d232)) fun d234 =>
        some (x231, d234)
      else
        bd2 (f_X4_tell N (-1000000001 : Int32) d) fun x235 d236 =>
        some (x235, d236)
    else
      bd2 (f_X4_tell N (-1000000007 : Int32) d) fun x238 d239 =>
      some (x238, d239)
  else
    if p2 = (8 : Int32) then
      if 0 ≤ p3 then
        if p3 ≤ (40 : Int32) then
          bd2 (f_X0_begin N p2 p3 (sAt (x_sheets d) i3)) fun x244 d245 =>
          lt (x_set_sheets d (sPut (x_sheets d) i3 d245)) fun d247 =>
          some (x244, d247)
        else
          bd2 (f_X4_tell N (-1000000001 : Int32) d) fun x248 d249 =>
          some (x248, d249)
      else
        bd2 (f_X4_tell N (-1000000007 : Int32) d) fun x251 d252 =>
        some (x251, d252)
    else
      if p2 = (16 : Int32) then
        if 0 ≤ p3 then
          if p3 ≤ (40 : Int32) then
            bd2 (f_X0_begin N p2 p3 (sAt (x_sheets d) i3)) fun x257 d258 =>
            lt (x_set_sheets d (sPut (x_sheets d) i3 d258)) fun d260 =>
            some (x257, d260)
          else
            bd2 (f_X4_tell N (-1000000001 : Int32) d) fun x261 d262 =>
            some (x261, d262)
        else
          bd2 (f_X4_tell N (-1000000007 : Int32) d) fun x264 d265 =>
          some (x264, d265)
      else
        if p2 = (64 : Int32) then
          if 0 ≤ p3 then
            if p3 ≤ (40 : Int32) then
              bd2 (f_X0_begin N p2 p3 (sAt (x_sheets d) i3)) fun x270 d271 =>
              lt (x_set_sheets d (sPut (x_sheets d) i3 d271)) fun d273 =>
              some (x270, d273)
            else
              bd2 (f_X4_tell N (-1000000001 : Int32) d) fun x274 d275 =>
              some (x274, d275)
          else
            bd2 (f_X4_tell N (-1000000007 : Int32) d) fun x277 d278 =>
            some (x277, d278)
        else
          bd2 (f_X4_tell N (-1000000001 : Int32) d) fun x280 d281 =>
          some (x280, d281)
def f_X4_write (N : Nat)  (p1 : Int32) (p2 : Int32) (p3 : Int64) (d : XD) : Option (Int64 × XD) :=
  (f_X4_sheetAt N p1 d).bind fun r1 =>
  sel r1 (
    bd2 (f_X4_tell N (-1000000001 : Int32) d) fun x5 d6 =>
    some (((x5).toInt64), d6)
  ) fun i3 =>
  (f_X0_isMissing N (sAt (x_sheets d) i3)).bind fun x72 =>
  if x72 = 0 then
    (f_X4_isWithin N p2 (0 : Int32) ((s_size (sAt (x_sheets d) i3)) - (1 : Int32))).bind fun x75 =>
    if x75 = 0 then
      bd2 (f_X4_tell N (-1000000001 : Int32) d) fun x82 d83 =>
      some (((x82).toInt64), d83)
    else
      bd2 (f_X0_put N p2 p3 (sAt (x_sheets d) i3)) fun x78 d79 =>
      lt (x_set_sheets d (sPut (x_sheets d) i3 d79)) fun d81 =>
      some (x78, d81)
  else
    bd2 (f_X4_tell N (-1000000006 : Int32) d) fun x85 d86 =>
    some (((x85).toInt64), d86)
def f_X4_lays (N : Nat)  (p1 : Int32) (p2 : Int32) (d : XD) : Option (Int32 × XD) :=
  (f_X4_sheetAt N p1 d).bind fun r1 =>
  sel r1 (
    bd2 (f_X4_tell N (-1000000001 : Int32) d) fun x5 d6 =>
    some (x5, d6)
  ) fun i3 =>
  (f_X0_isMissing N (sAt (x_sheets d) i3)).bind fun x100 =>
  if x100 = 0 then
    (f_X4_isOne N p2 d).bind fun x103 =>
    if x103 = 0 then
      bd2 (f_X4_tell N (-1000000001 : Int32) d) fun x117 d118 =>
      some (x117, d118)
    else
      (f_X0_marksTold N (sAt (x_sheets d) i3)).bind fun x106 =>
      (rd (v_looks (x_valley d)) 13 p2).bind fun x108 =>
      (f_X0_lookTold N (sAt (x_sheets d) i3)).bind fun x109 =>
      (f_X4_copied N x108 x109 x106).bind fun x111 =>
      (ck p2 13).bind fun _ =>
      lt (x_set_valley d (v_set_looks (x_valley d) (upd (v_looks (x_valley d)) (p2).toNatClampNeg x111))) fun d114 =>
      (f_J6_bitCount_0f7a4 N x106).bind fun x115 =>
      some (x115, d114)
  else
    bd2 (f_X4_tell N (-1000000006 : Int32) d) fun x120 d121 =>
    some (x120, d121)
def f_X4_book_L102 (N : Nat) (i3 : Nat)  : Nat → Int32 → Int32 → XD → Option (Int32 × XD)
  | 0, _, _, _ => none
  | n102 + 1, a4, a5, d_ =>
  if a4 ≤ a5 then
    some (a4, d_)
  else
    (f_X3_heirFor N a5 (x_trial d_)).bind fun x203 =>
    bd2 (f_X0_put N a5 ((x203).toInt64) (sAt (x_sheets d_) i3)) fun x205 d206 =>
    lt (x_set_sheets d_ (sPut (x_sheets d_) i3 d206)) fun d208 =>
    lt (a5 + 1) fun x209 =>
    f_X4_book_L102 N i3  n102 a4 x209 d208
def f_X4_book (N : Nat)  (p1 : Int32) (p2 : Int32) (d : XD) : Option (Int32 × XD) :=
  (f_X4_sheetAt N p1 d).bind fun r1 =>
  sel r1 (
    bd2 (f_X4_tell N (-1000000001 : Int32) d) fun x5 d6 =>
    some (x5, d6)
  ) fun i3 =>
  (f_X0_isMissing N (sAt (x_sheets d) i3)).bind fun x176 =>
  if x176 = 0 then
    (f_X4_isWithin N p2 (0 : Int32) (100 : Int32)).bind fun x179 =>
    if x179 = 0 then
      bd2 (f_X4_tell N (-1000000001 : Int32) d) fun x196 d197 =>
      some (x196, d197)
    else
      (f_X4_isTooLate N p2 d).bind fun x182 =>
      if x182 = 0 then
        (f_X3_takeFrom N (x_trial d) (x_valley d)).bind fun d185 =>
        lt (x_set_trial d d185) fun d187 =>
        bd2 (f_X3_goYears N p2 (x_trial d187)) fun x188 d189 =>
        lt (x_set_trial d187 d189) fun d191 =>
        lt (if (s_size (sAt (x_sheets d191) i3)) < (v_people (x_trial d191)) then (s_size (sAt (x_sheets d191) i3)) else (v_people (x_trial d191))) fun x192 =>
        f_X4_book_L102 N i3  N x192 (0 : Int32) d191
      else
        bd2 (f_X4_tell N (-1000000005 : Int32) d) fun x193 d194 =>
        some (x193, d194)
  else
    bd2 (f_X4_tell N (-1000000006 : Int32) d) fun x199 d200 =>
    some (x199, d200)
def f_X4_read_L50 (N : Nat) (i3 : Nat)  : Nat → Int32 → Int32 → XD → Option (Int32 × XD)
  | 0, _, _, _ => none
  | n50 + 1, a3, a4, d_ =>
  if (9 : Int32) ≤ a4 then
    (f_X0_lookTold N (sAt (x_sheets d_) i3)).bind fun x208 =>
    bd2 (f_X3_heirOfStranger N x208 (x_trial d_)) fun x210 d211 =>
    lt (x_set_trial d_ d211) fun d213 =>
    if x210 = (-1 : Int32) then
      bd2 (f_X4_tell N (-1000000004 : Int32) d213) fun x215 d216 =>
      some (x215, d216)
    else
      some (x210, d213)
  else
    if ((a3 >>> (a4 &&& 31)) &&& (1 : Int32)) = 0 then
      bd2 (f_X3_putWeight N a4 (0 : Int32) (x_trial d_)) fun x220 d221 =>
      lt (x_set_trial d_ d221) fun d223 =>
      lt (a4 + 1) fun x224 =>
      f_X4_read_L50 N i3  n50 a3 x224 d223
    else
      lt (a4 + 1) fun x219 =>
      f_X4_read_L50 N i3  n50 a3 x219 d_
def f_X4_read (N : Nat)  (p1 : Int32) (d : XD) : Option (Int32 × XD) :=
  (f_X4_sheetAt N p1 d).bind fun r1 =>
  sel r1 (
    bd2 (f_X4_tell N (-1000000001 : Int32) d) fun x5 d6 =>
    some (x5, d6)
  ) fun i3 =>
  (f_X0_isMissing N (sAt (x_sheets d) i3)).bind fun x196 =>
  if x196 = 0 then
    (f_X3_takeFrom N (x_trial d) (x_valley d)).bind fun d199 =>
    lt (x_set_trial d d199) fun d201 =>
    (f_X0_marksTold N (sAt (x_sheets d201) i3)).bind fun x202 =>
    f_X4_read_L50 N i3  N x202 (0 : Int32) d201
  else
    bd2 (f_X4_tell N (-1000000006 : Int32) d) fun x204 d205 =>
    some (x204, d205)
theorem ct_X__45_46__S_0 (g : gE) (q : Nat → Nat) (d : XD) (u0 : SD) : Ct ((XC g q d)) ((SC g (qs 45 q) (sAt (x_sheets d) 0))) ((XC g q (x_set_sheets d (sPut (x_sheets d) 0 u0)))) ((SC g (qs 45 q) u0)) := (Ct.skip _ (Ct.skip _ (Ct.skip _ (Ct.skip _ (Ct.skip _ (Ct.skip _ (Ct.inl _ (Ct.all (SC_ll ..)) (SC_ll ..))))))))
theorem ct_X__47_48__S_0 (g : gE) (q : Nat → Nat) (d : XD) (u0 : SD) : Ct ((XC g q d)) ((SC g (qs 47 q) (sAt (x_sheets d) 1))) ((XC g q (x_set_sheets d (sPut (x_sheets d) 1 u0)))) ((SC g (qs 47 q) u0)) := (Ct.skip _ (Ct.skip _ (Ct.skip _ (Ct.skip _ (Ct.skip _ (Ct.skip _ (Ct.skip _ (Ct.inl _ (Ct.all (SC_ll ..)) (SC_ll ..)))))))))
theorem ct_X__49_50__S_0 (g : gE) (q : Nat → Nat) (d : XD) (u0 : SD) : Ct ((XC g q d)) ((SC g (qs 49 q) (sAt (x_sheets d) 2))) ((XC g q (x_set_sheets d (sPut (x_sheets d) 2 u0)))) ((SC g (qs 49 q) u0)) := (Ct.skip _ (Ct.skip _ (Ct.skip _ (Ct.skip _ (Ct.skip _ (Ct.skip _ (Ct.skip _ (Ct.skip _ (Ct.inl _ (Ct.all (SC_ll ..)) (SC_ll ..))))))))))
theorem ct_X__51_52__S_0 (g : gE) (q : Nat → Nat) (d : XD) (u0 : SD) : Ct ((XC g q d)) ((SC g (qs 51 q) (sAt (x_sheets d) 3))) ((XC g q (x_set_sheets d (sPut (x_sheets d) 3 u0)))) ((SC g (qs 51 q) u0)) := (Ct.skip _ (Ct.skip _ (Ct.skip _ (Ct.skip _ (Ct.skip _ (Ct.skip _ (Ct.skip _ (Ct.skip _ (Ct.skip _ (Ct.all (SC_ll ..)))))))))))
theorem ct_X__45_46__S (g : gE) (q : Nat → Nat) (d : XD)  : Ct ((XC g q d)) ((SC g (qs 45 q) (sAt (x_sheets d) 0))) ((XC g q d)) ((SC g (qs 45 q) (sAt (x_sheets d) 0))) := (Ct.skip _ (Ct.skip _ (Ct.skip _ (Ct.skip _ (Ct.skip _ (Ct.skip _ (Ct.inl _ (Ct.all (SC_ll ..)) (SC_ll ..))))))))
theorem ct_X__47_48__S (g : gE) (q : Nat → Nat) (d : XD)  : Ct ((XC g q d)) ((SC g (qs 47 q) (sAt (x_sheets d) 1))) ((XC g q d)) ((SC g (qs 47 q) (sAt (x_sheets d) 1))) := (Ct.skip _ (Ct.skip _ (Ct.skip _ (Ct.skip _ (Ct.skip _ (Ct.skip _ (Ct.skip _ (Ct.inl _ (Ct.all (SC_ll ..)) (SC_ll ..)))))))))
theorem ct_X__49_50__S (g : gE) (q : Nat → Nat) (d : XD)  : Ct ((XC g q d)) ((SC g (qs 49 q) (sAt (x_sheets d) 2))) ((XC g q d)) ((SC g (qs 49 q) (sAt (x_sheets d) 2))) := (Ct.skip _ (Ct.skip _ (Ct.skip _ (Ct.skip _ (Ct.skip _ (Ct.skip _ (Ct.skip _ (Ct.skip _ (Ct.inl _ (Ct.all (SC_ll ..)) (SC_ll ..))))))))))
theorem ct_X__51_52__S (g : gE) (q : Nat → Nat) (d : XD)  : Ct ((XC g q d)) ((SC g (qs 51 q) (sAt (x_sheets d) 3))) ((XC g q d)) ((SC g (qs 51 q) (sAt (x_sheets d) 3))) := (Ct.skip _ (Ct.skip _ (Ct.skip _ (Ct.skip _ (Ct.skip _ (Ct.skip _ (Ct.skip _ (Ct.skip _ (Ct.skip _ (Ct.all (SC_ll ..)))))))))))
theorem sh_cases {N : Nat} {p : Int32} {d : XD} {r : Option Nat} (h : f_X4_sheetAt N p d = some r) : r = none ∨ r = some 0 ∨ r = some 1 ∨ r = some 2 ∨ r = some 3 := by
  unfold f_X4_sheetAt at h
  obtain ⟨x, -, h⟩ := bd_ex h
  by_cases c : x = 0
  · exact Or.inl (sm_eq (ite_t c h))
  · replace h := ite_f c h
    have k := ck_in h
    obtain ⟨j, hj, e⟩ := vp_in_of k (by decide)
    have z0 : some (some p.toNatClampNeg) = some r := ck_nx h
    have z := sm_eq z0
    rw [e, nI_clamp (by omega)] at z
    rw [z]
    rcases (show j = 0 ∨ j = 1 ∨ j = 2 ∨ j = 3 by omega) with rfl | rfl | rfl | rfl <;> simp
set_option maxHeartbeats 4000000 in
set_option maxRecDepth 100000 in
theorem c_X4_sheetAt (l : Launch) (g : gE) (q : Nat → Nat) (N : Nat) (p1 : Int32) (d : XD) (r : Option Nat) (h : f_X4_sheetAt N  p1 d = some r) : MO l yX4_sheetAt (Cond.code yX4_sheetAt cX4_sheetAt 2 (some (.object "LikestHeir$Sheet")) :: TB) rm_X4_sheetAt [.ref (q 0), .int p1] g ((XC g q d)) ((XC g q d)) (some (shV q r)) 0 0 := by
  refine MO.of (cc := cX4_sheetAt) (maxL := 2) (ret := (some (.object "LikestHeir$Sheet"))) (by decide) ?_
  intro p e s m below meth c cx hw hr hlocks _
  have hx := cx.1.1
  have hb := cx.1.2.1
  refine en_go (lv := [(0, .ref (q 0)), (1, .int p1)]) (Nat.le_of_ble_eq_true rfl) rfl (fun ls hl => ?_)
  unfold f_X4_sheetAt at h
  refine lv_iload_n hx hb dX4_sheetAt_0 rfl (lv_at hl 1 rfl) ?_
  refine lv_iconst (v := 0) hx hb dX4_sheetAt_1 (by decide) ?_
  refine lv_iconst (v := 3) hx hb dX4_sheetAt_2 (by decide) ?_
  obtain ⟨x1, g2, h⟩ := bd_ex h
  refine c_S (As := [.int p1, .int (0 : Int32), .int (3 : Int32)]) (rest := []) (w' := (XC g q d)) cx hw (c_X4_isWithin l g  N p1 (0 : Int32) (3 : Int32)  x1 g2) (cl_X4_40 cx.1.2.2.2.2 ⟨Nat.le_of_ble_eq_true rfl, Nat.le_of_ble_eq_true rfl⟩) Ct.nil hl.1 rfl rfl (Nat.le_of_ble_eq_true rfl) dX4_sheetAt_3 ⟨Nat.le_of_ble_eq_true rfl, Nat.le_of_ble_eq_true rfl⟩ (st1 := [.int x1]) rfl (fun H locs hw => ?_)
  refine lv_if_eq (tgt := 18) hx hb dX4_sheetAt_6 (by decide) (fun c3 => ?_) (fun c3 => ?_)
  · replace h := ite_t c3 h
    refine lv_null hx hb dX4_sheetAt_18 ?_
    exact r_a cx hr (Or.inl ⟨_, rfl⟩) (Or.inl rfl) hlocks hw (congrArg (shV q) (sm_eq h)) rfl dX4_sheetAt_19
  · replace h := ite_f c3 h
    refine lv_aload_n hx hb dX4_sheetAt_9 rfl (lv_at hl 0 rfl) ?_
    refine gf_X4_31 cx hw 0 rfl rfl dX4_sheetAt_10 ?_
    refine lv_iload_n hx hb dX4_sheetAt_13 rfl (lv_at hl 1 rfl) ?_
    have i4 := ck_in h
    replace h := ck_nx h
    refine x_aldq cx hw 43 rfl i4 dX4_sheetAt_14 ?_
    refine lv_goto (tgt := 19) hx hb dX4_sheetAt_15 (by decide) ?_
    exact r_a cx hr (Or.inl ⟨_, rfl⟩) (Or.inr ⟨_, rfl⟩) hlocks hw (congrArg (shV q) (sm_eq h)) rfl dX4_sheetAt_19
set_option maxHeartbeats 4000000 in
set_option maxRecDepth 100000 in
theorem c_X4_sheet (l : Launch) (g : gE) (q : Nat → Nat) (N : Nat) (p1 : Int32) (p2 : Int32) (p3 : Int32) (d : XD) (r : Int32) (d' : XD) (h : f_X4_sheet N  p1 p2 p3 d = some (r, d')) : MO l yX4_sheet (Cond.code yX4_sheet cX4_sheet 5 (some .int) :: TB) rm_X4_sheet [.ref (q 0), .int p1, .int p2, .int p3] g ((XC g q d)) ((XC g q d')) (some (.int r)) 0 0 := by
  refine MO.of (cc := cX4_sheet) (maxL := 5) (ret := (some .int)) (by decide) ?_
  intro p e s m below meth c cx hw hr hlocks _
  have hx := cx.1.1
  have hb := cx.1.2.1
  refine en_go (lv := [(0, .ref (q 0)), (1, .int p1), (2, .int p2), (3, .int p3)]) (Nat.le_of_ble_eq_true rfl) rfl (fun ls hl => ?_)
  unfold f_X4_sheet at h
  refine lv_aload_n hx hb dX4_sheet_0 rfl (lv_at hl 0 rfl) ?_
  refine lv_iload_n hx hb dX4_sheet_1 rfl (lv_at hl 1 rfl) ?_
  obtain ⟨r1, g2, h⟩ := bd_ex h
  rcases sh_cases g2 with e4 | e4 | e4 | e4 | e4 <;> subst e4
  · replace h := sel_n h
    refine c_V (As := [.int p1]) (rest := []) (w' := (XC g q d)) cx hw (c_X4_sheetAt l g q N p1 d none g2) (cl_X4_219 cx.1.2.2.2.2 ⟨Nat.le_of_ble_eq_true rfl, Nat.le_of_ble_eq_true rfl⟩) (x_recv cx hw (ci := 4) rfl 0 rfl) (Ct.all (XC_ll ..)) hl.1 rfl rfl (Nat.le_of_ble_eq_true rfl) dX4_sheet_2 ⟨Nat.le_of_ble_eq_true rfl, Nat.le_of_ble_eq_true rfl⟩ (st1 := [.null]) rfl (fun H locs hw => ?_)
    refine lv_astoreN (lv' := [(4, .null), (0, .ref (q 0)), (1, .int p1), (2, .int p2), (3, .int p3)]) hx hb dX4_sheet_5 hl (by decide) rfl (fun ls hl => ?_)
    refine lv_aloadN hx hb dX4_sheet_7 (lv_at hl 0 rfl) ?_
    refine lv_ifnullN (tgt := 34) hx hb dX4_sheet_9 (by decide) ?_
    refine lv_aload_n hx hb dX4_sheet_34 rfl (lv_at hl 1 rfl) ?_
    refine lv_ldc hx hb cx.1.2.2.2.1 (cx.1.2.2.2.2 _ tw_1_202) dX4_sheet_35 ?_
    obtain ⟨x5, d6, g7, h⟩ := bd2_ex h
    refine c_V (As := [.int (-1000000001 : Int32)]) (rest := []) (w' := (XC g q d6)) cx hw (c_X4_tell l g q N (-1000000001 : Int32) d x5 d6 g7) (cl_X4_45 cx.1.2.2.2.2 ⟨Nat.le_of_ble_eq_true rfl, Nat.le_of_ble_eq_true rfl⟩) (x_recv cx hw (ci := 4) rfl 0 rfl) (Ct.all (XC_ll ..)) hl.1 rfl rfl (Nat.le_of_ble_eq_true rfl) dX4_sheet_37 ⟨Nat.le_of_ble_eq_true rfl, Nat.le_of_ble_eq_true rfl⟩ (st1 := [.int x5]) rfl (fun H locs hw => ?_)
    exact r_i cx hr hlocks hw (pr1 h) (congrArg (fun z0 => (XC g q z0)) (pr2 h)) dX4_sheet_40
  · replace h := sel_s h
    refine c_V (As := [.int p1]) (rest := []) (w' := (XC g q d)) cx hw (c_X4_sheetAt l g q N p1 d (some 0) g2) (cl_X4_219 cx.1.2.2.2.2 ⟨Nat.le_of_ble_eq_true rfl, Nat.le_of_ble_eq_true rfl⟩) (x_recv cx hw (ci := 4) rfl 0 rfl) (Ct.all (XC_ll ..)) hl.1 rfl rfl (Nat.le_of_ble_eq_true rfl) dX4_sheet_2 ⟨Nat.le_of_ble_eq_true rfl, Nat.le_of_ble_eq_true rfl⟩ (st1 := [.ref (qs 45 q 0)]) rfl (fun H locs hw => ?_)
    refine lv_astore (lv' := [(4, .ref (qs 45 q 0)), (0, .ref (q 0)), (1, .int p1), (2, .int p2), (3, .int p3)]) hx hb dX4_sheet_5 hl (by decide) rfl (fun ls hl => ?_)
    refine lv_aload hx hb dX4_sheet_7 (lv_at hl 0 rfl) ?_
    refine lv_ifnull hx hb dX4_sheet_9 ?_
    refine lv_iload_n hx hb dX4_sheet_12 rfl (lv_at hl 3 rfl) ?_
    refine lv_if_eq (tgt := 41) hx hb dX4_sheet_13 (by decide) (fun c8 => ?_) (fun c8 => ?_)
    · replace h := ite_t c8 h
      refine lv_iload_n hx hb dX4_sheet_41 rfl (lv_at hl 4 rfl) ?_
      refine lv_if_ge (tgt := 52) hx hb dX4_sheet_42 (by decide) (fun c9 => ?_) (fun c9 => ?_)
      · replace h := ite_t c9 h
        refine lv_iload_n hx hb dX4_sheet_52 rfl (lv_at hl 4 rfl) ?_
        refine lv_bipush (v := 40) hx hb dX4_sheet_53 (by decide) ?_
        refine lv_icmp_le (tgt := 65) hx hb dX4_sheet_55 (by decide) (fun c10 => ?_) (fun c10 => ?_)
        · replace h := ite_t c10 h
          refine lv_aload hx hb dX4_sheet_65 (lv_at hl 0 rfl) ?_
          refine lv_iload_n hx hb dX4_sheet_67 rfl (lv_at hl 3 rfl) ?_
          refine lv_iload_n hx hb dX4_sheet_68 rfl (lv_at hl 4 rfl) ?_
          obtain ⟨x11, d12, g13, h⟩ := bd2_ex h
          refine c_V (As := [.int p2, .int p3]) (rest := []) (w' := (XC g q (x_set_sheets d (sPut (x_sheets d) 0 d12)))) cx hw (c_X0_begin l g (qs 45 q) N p2 p3 (sAt (x_sheets d) 0) x11 d12 g13) (cl_X4_224 cx.1.2.2.2.2 ⟨Nat.le_of_ble_eq_true rfl, Nat.le_of_ble_eq_true rfl⟩) (x_recv cx hw (ci := 0) rfl 45 rfl) (ct_X__45_46__S_0 g q d d12) hl.1 rfl rfl (Nat.le_of_ble_eq_true rfl) dX4_sheet_69 ⟨Nat.le_of_ble_eq_true rfl, Nat.le_of_ble_eq_true rfl⟩ (st1 := [.int x11]) rfl (fun H locs hw => ?_)
          obtain ⟨d14, ed14, h⟩ := lt_ex h
          have hw : Wd g (va_A ((XC g q d)) s.heap.size) ((XC g q d14)) s H locs := by rw [ed14]; exact hw
          exact r_i cx hr hlocks hw (pr1 h) (congrArg (fun z0 => (XC g q z0)) (pr2 h)) dX4_sheet_72
        · replace h := ite_f c10 h
          refine lv_aload_n hx hb dX4_sheet_58 rfl (lv_at hl 1 rfl) ?_
          refine lv_ldc hx hb cx.1.2.2.2.1 (cx.1.2.2.2.2 _ tw_1_202) dX4_sheet_59 ?_
          obtain ⟨x15, d16, g17, h⟩ := bd2_ex h
          refine c_V (As := [.int (-1000000001 : Int32)]) (rest := []) (w' := (XC g q d16)) cx hw (c_X4_tell l g q N (-1000000001 : Int32) d x15 d16 g17) (cl_X4_45 cx.1.2.2.2.2 ⟨Nat.le_of_ble_eq_true rfl, Nat.le_of_ble_eq_true rfl⟩) (x_recv cx hw (ci := 4) rfl 0 rfl) (Ct.all (XC_ll ..)) hl.1 rfl rfl (Nat.le_of_ble_eq_true rfl) dX4_sheet_61 ⟨Nat.le_of_ble_eq_true rfl, Nat.le_of_ble_eq_true rfl⟩ (st1 := [.int x15]) rfl (fun H locs hw => ?_)
          exact r_i cx hr hlocks hw (pr1 h) (congrArg (fun z0 => (XC g q z0)) (pr2 h)) dX4_sheet_64
      · replace h := ite_f c9 h
        refine lv_aload_n hx hb dX4_sheet_45 rfl (lv_at hl 1 rfl) ?_
        refine lv_ldc hx hb cx.1.2.2.2.1 (cx.1.2.2.2.2 _ tw_3_161) dX4_sheet_46 ?_
        obtain ⟨x18, d19, g20, h⟩ := bd2_ex h
        refine c_V (As := [.int (-1000000007 : Int32)]) (rest := []) (w' := (XC g q d19)) cx hw (c_X4_tell l g q N (-1000000007 : Int32) d x18 d19 g20) (cl_X4_45 cx.1.2.2.2.2 ⟨Nat.le_of_ble_eq_true rfl, Nat.le_of_ble_eq_true rfl⟩) (x_recv cx hw (ci := 4) rfl 0 rfl) (Ct.all (XC_ll ..)) hl.1 rfl rfl (Nat.le_of_ble_eq_true rfl) dX4_sheet_48 ⟨Nat.le_of_ble_eq_true rfl, Nat.le_of_ble_eq_true rfl⟩ (st1 := [.int x18]) rfl (fun H locs hw => ?_)
        exact r_i cx hr hlocks hw (pr1 h) (congrArg (fun z0 => (XC g q z0)) (pr2 h)) dX4_sheet_51
    · replace h := ite_f c8 h
      refine lv_iload_n hx hb dX4_sheet_16 rfl (lv_at hl 3 rfl) ?_
      refine lv_bipush (v := 8) hx hb dX4_sheet_17 (by decide) ?_
      refine lv_icmp_eq (tgt := 41) hx hb dX4_sheet_19 (by decide) (fun c21 => ?_) (fun c21 => ?_)
      · replace h := ite_t c21 h
        refine lv_iload_n hx hb dX4_sheet_41 rfl (lv_at hl 4 rfl) ?_
        refine lv_if_ge (tgt := 52) hx hb dX4_sheet_42 (by decide) (fun c22 => ?_) (fun c22 => ?_)
        · replace h := ite_t c22 h
          refine lv_iload_n hx hb dX4_sheet_52 rfl (lv_at hl 4 rfl) ?_
          refine lv_bipush (v := 40) hx hb dX4_sheet_53 (by decide) ?_
          refine lv_icmp_le (tgt := 65) hx hb dX4_sheet_55 (by decide) (fun c23 => ?_) (fun c23 => ?_)
          · replace h := ite_t c23 h
            refine lv_aload hx hb dX4_sheet_65 (lv_at hl 0 rfl) ?_
            refine lv_iload_n hx hb dX4_sheet_67 rfl (lv_at hl 3 rfl) ?_
            refine lv_iload_n hx hb dX4_sheet_68 rfl (lv_at hl 4 rfl) ?_
            obtain ⟨x24, d25, g26, h⟩ := bd2_ex h
            refine c_V (As := [.int p2, .int p3]) (rest := []) (w' := (XC g q (x_set_sheets d (sPut (x_sheets d) 0 d25)))) cx hw (c_X0_begin l g (qs 45 q) N p2 p3 (sAt (x_sheets d) 0) x24 d25 g26) (cl_X4_224 cx.1.2.2.2.2 ⟨Nat.le_of_ble_eq_true rfl, Nat.le_of_ble_eq_true rfl⟩) (x_recv cx hw (ci := 0) rfl 45 rfl) (ct_X__45_46__S_0 g q d d25) hl.1 rfl rfl (Nat.le_of_ble_eq_true rfl) dX4_sheet_69 ⟨Nat.le_of_ble_eq_true rfl, Nat.le_of_ble_eq_true rfl⟩ (st1 := [.int x24]) rfl (fun H locs hw => ?_)
            obtain ⟨d27, ed27, h⟩ := lt_ex h
            have hw : Wd g (va_A ((XC g q d)) s.heap.size) ((XC g q d27)) s H locs := by rw [ed27]; exact hw
            exact r_i cx hr hlocks hw (pr1 h) (congrArg (fun z0 => (XC g q z0)) (pr2 h)) dX4_sheet_72
          · replace h := ite_f c23 h
            refine lv_aload_n hx hb dX4_sheet_58 rfl (lv_at hl 1 rfl) ?_
            refine lv_ldc hx hb cx.1.2.2.2.1 (cx.1.2.2.2.2 _ tw_1_202) dX4_sheet_59 ?_
            obtain ⟨x28, d29, g30, h⟩ := bd2_ex h
            refine c_V (As := [.int (-1000000001 : Int32)]) (rest := []) (w' := (XC g q d29)) cx hw (c_X4_tell l g q N (-1000000001 : Int32) d x28 d29 g30) (cl_X4_45 cx.1.2.2.2.2 ⟨Nat.le_of_ble_eq_true rfl, Nat.le_of_ble_eq_true rfl⟩) (x_recv cx hw (ci := 4) rfl 0 rfl) (Ct.all (XC_ll ..)) hl.1 rfl rfl (Nat.le_of_ble_eq_true rfl) dX4_sheet_61 ⟨Nat.le_of_ble_eq_true rfl, Nat.le_of_ble_eq_true rfl⟩ (st1 := [.int x28]) rfl (fun H locs hw => ?_)
            exact r_i cx hr hlocks hw (pr1 h) (congrArg (fun z0 => (XC g q z0)) (pr2 h)) dX4_sheet_64
        · replace h := ite_f c22 h
          refine lv_aload_n hx hb dX4_sheet_45 rfl (lv_at hl 1 rfl) ?_
          refine lv_ldc hx hb cx.1.2.2.2.1 (cx.1.2.2.2.2 _ tw_3_161) dX4_sheet_46 ?_
          obtain ⟨x31, d32, g33, h⟩ := bd2_ex h
          refine c_V (As := [.int (-1000000007 : Int32)]) (rest := []) (w' := (XC g q d32)) cx hw (c_X4_tell l g q N (-1000000007 : Int32) d x31 d32 g33) (cl_X4_45 cx.1.2.2.2.2 ⟨Nat.le_of_ble_eq_true rfl, Nat.le_of_ble_eq_true rfl⟩) (x_recv cx hw (ci := 4) rfl 0 rfl) (Ct.all (XC_ll ..)) hl.1 rfl rfl (Nat.le_of_ble_eq_true rfl) dX4_sheet_48 ⟨Nat.le_of_ble_eq_true rfl, Nat.le_of_ble_eq_true rfl⟩ (st1 := [.int x31]) rfl (fun H locs hw => ?_)
          exact r_i cx hr hlocks hw (pr1 h) (congrArg (fun z0 => (XC g q z0)) (pr2 h)) dX4_sheet_51
      · replace h := ite_f c21 h
        refine lv_iload_n hx hb dX4_sheet_22 rfl (lv_at hl 3 rfl) ?_
        refine lv_bipush (v := 16) hx hb dX4_sheet_23 (by decide) ?_
        refine lv_icmp_eq (tgt := 41) hx hb dX4_sheet_25 (by decide) (fun c34 => ?_) (fun c34 => ?_)
        · replace h := ite_t c34 h
          refine lv_iload_n hx hb dX4_sheet_41 rfl (lv_at hl 4 rfl) ?_
          refine lv_if_ge (tgt := 52) hx hb dX4_sheet_42 (by decide) (fun c35 => ?_) (fun c35 => ?_)
          · replace h := ite_t c35 h
            refine lv_iload_n hx hb dX4_sheet_52 rfl (lv_at hl 4 rfl) ?_
            refine lv_bipush (v := 40) hx hb dX4_sheet_53 (by decide) ?_
            refine lv_icmp_le (tgt := 65) hx hb dX4_sheet_55 (by decide) (fun c36 => ?_) (fun c36 => ?_)
            · replace h := ite_t c36 h
              refine lv_aload hx hb dX4_sheet_65 (lv_at hl 0 rfl) ?_
              refine lv_iload_n hx hb dX4_sheet_67 rfl (lv_at hl 3 rfl) ?_
              refine lv_iload_n hx hb dX4_sheet_68 rfl (lv_at hl 4 rfl) ?_
              obtain ⟨x37, d38, g39, h⟩ := bd2_ex h
              refine c_V (As := [.int p2, .int p3]) (rest := []) (w' := (XC g q (x_set_sheets d (sPut (x_sheets d) 0 d38)))) cx hw (c_X0_begin l g (qs 45 q) N p2 p3 (sAt (x_sheets d) 0) x37 d38 g39) (cl_X4_224 cx.1.2.2.2.2 ⟨Nat.le_of_ble_eq_true rfl, Nat.le_of_ble_eq_true rfl⟩) (x_recv cx hw (ci := 0) rfl 45 rfl) (ct_X__45_46__S_0 g q d d38) hl.1 rfl rfl (Nat.le_of_ble_eq_true rfl) dX4_sheet_69 ⟨Nat.le_of_ble_eq_true rfl, Nat.le_of_ble_eq_true rfl⟩ (st1 := [.int x37]) rfl (fun H locs hw => ?_)
              obtain ⟨d40, ed40, h⟩ := lt_ex h
              have hw : Wd g (va_A ((XC g q d)) s.heap.size) ((XC g q d40)) s H locs := by rw [ed40]; exact hw
              exact r_i cx hr hlocks hw (pr1 h) (congrArg (fun z0 => (XC g q z0)) (pr2 h)) dX4_sheet_72
            · replace h := ite_f c36 h
              refine lv_aload_n hx hb dX4_sheet_58 rfl (lv_at hl 1 rfl) ?_
              refine lv_ldc hx hb cx.1.2.2.2.1 (cx.1.2.2.2.2 _ tw_1_202) dX4_sheet_59 ?_
              obtain ⟨x41, d42, g43, h⟩ := bd2_ex h
              refine c_V (As := [.int (-1000000001 : Int32)]) (rest := []) (w' := (XC g q d42)) cx hw (c_X4_tell l g q N (-1000000001 : Int32) d x41 d42 g43) (cl_X4_45 cx.1.2.2.2.2 ⟨Nat.le_of_ble_eq_true rfl, Nat.le_of_ble_eq_true rfl⟩) (x_recv cx hw (ci := 4) rfl 0 rfl) (Ct.all (XC_ll ..)) hl.1 rfl rfl (Nat.le_of_ble_eq_true rfl) dX4_sheet_61 ⟨Nat.le_of_ble_eq_true rfl, Nat.le_of_ble_eq_true rfl⟩ (st1 := [.int x41]) rfl (fun H locs hw => ?_)
              exact r_i cx hr hlocks hw (pr1 h) (congrArg (fun z0 => (XC g q z0)) (pr2 h)) dX4_sheet_64
          · replace h := ite_f c35 h
            refine lv_aload_n hx hb dX4_sheet_45 rfl (lv_at hl 1 rfl) ?_
            refine lv_ldc hx hb cx.1.2.2.2.1 (cx.1.2.2.2.2 _ tw_3_161) dX4_sheet_46 ?_
            obtain ⟨x44, d45, g46, h⟩ := bd2_ex h
            refine c_V (As := [.int (-1000000007 : Int32)]) (rest := []) (w' := (XC g q d45)) cx hw (c_X4_tell l g q N (-1000000007 : Int32) d x44 d45 g46) (cl_X4_45 cx.1.2.2.2.2 ⟨Nat.le_of_ble_eq_true rfl, Nat.le_of_ble_eq_true rfl⟩) (x_recv cx hw (ci := 4) rfl 0 rfl) (Ct.all (XC_ll ..)) hl.1 rfl rfl (Nat.le_of_ble_eq_true rfl) dX4_sheet_48 ⟨Nat.le_of_ble_eq_true rfl, Nat.le_of_ble_eq_true rfl⟩ (st1 := [.int x44]) rfl (fun H locs hw => ?_)
            exact r_i cx hr hlocks hw (pr1 h) (congrArg (fun z0 => (XC g q z0)) (pr2 h)) dX4_sheet_51
        · replace h := ite_f c34 h
          refine lv_iload_n hx hb dX4_sheet_28 rfl (lv_at hl 3 rfl) ?_
          refine lv_bipush (v := 64) hx hb dX4_sheet_29 (by decide) ?_
          refine lv_icmp_eq (tgt := 41) hx hb dX4_sheet_31 (by decide) (fun c47 => ?_) (fun c47 => ?_)
          · replace h := ite_t c47 h
            refine lv_iload_n hx hb dX4_sheet_41 rfl (lv_at hl 4 rfl) ?_
            refine lv_if_ge (tgt := 52) hx hb dX4_sheet_42 (by decide) (fun c48 => ?_) (fun c48 => ?_)
            · replace h := ite_t c48 h
              refine lv_iload_n hx hb dX4_sheet_52 rfl (lv_at hl 4 rfl) ?_
              refine lv_bipush (v := 40) hx hb dX4_sheet_53 (by decide) ?_
              refine lv_icmp_le (tgt := 65) hx hb dX4_sheet_55 (by decide) (fun c49 => ?_) (fun c49 => ?_)
              · replace h := ite_t c49 h
                refine lv_aload hx hb dX4_sheet_65 (lv_at hl 0 rfl) ?_
                refine lv_iload_n hx hb dX4_sheet_67 rfl (lv_at hl 3 rfl) ?_
                refine lv_iload_n hx hb dX4_sheet_68 rfl (lv_at hl 4 rfl) ?_
                obtain ⟨x50, d51, g52, h⟩ := bd2_ex h
                refine c_V (As := [.int p2, .int p3]) (rest := []) (w' := (XC g q (x_set_sheets d (sPut (x_sheets d) 0 d51)))) cx hw (c_X0_begin l g (qs 45 q) N p2 p3 (sAt (x_sheets d) 0) x50 d51 g52) (cl_X4_224 cx.1.2.2.2.2 ⟨Nat.le_of_ble_eq_true rfl, Nat.le_of_ble_eq_true rfl⟩) (x_recv cx hw (ci := 0) rfl 45 rfl) (ct_X__45_46__S_0 g q d d51) hl.1 rfl rfl (Nat.le_of_ble_eq_true rfl) dX4_sheet_69 ⟨Nat.le_of_ble_eq_true rfl, Nat.le_of_ble_eq_true rfl⟩ (st1 := [.int x50]) rfl (fun H locs hw => ?_)
                obtain ⟨d53, ed53, h⟩ := lt_ex h
                have hw : Wd g (va_A ((XC g q d)) s.heap.size) ((XC g q d53)) s H locs := by rw [ed53]; exact hw
                exact r_i cx hr hlocks hw (pr1 h) (congrArg (fun z0 => (XC g q z0)) (pr2 h)) dX4_sheet_72
              · replace h := ite_f c49 h
                refine lv_aload_n hx hb dX4_sheet_58 rfl (lv_at hl 1 rfl) ?_
                refine lv_ldc hx hb cx.1.2.2.2.1 (cx.1.2.2.2.2 _ tw_1_202) dX4_sheet_59 ?_
                obtain ⟨x54, d55, g56, h⟩ := bd2_ex h
                refine c_V (As := [.int (-1000000001 : Int32)]) (rest := []) (w' := (XC g q d55)) cx hw (c_X4_tell l g q N (-1000000001 : Int32) d x54 d55 g56) (cl_X4_45 cx.1.2.2.2.2 ⟨Nat.le_of_ble_eq_true rfl, Nat.le_of_ble_eq_true rfl⟩) (x_recv cx hw (ci := 4) rfl 0 rfl) (Ct.all (XC_ll ..)) hl.1 rfl rfl (Nat.le_of_ble_eq_true rfl) dX4_sheet_61 ⟨Nat.le_of_ble_eq_true rfl, Nat.le_of_ble_eq_true rfl⟩ (st1 := [.int x54]) rfl (fun H locs hw => ?_)
                exact r_i cx hr hlocks hw (pr1 h) (congrArg (fun z0 => (XC g q z0)) (pr2 h)) dX4_sheet_64
            · replace h := ite_f c48 h
              refine lv_aload_n hx hb dX4_sheet_45 rfl (lv_at hl 1 rfl) ?_
              refine lv_ldc hx hb cx.1.2.2.2.1 (cx.1.2.2.2.2 _ tw_3_161) dX4_sheet_46 ?_
              obtain ⟨x57, d58, g59, h⟩ := bd2_ex h
              refine c_V (As := [.int (-1000000007 : Int32)]) (rest := []) (w' := (XC g q d58)) cx hw (c_X4_tell l g q N (-1000000007 : Int32) d x57 d58 g59) (cl_X4_45 cx.1.2.2.2.2 ⟨Nat.le_of_ble_eq_true rfl, Nat.le_of_ble_eq_true rfl⟩) (x_recv cx hw (ci := 4) rfl 0 rfl) (Ct.all (XC_ll ..)) hl.1 rfl rfl (Nat.le_of_ble_eq_true rfl) dX4_sheet_48 ⟨Nat.le_of_ble_eq_true rfl, Nat.le_of_ble_eq_true rfl⟩ (st1 := [.int x57]) rfl (fun H locs hw => ?_)
              exact r_i cx hr hlocks hw (pr1 h) (congrArg (fun z0 => (XC g q z0)) (pr2 h)) dX4_sheet_51
          · replace h := ite_f c47 h
            refine lv_aload_n hx hb dX4_sheet_34 rfl (lv_at hl 1 rfl) ?_
            refine lv_ldc hx hb cx.1.2.2.2.1 (cx.1.2.2.2.2 _ tw_1_202) dX4_sheet_35 ?_
            obtain ⟨x60, d61, g62, h⟩ := bd2_ex h
            refine c_V (As := [.int (-1000000001 : Int32)]) (rest := []) (w' := (XC g q d61)) cx hw (c_X4_tell l g q N (-1000000001 : Int32) d x60 d61 g62) (cl_X4_45 cx.1.2.2.2.2 ⟨Nat.le_of_ble_eq_true rfl, Nat.le_of_ble_eq_true rfl⟩) (x_recv cx hw (ci := 4) rfl 0 rfl) (Ct.all (XC_ll ..)) hl.1 rfl rfl (Nat.le_of_ble_eq_true rfl) dX4_sheet_37 ⟨Nat.le_of_ble_eq_true rfl, Nat.le_of_ble_eq_true rfl⟩ (st1 := [.int x60]) rfl (fun H locs hw => ?_)
            exact r_i cx hr hlocks hw (pr1 h) (congrArg (fun z0 => (XC g q z0)) (pr2 h)) dX4_sheet_40
  · replace h := sel_s h
    refine c_V (As := [.int p1]) (rest := []) (w' := (XC g q d)) cx hw (c_X4_sheetAt l g q N p1 d (some 1) g2) (cl_X4_219 cx.1.2.2.2.2 ⟨Nat.le_of_ble_eq_true rfl, Nat.le_of_ble_eq_true rfl⟩) (x_recv cx hw (ci := 4) rfl 0 rfl) (Ct.all (XC_ll ..)) hl.1 rfl rfl (Nat.le_of_ble_eq_true rfl) dX4_sheet_2 ⟨Nat.le_of_ble_eq_true rfl, Nat.le_of_ble_eq_true rfl⟩ (st1 := [.ref (qs 47 q 0)]) rfl (fun H locs hw => ?_)
    refine lv_astore (lv' := [(4, .ref (qs 47 q 0)), (0, .ref (q 0)), (1, .int p1), (2, .int p2), (3, .int p3)]) hx hb dX4_sheet_5 hl (by decide) rfl (fun ls hl => ?_)
    refine lv_aload hx hb dX4_sheet_7 (lv_at hl 0 rfl) ?_
    refine lv_ifnull hx hb dX4_sheet_9 ?_
    refine lv_iload_n hx hb dX4_sheet_12 rfl (lv_at hl 3 rfl) ?_
    refine lv_if_eq (tgt := 41) hx hb dX4_sheet_13 (by decide) (fun c63 => ?_) (fun c63 => ?_)
    · replace h := ite_t c63 h
      refine lv_iload_n hx hb dX4_sheet_41 rfl (lv_at hl 4 rfl) ?_
      refine lv_if_ge (tgt := 52) hx hb dX4_sheet_42 (by decide) (fun c64 => ?_) (fun c64 => ?_)
      · replace h := ite_t c64 h
        refine lv_iload_n hx hb dX4_sheet_52 rfl (lv_at hl 4 rfl) ?_
        refine lv_bipush (v := 40) hx hb dX4_sheet_53 (by decide) ?_
        refine lv_icmp_le (tgt := 65) hx hb dX4_sheet_55 (by decide) (fun c65 => ?_) (fun c65 => ?_)
        · replace h := ite_t c65 h
          refine lv_aload hx hb dX4_sheet_65 (lv_at hl 0 rfl) ?_
          refine lv_iload_n hx hb dX4_sheet_67 rfl (lv_at hl 3 rfl) ?_
          refine lv_iload_n hx hb dX4_sheet_68 rfl (lv_at hl 4 rfl) ?_
          obtain ⟨x66, d67, g68, h⟩ := bd2_ex h
          refine c_V (As := [.int p2, .int p3]) (rest := []) (w' := (XC g q (x_set_sheets d (sPut (x_sheets d) 1 d67)))) cx hw (c_X0_begin l g (qs 47 q) N p2 p3 (sAt (x_sheets d) 1) x66 d67 g68) (cl_X4_224 cx.1.2.2.2.2 ⟨Nat.le_of_ble_eq_true rfl, Nat.le_of_ble_eq_true rfl⟩) (x_recv cx hw (ci := 0) rfl 47 rfl) (ct_X__47_48__S_0 g q d d67) hl.1 rfl rfl (Nat.le_of_ble_eq_true rfl) dX4_sheet_69 ⟨Nat.le_of_ble_eq_true rfl, Nat.le_of_ble_eq_true rfl⟩ (st1 := [.int x66]) rfl (fun H locs hw => ?_)
          obtain ⟨d69, ed69, h⟩ := lt_ex h
          have hw : Wd g (va_A ((XC g q d)) s.heap.size) ((XC g q d69)) s H locs := by rw [ed69]; exact hw
          exact r_i cx hr hlocks hw (pr1 h) (congrArg (fun z0 => (XC g q z0)) (pr2 h)) dX4_sheet_72
        · replace h := ite_f c65 h
          refine lv_aload_n hx hb dX4_sheet_58 rfl (lv_at hl 1 rfl) ?_
          refine lv_ldc hx hb cx.1.2.2.2.1 (cx.1.2.2.2.2 _ tw_1_202) dX4_sheet_59 ?_
          obtain ⟨x70, d71, g72, h⟩ := bd2_ex h
          refine c_V (As := [.int (-1000000001 : Int32)]) (rest := []) (w' := (XC g q d71)) cx hw (c_X4_tell l g q N (-1000000001 : Int32) d x70 d71 g72) (cl_X4_45 cx.1.2.2.2.2 ⟨Nat.le_of_ble_eq_true rfl, Nat.le_of_ble_eq_true rfl⟩) (x_recv cx hw (ci := 4) rfl 0 rfl) (Ct.all (XC_ll ..)) hl.1 rfl rfl (Nat.le_of_ble_eq_true rfl) dX4_sheet_61 ⟨Nat.le_of_ble_eq_true rfl, Nat.le_of_ble_eq_true rfl⟩ (st1 := [.int x70]) rfl (fun H locs hw => ?_)
          exact r_i cx hr hlocks hw (pr1 h) (congrArg (fun z0 => (XC g q z0)) (pr2 h)) dX4_sheet_64
      · replace h := ite_f c64 h
        refine lv_aload_n hx hb dX4_sheet_45 rfl (lv_at hl 1 rfl) ?_
        refine lv_ldc hx hb cx.1.2.2.2.1 (cx.1.2.2.2.2 _ tw_3_161) dX4_sheet_46 ?_
        obtain ⟨x73, d74, g75, h⟩ := bd2_ex h
        refine c_V (As := [.int (-1000000007 : Int32)]) (rest := []) (w' := (XC g q d74)) cx hw (c_X4_tell l g q N (-1000000007 : Int32) d x73 d74 g75) (cl_X4_45 cx.1.2.2.2.2 ⟨Nat.le_of_ble_eq_true rfl, Nat.le_of_ble_eq_true rfl⟩) (x_recv cx hw (ci := 4) rfl 0 rfl) (Ct.all (XC_ll ..)) hl.1 rfl rfl (Nat.le_of_ble_eq_true rfl) dX4_sheet_48 ⟨Nat.le_of_ble_eq_true rfl, Nat.le_of_ble_eq_true rfl⟩ (st1 := [.int x73]) rfl (fun H locs hw => ?_)
        exact r_i cx hr hlocks hw (pr1 h) (congrArg (fun z0 => (XC g q z0)) (pr2 h)) dX4_sheet_51
    · replace h := ite_f c63 h
      refine lv_iload_n hx hb dX4_sheet_16 rfl (lv_at hl 3 rfl) ?_
      refine lv_bipush (v := 8) hx hb dX4_sheet_17 (by decide) ?_
      refine lv_icmp_eq (tgt := 41) hx hb dX4_sheet_19 (by decide) (fun c76 => ?_) (fun c76 => ?_)
      · replace h := ite_t c76 h
        refine lv_iload_n hx hb dX4_sheet_41 rfl (lv_at hl 4 rfl) ?_
        refine lv_if_ge (tgt := 52) hx hb dX4_sheet_42 (by decide) (fun c77 => ?_) (fun c77 => ?_)
        · replace h := ite_t c77 h
          refine lv_iload_n hx hb dX4_sheet_52 rfl (lv_at hl 4 rfl) ?_
          refine lv_bipush (v := 40) hx hb dX4_sheet_53 (by decide) ?_
          refine lv_icmp_le (tgt := 65) hx hb dX4_sheet_55 (by decide) (fun c78 => ?_) (fun c78 => ?_)
          · replace h := ite_t c78 h
            refine lv_aload hx hb dX4_sheet_65 (lv_at hl 0 rfl) ?_
            refine lv_iload_n hx hb dX4_sheet_67 rfl (lv_at hl 3 rfl) ?_
            refine lv_iload_n hx hb dX4_sheet_68 rfl (lv_at hl 4 rfl) ?_
            obtain ⟨x79, d80, g81, h⟩ := bd2_ex h
            refine c_V (As := [.int p2, .int p3]) (rest := []) (w' := (XC g q (x_set_sheets d (sPut (x_sheets d) 1 d80)))) cx hw (c_X0_begin l g (qs 47 q) N p2 p3 (sAt (x_sheets d) 1) x79 d80 g81) (cl_X4_224 cx.1.2.2.2.2 ⟨Nat.le_of_ble_eq_true rfl, Nat.le_of_ble_eq_true rfl⟩) (x_recv cx hw (ci := 0) rfl 47 rfl) (ct_X__47_48__S_0 g q d d80) hl.1 rfl rfl (Nat.le_of_ble_eq_true rfl) dX4_sheet_69 ⟨Nat.le_of_ble_eq_true rfl, Nat.le_of_ble_eq_true rfl⟩ (st1 := [.int x79]) rfl (fun H locs hw => ?_)
            obtain ⟨d82, ed82, h⟩ := lt_ex h
            have hw : Wd g (va_A ((XC g q d)) s.heap.size) ((XC g q d82)) s H locs := by rw [ed82]; exact hw
            exact r_i cx hr hlocks hw (pr1 h) (congrArg (fun z0 => (XC g q z0)) (pr2 h)) dX4_sheet_72
          · replace h := ite_f c78 h
            refine lv_aload_n hx hb dX4_sheet_58 rfl (lv_at hl 1 rfl) ?_
            refine lv_ldc hx hb cx.1.2.2.2.1 (cx.1.2.2.2.2 _ tw_1_202) dX4_sheet_59 ?_
            obtain ⟨x83, d84, g85, h⟩ := bd2_ex h
            refine c_V (As := [.int (-1000000001 : Int32)]) (rest := []) (w' := (XC g q d84)) cx hw (c_X4_tell l g q N (-1000000001 : Int32) d x83 d84 g85) (cl_X4_45 cx.1.2.2.2.2 ⟨Nat.le_of_ble_eq_true rfl, Nat.le_of_ble_eq_true rfl⟩) (x_recv cx hw (ci := 4) rfl 0 rfl) (Ct.all (XC_ll ..)) hl.1 rfl rfl (Nat.le_of_ble_eq_true rfl) dX4_sheet_61 ⟨Nat.le_of_ble_eq_true rfl, Nat.le_of_ble_eq_true rfl⟩ (st1 := [.int x83]) rfl (fun H locs hw => ?_)
            exact r_i cx hr hlocks hw (pr1 h) (congrArg (fun z0 => (XC g q z0)) (pr2 h)) dX4_sheet_64
        · replace h := ite_f c77 h
          refine lv_aload_n hx hb dX4_sheet_45 rfl (lv_at hl 1 rfl) ?_
          refine lv_ldc hx hb cx.1.2.2.2.1 (cx.1.2.2.2.2 _ tw_3_161) dX4_sheet_46 ?_
          obtain ⟨x86, d87, g88, h⟩ := bd2_ex h
          refine c_V (As := [.int (-1000000007 : Int32)]) (rest := []) (w' := (XC g q d87)) cx hw (c_X4_tell l g q N (-1000000007 : Int32) d x86 d87 g88) (cl_X4_45 cx.1.2.2.2.2 ⟨Nat.le_of_ble_eq_true rfl, Nat.le_of_ble_eq_true rfl⟩) (x_recv cx hw (ci := 4) rfl 0 rfl) (Ct.all (XC_ll ..)) hl.1 rfl rfl (Nat.le_of_ble_eq_true rfl) dX4_sheet_48 ⟨Nat.le_of_ble_eq_true rfl, Nat.le_of_ble_eq_true rfl⟩ (st1 := [.int x86]) rfl (fun H locs hw => ?_)
          exact r_i cx hr hlocks hw (pr1 h) (congrArg (fun z0 => (XC g q z0)) (pr2 h)) dX4_sheet_51
      · replace h := ite_f c76 h
        refine lv_iload_n hx hb dX4_sheet_22 rfl (lv_at hl 3 rfl) ?_
        refine lv_bipush (v := 16) hx hb dX4_sheet_23 (by decide) ?_
        refine lv_icmp_eq (tgt := 41) hx hb dX4_sheet_25 (by decide) (fun c89 => ?_) (fun c89 => ?_)
        · replace h := ite_t c89 h
          refine lv_iload_n hx hb dX4_sheet_41 rfl (lv_at hl 4 rfl) ?_
          refine lv_if_ge (tgt := 52) hx hb dX4_sheet_42 (by decide) (fun c90 => ?_) (fun c90 => ?_)
          · replace h := ite_t c90 h
            refine lv_iload_n hx hb dX4_sheet_52 rfl (lv_at hl 4 rfl) ?_
            refine lv_bipush (v := 40) hx hb dX4_sheet_53 (by decide) ?_
            refine lv_icmp_le (tgt := 65) hx hb dX4_sheet_55 (by decide) (fun c91 => ?_) (fun c91 => ?_)
            · replace h := ite_t c91 h
              refine lv_aload hx hb dX4_sheet_65 (lv_at hl 0 rfl) ?_
              refine lv_iload_n hx hb dX4_sheet_67 rfl (lv_at hl 3 rfl) ?_
              refine lv_iload_n hx hb dX4_sheet_68 rfl (lv_at hl 4 rfl) ?_
              obtain ⟨x92, d93, g94, h⟩ := bd2_ex h
              refine c_V (As := [.int p2, .int p3]) (rest := []) (w' := (XC g q (x_set_sheets d (sPut (x_sheets d) 1 d93)))) cx hw (c_X0_begin l g (qs 47 q) N p2 p3 (sAt (x_sheets d) 1) x92 d93 g94) (cl_X4_224 cx.1.2.2.2.2 ⟨Nat.le_of_ble_eq_true rfl, Nat.le_of_ble_eq_true rfl⟩) (x_recv cx hw (ci := 0) rfl 47 rfl) (ct_X__47_48__S_0 g q d d93) hl.1 rfl rfl (Nat.le_of_ble_eq_true rfl) dX4_sheet_69 ⟨Nat.le_of_ble_eq_true rfl, Nat.le_of_ble_eq_true rfl⟩ (st1 := [.int x92]) rfl (fun H locs hw => ?_)
              obtain ⟨d95, ed95, h⟩ := lt_ex h
              have hw : Wd g (va_A ((XC g q d)) s.heap.size) ((XC g q d95)) s H locs := by rw [ed95]; exact hw
              exact r_i cx hr hlocks hw (pr1 h) (congrArg (fun z0 => (XC g q z0)) (pr2 h)) dX4_sheet_72
            · replace h := ite_f c91 h
              refine lv_aload_n hx hb dX4_sheet_58 rfl (lv_at hl 1 rfl) ?_
              refine lv_ldc hx hb cx.1.2.2.2.1 (cx.1.2.2.2.2 _ tw_1_202) dX4_sheet_59 ?_
              obtain ⟨x96, d97, g98, h⟩ := bd2_ex h
              refine c_V (As := [.int (-1000000001 : Int32)]) (rest := []) (w' := (XC g q d97)) cx hw (c_X4_tell l g q N (-1000000001 : Int32) d x96 d97 g98) (cl_X4_45 cx.1.2.2.2.2 ⟨Nat.le_of_ble_eq_true rfl, Nat.le_of_ble_eq_true rfl⟩) (x_recv cx hw (ci := 4) rfl 0 rfl) (Ct.all (XC_ll ..)) hl.1 rfl rfl (Nat.le_of_ble_eq_true rfl) dX4_sheet_61 ⟨Nat.le_of_ble_eq_true rfl, Nat.le_of_ble_eq_true rfl⟩ (st1 := [.int x96]) rfl (fun H locs hw => ?_)
              exact r_i cx hr hlocks hw (pr1 h) (congrArg (fun z0 => (XC g q z0)) (pr2 h)) dX4_sheet_64
          · replace h := ite_f c90 h
            refine lv_aload_n hx hb dX4_sheet_45 rfl (lv_at hl 1 rfl) ?_
            refine lv_ldc hx hb cx.1.2.2.2.1 (cx.1.2.2.2.2 _ tw_3_161) dX4_sheet_46 ?_
            obtain ⟨x99, d100, g101, h⟩ := bd2_ex h
            refine c_V (As := [.int (-1000000007 : Int32)]) (rest := []) (w' := (XC g q d100)) cx hw (c_X4_tell l g q N (-1000000007 : Int32) d x99 d100 g101) (cl_X4_45 cx.1.2.2.2.2 ⟨Nat.le_of_ble_eq_true rfl, Nat.le_of_ble_eq_true rfl⟩) (x_recv cx hw (ci := 4) rfl 0 rfl) (Ct.all (XC_ll ..)) hl.1 rfl rfl (Nat.le_of_ble_eq_true rfl) dX4_sheet_48 ⟨Nat.le_of_ble_eq_true rfl, Nat.le_of_ble_eq_true rfl⟩ (st1 := [.int x99]) rfl (fun H locs hw => ?_)
            exact r_i cx hr hlocks hw (pr1 h) (congrArg (fun z0 => (XC g q z0)) (pr2 h)) dX4_sheet_51
        · replace h := ite_f c89 h
          refine lv_iload_n hx hb dX4_sheet_28 rfl (lv_at hl 3 rfl) ?_
          refine lv_bipush (v := 64) hx hb dX4_sheet_29 (by decide) ?_
          refine lv_icmp_eq (tgt := 41) hx hb dX4_sheet_31 (by decide) (fun c102 => ?_) (fun c102 => ?_)
          · replace h := ite_t c102 h
            refine lv_iload_n hx hb dX4_sheet_41 rfl (lv_at hl 4 rfl) ?_
            refine lv_if_ge (tgt := 52) hx hb dX4_sheet_42 (by decide) (fun c103 => ?_) (fun c103 => ?_)
            · replace h := ite_t c103 h
              refine lv_iload_n hx hb dX4_sheet_52 rfl (lv_at hl 4 rfl) ?_
              refine lv_bipush (v := 40) hx hb dX4_sheet_53 (by decide) ?_
              refine lv_icmp_le (tgt := 65) hx hb dX4_sheet_55 (by decide) (fun c104 => ?_) (fun c104 => ?_)
              · replace h := ite_t c104 h
                refine lv_aload hx hb dX4_sheet_65 (lv_at hl 0 rfl) ?_
                refine lv_iload_n hx hb dX4_sheet_67 rfl (lv_at hl 3 rfl) ?_
                refine lv_iload_n hx hb dX4_sheet_68 rfl (lv_at hl 4 rfl) ?_
                obtain ⟨x105, d106, g107, h⟩ := bd2_ex h
                refine c_V (As := [.int p2, .int p3]) (rest := []) (w' := (XC g q (x_set_sheets d (sPut (x_sheets d) 1 d106)))) cx hw (c_X0_begin l g (qs 47 q) N p2 p3 (sAt (x_sheets d) 1) x105 d106 g107) (cl_X4_224 cx.1.2.2.2.2 ⟨Nat.le_of_ble_eq_true rfl, Nat.le_of_ble_eq_true rfl⟩) (x_recv cx hw (ci := 0) rfl 47 rfl) (ct_X__47_48__S_0 g q d d106) hl.1 rfl rfl (Nat.le_of_ble_eq_true rfl) dX4_sheet_69 ⟨Nat.le_of_ble_eq_true rfl, Nat.le_of_ble_eq_true rfl⟩ (st1 := [.int x105]) rfl (fun H locs hw => ?_)
                obtain ⟨d108, ed108, h⟩ := lt_ex h
                have hw : Wd g (va_A ((XC g q d)) s.heap.size) ((XC g q d108)) s H locs := by rw [ed108]; exact hw
                exact r_i cx hr hlocks hw (pr1 h) (congrArg (fun z0 => (XC g q z0)) (pr2 h)) dX4_sheet_72
              · replace h := ite_f c104 h
                refine lv_aload_n hx hb dX4_sheet_58 rfl (lv_at hl 1 rfl) ?_
                refine lv_ldc hx hb cx.1.2.2.2.1 (cx.1.2.2.2.2 _ tw_1_202) dX4_sheet_59 ?_
                obtain ⟨x109, d110, g111, h⟩ := bd2_ex h
                refine c_V (As := [.int (-1000000001 : Int32)]) (rest := []) (w' := (XC g q d110)) cx hw (c_X4_tell l g q N (-1000000001 : Int32) d x109 d110 g111) (cl_X4_45 cx.1.2.2.2.2 ⟨Nat.le_of_ble_eq_true rfl, Nat.le_of_ble_eq_true rfl⟩) (x_recv cx hw (ci := 4) rfl 0 rfl) (Ct.all (XC_ll ..)) hl.1 rfl rfl (Nat.le_of_ble_eq_true rfl) dX4_sheet_61 ⟨Nat.le_of_ble_eq_true rfl, Nat.le_of_ble_eq_true rfl⟩ (st1 := [.int x109]) rfl (fun H locs hw => ?_)
                exact r_i cx hr hlocks hw (pr1 h) (congrArg (fun z0 => (XC g q z0)) (pr2 h)) dX4_sheet_64
            · replace h := ite_f c103 h
              refine lv_aload_n hx hb dX4_sheet_45 rfl (lv_at hl 1 rfl) ?_
              refine lv_ldc hx hb cx.1.2.2.2.1 (cx.1.2.2.2.2 _ tw_3_161) dX4_sheet_46 ?_
              obtain ⟨x112, d113, g114, h⟩ := bd2_ex h
              refine c_V (As := [.int (-1000000007 : Int32)]) (rest := []) (w' := (XC g q d113)) cx hw (c_X4_tell l g q N (-1000000007 : Int32) d x112 d113 g114) (cl_X4_45 cx.1.2.2.2.2 ⟨Nat.le_of_ble_eq_true rfl, Nat.le_of_ble_eq_true rfl⟩) (x_recv cx hw (ci := 4) rfl 0 rfl) (Ct.all (XC_ll ..)) hl.1 rfl rfl (Nat.le_of_ble_eq_true rfl) dX4_sheet_48 ⟨Nat.le_of_ble_eq_true rfl, Nat.le_of_ble_eq_true rfl⟩ (st1 := [.int x112]) rfl (fun H locs hw => ?_)
              exact r_i cx hr hlocks hw (pr1 h) (congrArg (fun z0 => (XC g q z0)) (pr2 h)) dX4_sheet_51
          · replace h := ite_f c102 h
            refine lv_aload_n hx hb dX4_sheet_34 rfl (lv_at hl 1 rfl) ?_
            refine lv_ldc hx hb cx.1.2.2.2.1 (cx.1.2.2.2.2 _ tw_1_202) dX4_sheet_35 ?_
            obtain ⟨x115, d116, g117, h⟩ := bd2_ex h
            refine c_V (As := [.int (-1000000001 : Int32)]) (rest := []) (w' := (XC g q d116)) cx hw (c_X4_tell l g q N (-1000000001 : Int32) d x115 d116 g117) (cl_X4_45 cx.1.2.2.2.2 ⟨Nat.le_of_ble_eq_true rfl, Nat.le_of_ble_eq_true rfl⟩) (x_recv cx hw (ci := 4) rfl 0 rfl) (Ct.all (XC_ll ..)) hl.1 rfl rfl (Nat.le_of_ble_eq_true rfl) dX4_sheet_37 ⟨Nat.le_of_ble_eq_true rfl, Nat.le_of_ble_eq_true rfl⟩ (st1 := [.int x115]) rfl (fun H locs hw => ?_)
            exact r_i cx hr hlocks hw (pr1 h) (congrArg (fun z0 => (XC g q z0)) (pr2 h)) dX4_sheet_40
  · replace h := sel_s h
    refine c_V (As := [.int p1]) (rest := []) (w' := (XC g q d)) cx hw (c_X4_sheetAt l g q N p1 d (some 2) g2) (cl_X4_219 cx.1.2.2.2.2 ⟨Nat.le_of_ble_eq_true rfl, Nat.le_of_ble_eq_true rfl⟩) (x_recv cx hw (ci := 4) rfl 0 rfl) (Ct.all (XC_ll ..)) hl.1 rfl rfl (Nat.le_of_ble_eq_true rfl) dX4_sheet_2 ⟨Nat.le_of_ble_eq_true rfl, Nat.le_of_ble_eq_true rfl⟩ (st1 := [.ref (qs 49 q 0)]) rfl (fun H locs hw => ?_)
    refine lv_astore (lv' := [(4, .ref (qs 49 q 0)), (0, .ref (q 0)), (1, .int p1), (2, .int p2), (3, .int p3)]) hx hb dX4_sheet_5 hl (by decide) rfl (fun ls hl => ?_)
    refine lv_aload hx hb dX4_sheet_7 (lv_at hl 0 rfl) ?_
    refine lv_ifnull hx hb dX4_sheet_9 ?_
    refine lv_iload_n hx hb dX4_sheet_12 rfl (lv_at hl 3 rfl) ?_
    refine lv_if_eq (tgt := 41) hx hb dX4_sheet_13 (by decide) (fun c118 => ?_) (fun c118 => ?_)
    · replace h := ite_t c118 h
      refine lv_iload_n hx hb dX4_sheet_41 rfl (lv_at hl 4 rfl) ?_
      refine lv_if_ge (tgt := 52) hx hb dX4_sheet_42 (by decide) (fun c119 => ?_) (fun c119 => ?_)
      · replace h := ite_t c119 h
        refine lv_iload_n hx hb dX4_sheet_52 rfl (lv_at hl 4 rfl) ?_
        refine lv_bipush (v := 40) hx hb dX4_sheet_53 (by decide) ?_
        refine lv_icmp_le (tgt := 65) hx hb dX4_sheet_55 (by decide) (fun c120 => ?_) (fun c120 => ?_)
        · replace h := ite_t c120 h
          refine lv_aload hx hb dX4_sheet_65 (lv_at hl 0 rfl) ?_
          refine lv_iload_n hx hb dX4_sheet_67 rfl (lv_at hl 3 rfl) ?_
          refine lv_iload_n hx hb dX4_sheet_68 rfl (lv_at hl 4 rfl) ?_
          obtain ⟨x121, d122, g123, h⟩ := bd2_ex h
          refine c_V (As := [.int p2, .int p3]) (rest := []) (w' := (XC g q (x_set_sheets d (sPut (x_sheets d) 2 d122)))) cx hw (c_X0_begin l g (qs 49 q) N p2 p3 (sAt (x_sheets d) 2) x121 d122 g123) (cl_X4_224 cx.1.2.2.2.2 ⟨Nat.le_of_ble_eq_true rfl, Nat.le_of_ble_eq_true rfl⟩) (x_recv cx hw (ci := 0) rfl 49 rfl) (ct_X__49_50__S_0 g q d d122) hl.1 rfl rfl (Nat.le_of_ble_eq_true rfl) dX4_sheet_69 ⟨Nat.le_of_ble_eq_true rfl, Nat.le_of_ble_eq_true rfl⟩ (st1 := [.int x121]) rfl (fun H locs hw => ?_)
          obtain ⟨d124, ed124, h⟩ := lt_ex h
          have hw : Wd g (va_A ((XC g q d)) s.heap.size) ((XC g q d124)) s H locs := by rw [ed124]; exact hw
          exact r_i cx hr hlocks hw (pr1 h) (congrArg (fun z0 => (XC g q z0)) (pr2 h)) dX4_sheet_72
        · replace h := ite_f c120 h
          refine lv_aload_n hx hb dX4_sheet_58 rfl (lv_at hl 1 rfl) ?_
          refine lv_ldc hx hb cx.1.2.2.2.1 (cx.1.2.2.2.2 _ tw_1_202) dX4_sheet_59 ?_
          obtain ⟨x125, d126, g127, h⟩ := bd2_ex h
          refine c_V (As := [.int (-1000000001 : Int32)]) (rest := []) (w' := (XC g q d126)) cx hw (c_X4_tell l g q N (-1000000001 : Int32) d x125 d126 g127) (cl_X4_45 cx.1.2.2.2.2 ⟨Nat.le_of_ble_eq_true rfl, Nat.le_of_ble_eq_true rfl⟩) (x_recv cx hw (ci := 4) rfl 0 rfl) (Ct.all (XC_ll ..)) hl.1 rfl rfl (Nat.le_of_ble_eq_true rfl) dX4_sheet_61 ⟨Nat.le_of_ble_eq_true rfl, Nat.le_of_ble_eq_true rfl⟩ (st1 := [.int x125]) rfl (fun H locs hw => ?_)
          exact r_i cx hr hlocks hw (pr1 h) (congrArg (fun z0 => (XC g q z0)) (pr2 h)) dX4_sheet_64
      · replace h := ite_f c119 h
        refine lv_aload_n hx hb dX4_sheet_45 rfl (lv_at hl 1 rfl) ?_
        refine lv_ldc hx hb cx.1.2.2.2.1 (cx.1.2.2.2.2 _ tw_3_161) dX4_sheet_46 ?_
        obtain ⟨x128, d129, g130, h⟩ := bd2_ex h
        refine c_V (As := [.int (-1000000007 : Int32)]) (rest := []) (w' := (XC g q d129)) cx hw (c_X4_tell l g q N (-1000000007 : Int32) d x128 d129 g130) (cl_X4_45 cx.1.2.2.2.2 ⟨Nat.le_of_ble_eq_true rfl, Nat.le_of_ble_eq_true rfl⟩) (x_recv cx hw (ci := 4) rfl 0 rfl) (Ct.all (XC_ll ..)) hl.1 rfl rfl (Nat.le_of_ble_eq_true rfl) dX4_sheet_48 ⟨Nat.le_of_ble_eq_true rfl, Nat.le_of_ble_eq_true rfl⟩ (st1 := [.int x128]) rfl (fun H locs hw => ?_)
        exact r_i cx hr hlocks hw (pr1 h) (congrArg (fun z0 => (XC g q z0)) (pr2 h)) dX4_sheet_51
    · replace h := ite_f c118 h
      refine lv_iload_n hx hb dX4_sheet_16 rfl (lv_at hl 3 rfl) ?_
      refine lv_bipush (v := 8) hx hb dX4_sheet_17 (by decide) ?_
      refine lv_icmp_eq (tgt := 41) hx hb dX4_sheet_19 (by decide) (fun c131 => ?_) (fun c131 => ?_)
      · replace h := ite_t c131 h
        refine lv_iload_n hx hb dX4_sheet_41 rfl (lv_at hl 4 rfl) ?_
        refine lv_if_ge (tgt := 52) hx hb dX4_sheet_42 (by decide) (fun c132 => ?_) (fun c132 => ?_)
        · replace h := ite_t c132 h
          refine lv_iload_n hx hb dX4_sheet_52 rfl (lv_at hl 4 rfl) ?_
          refine lv_bipush (v := 40) hx hb dX4_sheet_53 (by decide) ?_
          refine lv_icmp_le (tgt := 65) hx hb dX4_sheet_55 (by decide) (fun c133 => ?_) (fun c133 => ?_)
          · replace h := ite_t c133 h
            refine lv_aload hx hb dX4_sheet_65 (lv_at hl 0 rfl) ?_
            refine lv_iload_n hx hb dX4_sheet_67 rfl (lv_at hl 3 rfl) ?_
            refine lv_iload_n hx hb dX4_sheet_68 rfl (lv_at hl 4 rfl) ?_
            obtain ⟨x134, d135, g136, h⟩ := bd2_ex h
            refine c_V (As := [.int p2, .int p3]) (rest := []) (w' := (XC g q (x_set_sheets d (sPut (x_sheets d) 2 d135)))) cx hw (c_X0_begin l g (qs 49 q) N p2 p3 (sAt (x_sheets d) 2) x134 d135 g136) (cl_X4_224 cx.1.2.2.2.2 ⟨Nat.le_of_ble_eq_true rfl, Nat.le_of_ble_eq_true rfl⟩) (x_recv cx hw (ci := 0) rfl 49 rfl) (ct_X__49_50__S_0 g q d d135) hl.1 rfl rfl (Nat.le_of_ble_eq_true rfl) dX4_sheet_69 ⟨Nat.le_of_ble_eq_true rfl, Nat.le_of_ble_eq_true rfl⟩ (st1 := [.int x134]) rfl (fun H locs hw => ?_)
            obtain ⟨d137, ed137, h⟩ := lt_ex h
            have hw : Wd g (va_A ((XC g q d)) s.heap.size) ((XC g q d137)) s H locs := by rw [ed137]; exact hw
            exact r_i cx hr hlocks hw (pr1 h) (congrArg (fun z0 => (XC g q z0)) (pr2 h)) dX4_sheet_72
          · replace h := ite_f c133 h
            refine lv_aload_n hx hb dX4_sheet_58 rfl (lv_at hl 1 rfl) ?_
            refine lv_ldc hx hb cx.1.2.2.2.1 (cx.1.2.2.2.2 _ tw_1_202) dX4_sheet_59 ?_
            obtain ⟨x138, d139, g140, h⟩ := bd2_ex h
            refine c_V (As := [.int (-1000000001 : Int32)]) (rest := []) (w' := (XC g q d139)) cx hw (c_X4_tell l g q N (-1000000001 : Int32) d x138 d139 g140) (cl_X4_45 cx.1.2.2.2.2 ⟨Nat.le_of_ble_eq_true rfl, Nat.le_of_ble_eq_true rfl⟩) (x_recv cx hw (ci := 4) rfl 0 rfl) (Ct.all (XC_ll ..)) hl.1 rfl rfl (Nat.le_of_ble_eq_true rfl) dX4_sheet_61 ⟨Nat.le_of_ble_eq_true rfl, Nat.le_of_ble_eq_true rfl⟩ (st1 := [.int x138]) rfl (fun H locs hw => ?_)
            exact r_i cx hr hlocks hw (pr1 h) (congrArg (fun z0 => (XC g q z0)) (pr2 h)) dX4_sheet_64
        · replace h := ite_f c132 h
          refine lv_aload_n hx hb dX4_sheet_45 rfl (lv_at hl 1 rfl) ?_
          refine lv_ldc hx hb cx.1.2.2.2.1 (cx.1.2.2.2.2 _ tw_3_161) dX4_sheet_46 ?_
          obtain ⟨x141, d142, g143, h⟩ := bd2_ex h
          refine c_V (As := [.int (-1000000007 : Int32)]) (rest := []) (w' := (XC g q d142)) cx hw (c_X4_tell l g q N (-1000000007 : Int32) d x141 d142 g143) (cl_X4_45 cx.1.2.2.2.2 ⟨Nat.le_of_ble_eq_true rfl, Nat.le_of_ble_eq_true rfl⟩) (x_recv cx hw (ci := 4) rfl 0 rfl) (Ct.all (XC_ll ..)) hl.1 rfl rfl (Nat.le_of_ble_eq_true rfl) dX4_sheet_48 ⟨Nat.le_of_ble_eq_true rfl, Nat.le_of_ble_eq_true rfl⟩ (st1 := [.int x141]) rfl (fun H locs hw => ?_)
          exact r_i cx hr hlocks hw (pr1 h) (congrArg (fun z0 => (XC g q z0)) (pr2 h)) dX4_sheet_51
      · replace h := ite_f c131 h
        refine lv_iload_n hx hb dX4_sheet_22 rfl (lv_at hl 3 rfl) ?_
        refine lv_bipush (v := 16) hx hb dX4_sheet_23 (by decide) ?_
        refine lv_icmp_eq (tgt := 41) hx hb dX4_sheet_25 (by decide) (fun c144 => ?_) (fun c144 => ?_)
        · replace h := ite_t c144 h
          refine lv_iload_n hx hb dX4_sheet_41 rfl (lv_at hl 4 rfl) ?_
          refine lv_if_ge (tgt := 52) hx hb dX4_sheet_42 (by decide) (fun c145 => ?_) (fun c145 => ?_)
          · replace h := ite_t c145 h
            refine lv_iload_n hx hb dX4_sheet_52 rfl (lv_at hl 4 rfl) ?_
            refine lv_bipush (v := 40) hx hb dX4_sheet_53 (by decide) ?_
            refine lv_icmp_le (tgt := 65) hx hb dX4_sheet_55 (by decide) (fun c146 => ?_) (fun c146 => ?_)
            · replace h := ite_t c146 h
              refine lv_aload hx hb dX4_sheet_65 (lv_at hl 0 rfl) ?_
              refine lv_iload_n hx hb dX4_sheet_67 rfl (lv_at hl 3 rfl) ?_
              refine lv_iload_n hx hb dX4_sheet_68 rfl (lv_at hl 4 rfl) ?_
              obtain ⟨x147, d148, g149, h⟩ := bd2_ex h
              refine c_V (As := [.int p2, .int p3]) (rest := []) (w' := (XC g q (x_set_sheets d (sPut (x_sheets d) 2 d148)))) cx hw (c_X0_begin l g (qs 49 q) N p2 p3 (sAt (x_sheets d) 2) x147 d148 g149) (cl_X4_224 cx.1.2.2.2.2 ⟨Nat.le_of_ble_eq_true rfl, Nat.le_of_ble_eq_true rfl⟩) (x_recv cx hw (ci := 0) rfl 49 rfl) (ct_X__49_50__S_0 g q d d148) hl.1 rfl rfl (Nat.le_of_ble_eq_true rfl) dX4_sheet_69 ⟨Nat.le_of_ble_eq_true rfl, Nat.le_of_ble_eq_true rfl⟩ (st1 := [.int x147]) rfl (fun H locs hw => ?_)
              obtain ⟨d150, ed150, h⟩ := lt_ex h
              have hw : Wd g (va_A ((XC g q d)) s.heap.size) ((XC g q d150)) s H locs := by rw [ed150]; exact hw
              exact r_i cx hr hlocks hw (pr1 h) (congrArg (fun z0 => (XC g q z0)) (pr2 h)) dX4_sheet_72
            · replace h := ite_f c146 h
              refine lv_aload_n hx hb dX4_sheet_58 rfl (lv_at hl 1 rfl) ?_
              refine lv_ldc hx hb cx.1.2.2.2.1 (cx.1.2.2.2.2 _ tw_1_202) dX4_sheet_59 ?_
              obtain ⟨x151, d152, g153, h⟩ := bd2_ex h
              refine c_V (As := [.int (-1000000001 : Int32)]) (rest := []) (w' := (XC g q d152)) cx hw (c_X4_tell l g q N (-1000000001 : Int32) d x151 d152 g153) (cl_X4_45 cx.1.2.2.2.2 ⟨Nat.le_of_ble_eq_true rfl, Nat.le_of_ble_eq_true rfl⟩) (x_recv cx hw (ci := 4) rfl 0 rfl) (Ct.all (XC_ll ..)) hl.1 rfl rfl (Nat.le_of_ble_eq_true rfl) dX4_sheet_61 ⟨Nat.le_of_ble_eq_true rfl, Nat.le_of_ble_eq_true rfl⟩ (st1 := [.int x151]) rfl (fun H locs hw => ?_)
              exact r_i cx hr hlocks hw (pr1 h) (congrArg (fun z0 => (XC g q z0)) (pr2 h)) dX4_sheet_64
          · replace h := ite_f c145 h
            refine lv_aload_n hx hb dX4_sheet_45 rfl (lv_at hl 1 rfl) ?_
            refine lv_ldc hx hb cx.1.2.2.2.1 (cx.1.2.2.2.2 _ tw_3_161) dX4_sheet_46 ?_
            obtain ⟨x154, d155, g156, h⟩ := bd2_ex h
            refine c_V (As := [.int (-1000000007 : Int32)]) (rest := []) (w' := (XC g q d155)) cx hw (c_X4_tell l g q N (-1000000007 : Int32) d x154 d155 g156) (cl_X4_45 cx.1.2.2.2.2 ⟨Nat.le_of_ble_eq_true rfl, Nat.le_of_ble_eq_true rfl⟩) (x_recv cx hw (ci := 4) rfl 0 rfl) (Ct.all (XC_ll ..)) hl.1 rfl rfl (Nat.le_of_ble_eq_true rfl) dX4_sheet_48 ⟨Nat.le_of_ble_eq_true rfl, Nat.le_of_ble_eq_true rfl⟩ (st1 := [.int x154]) rfl (fun H locs hw => ?_)
            exact r_i cx hr hlocks hw (pr1 h) (congrArg (fun z0 => (XC g q z0)) (pr2 h)) dX4_sheet_51
        · replace h := ite_f c144 h
          refine lv_iload_n hx hb dX4_sheet_28 rfl (lv_at hl 3 rfl) ?_
          refine lv_bipush (v := 64) hx hb dX4_sheet_29 (by decide) ?_
          refine lv_icmp_eq (tgt := 41) hx hb dX4_sheet_31 (by decide) (fun c157 => ?_) (fun c157 => ?_)
          · replace h := ite_t c157 h
            refine lv_iload_n hx hb dX4_sheet_41 rfl (lv_at hl 4 rfl) ?_
            refine lv_if_ge (tgt := 52) hx hb dX4_sheet_42 (by decide) (fun c158 => ?_) (fun c158 => ?_)
            · replace h := ite_t c158 h
              refine lv_iload_n hx hb dX4_sheet_52 rfl (lv_at hl 4 rfl) ?_
              refine lv_bipush (v := 40) hx hb dX4_sheet_53 (by decide) ?_
              refine lv_icmp_le (tgt := 65) hx hb dX4_sheet_55 (by decide) (fun c159 => ?_) (fun c159 => ?_)
              · replace h := ite_t c159 h
                refine lv_aload hx hb dX4_sheet_65 (lv_at hl 0 rfl) ?_
                refine lv_iload_n hx hb dX4_sheet_67 rfl (lv_at hl 3 rfl) ?_
                refine lv_iload_n hx hb dX4_sheet_68 rfl (lv_at hl 4 rfl) ?_
                obtain ⟨x160, d161, g162, h⟩ := bd2_ex h
                refine c_V (As := [.int p2, .int p3]) (rest := []) (w' := (XC g q (x_set_sheets d (sPut (x_sheets d) 2 d161)))) cx hw (c_X0_begin l g (qs 49 q) N p2 p3 (sAt (x_sheets d) 2) x160 d161 g162) (cl_X4_224 cx.1.2.2.2.2 ⟨Nat.le_of_ble_eq_true rfl, Nat.le_of_ble_eq_true rfl⟩) (x_recv cx hw (ci := 0) rfl 49 rfl) (ct_X__49_50__S_0 g q d d161) hl.1 rfl rfl (Nat.le_of_ble_eq_true rfl) dX4_sheet_69 ⟨Nat.le_of_ble_eq_true rfl, Nat.le_of_ble_eq_true rfl⟩ (st1 := [.int x160]) rfl (fun H locs hw => ?_)
                obtain ⟨d163, ed163, h⟩ := lt_ex h
                have hw : Wd g (va_A ((XC g q d)) s.heap.size) ((XC g q d163)) s H locs := by rw [ed163]; exact hw
                exact r_i cx hr hlocks hw (pr1 h) (congrArg (fun z0 => (XC g q z0)) (pr2 h)) dX4_sheet_72
              · replace h := ite_f c159 h
                refine lv_aload_n hx hb dX4_sheet_58 rfl (lv_at hl 1 rfl) ?_
                refine lv_ldc hx hb cx.1.2.2.2.1 (cx.1.2.2.2.2 _ tw_1_202) dX4_sheet_59 ?_
                obtain ⟨x164, d165, g166, h⟩ := bd2_ex h
                refine c_V (As := [.int (-1000000001 : Int32)]) (rest := []) (w' := (XC g q d165)) cx hw (c_X4_tell l g q N (-1000000001 : Int32) d x164 d165 g166) (cl_X4_45 cx.1.2.2.2.2 ⟨Nat.le_of_ble_eq_true rfl, Nat.le_of_ble_eq_true rfl⟩) (x_recv cx hw (ci := 4) rfl 0 rfl) (Ct.all (XC_ll ..)) hl.1 rfl rfl (Nat.le_of_ble_eq_true rfl) dX4_sheet_61 ⟨Nat.le_of_ble_eq_true rfl, Nat.le_of_ble_eq_true rfl⟩ (st1 := [.int x164]) rfl (fun H locs hw => ?_)
                exact r_i cx hr hlocks hw (pr1 h) (congrArg (fun z0 => (XC g q z0)) (pr2 h)) dX4_sheet_64
            · replace h := ite_f c158 h
              refine lv_aload_n hx hb dX4_sheet_45 rfl (lv_at hl 1 rfl) ?_
              refine lv_ldc hx hb cx.1.2.2.2.1 (cx.1.2.2.2.2 _ tw_3_161) dX4_sheet_46 ?_
              obtain ⟨x167, d168, g169, h⟩ := bd2_ex h
              refine c_V (As := [.int (-1000000007 : Int32)]) (rest := []) (w' := (XC g q d168)) cx hw (c_X4_tell l g q N (-1000000007 : Int32) d x167 d168 g169) (cl_X4_45 cx.1.2.2.2.2 ⟨Nat.le_of_ble_eq_true rfl, Nat.le_of_ble_eq_true rfl⟩) (x_recv cx hw (ci := 4) rfl 0 rfl) (Ct.all (XC_ll ..)) hl.1 rfl rfl (Nat.le_of_ble_eq_true rfl) dX4_sheet_48 ⟨Nat.le_of_ble_eq_true rfl, Nat.le_of_ble_eq_true rfl⟩ (st1 := [.int x167]) rfl (fun H locs hw => ?_)
              exact r_i cx hr hlocks hw (pr1 h) (congrArg (fun z0 => (XC g q z0)) (pr2 h)) dX4_sheet_51
          · replace h := ite_f c157 h
            refine lv_aload_n hx hb dX4_sheet_34 rfl (lv_at hl 1 rfl) ?_
            refine lv_ldc hx hb cx.1.2.2.2.1 (cx.1.2.2.2.2 _ tw_1_202) dX4_sheet_35 ?_
            obtain ⟨x170, d171, g172, h⟩ := bd2_ex h
            refine c_V (As := [.int (-1000000001 : Int32)]) (rest := []) (w' := (XC g q d171)) cx hw (c_X4_tell l g q N (-1000000001 : Int32) d x170 d171 g172) (cl_X4_45 cx.1.2.2.2.2 ⟨Nat.le_of_ble_eq_true rfl, Nat.le_of_ble_eq_true rfl⟩) (x_recv cx hw (ci := 4) rfl 0 rfl) (Ct.all (XC_ll ..)) hl.1 rfl rfl (Nat.le_of_ble_eq_true rfl) dX4_sheet_37 ⟨Nat.le_of_ble_eq_true rfl, Nat.le_of_ble_eq_true rfl⟩ (st1 := [.int x170]) rfl (fun H locs hw => ?_)
            exact r_i cx hr hlocks hw (pr1 h) (congrArg (fun z0 => (XC g q z0)) (pr2 h)) dX4_sheet_40
  · replace h := sel_s h
    refine c_V (As := [.int p1]) (rest := []) (w' := (XC g q d)) cx hw (c_X4_sheetAt l g q N p1 d (some 3) g2) (cl_X4_219 cx.1.2.2.2.2 ⟨Nat.le_of_ble_eq_true rfl, Nat.le_of_ble_eq_true rfl⟩) (x_recv cx hw (ci := 4) rfl 0 rfl) (Ct.all (XC_ll ..)) hl.1 rfl rfl (Nat.le_of_ble_eq_true rfl) dX4_sheet_2 ⟨Nat.le_of_ble_eq_true rfl, Nat.le_of_ble_eq_true rfl⟩ (st1 := [.ref (qs 51 q 0)]) rfl (fun H locs hw => ?_)
    refine lv_astore (lv' := [(4, .ref (qs 51 q 0)), (0, .ref (q 0)), (1, .int p1), (2, .int p2), (3, .int p3)]) hx hb dX4_sheet_5 hl (by decide) rfl (fun ls hl => ?_)
    refine lv_aload hx hb dX4_sheet_7 (lv_at hl 0 rfl) ?_
    refine lv_ifnull hx hb dX4_sheet_9 ?_
    refine lv_iload_n hx hb dX4_sheet_12 rfl (lv_at hl 3 rfl) ?_
    refine lv_if_eq (tgt := 41) hx hb dX4_sheet_13 (by decide) (fun c173 => ?_) (fun c173 => ?_)
    · replace h := ite_t c173 h
      refine lv_iload_n hx hb dX4_sheet_41 rfl (lv_at hl 4 rfl) ?_
      refine lv_if_ge (tgt := 52) hx hb dX4_sheet_42 (by decide) (fun c174 => ?_) (fun c174 => ?_)
      · replace h := ite_t c174 h
        refine lv_iload_n hx hb dX4_sheet_52 rfl (lv_at hl 4 rfl) ?_
        refine lv_bipush (v := 40) hx hb dX4_sheet_53 (by decide) ?_
        refine lv_icmp_le (tgt := 65) hx hb dX4_sheet_55 (by decide) (fun c175 => ?_) (fun c175 => ?_)
        · replace h := ite_t c175 h
          refine lv_aload hx hb dX4_sheet_65 (lv_at hl 0 rfl) ?_
          refine lv_iload_n hx hb dX4_sheet_67 rfl (lv_at hl 3 rfl) ?_
          refine lv_iload_n hx hb dX4_sheet_68 rfl (lv_at hl 4 rfl) ?_
          obtain ⟨x176, d177, g178, h⟩ := bd2_ex h
          refine c_V (As := [.int p2, .int p3]) (rest := []) (w' := (XC g q (x_set_sheets d (sPut (x_sheets d) 3 d177)))) cx hw (c_X0_begin l g (qs 51 q) N p2 p3 (sAt (x_sheets d) 3) x176 d177 g178) (cl_X4_224 cx.1.2.2.2.2 ⟨Nat.le_of_ble_eq_true rfl, Nat.le_of_ble_eq_true rfl⟩) (x_recv cx hw (ci := 0) rfl 51 rfl) (ct_X__51_52__S_0 g q d d177) hl.1 rfl rfl (Nat.le_of_ble_eq_true rfl) dX4_sheet_69 ⟨Nat.le_of_ble_eq_true rfl, Nat.le_of_ble_eq_true rfl⟩ (st1 := [.int x176]) rfl (fun H locs hw => ?_)
          obtain ⟨d179, ed179, h⟩ := lt_ex h
          have hw : Wd g (va_A ((XC g q d)) s.heap.size) ((XC g q d179)) s H locs := by rw [ed179]; exact hw
          exact r_i cx hr hlocks hw (pr1 h) (congrArg (fun z0 => (XC g q z0)) (pr2 h)) dX4_sheet_72
        · replace h := ite_f c175 h
          refine lv_aload_n hx hb dX4_sheet_58 rfl (lv_at hl 1 rfl) ?_
          refine lv_ldc hx hb cx.1.2.2.2.1 (cx.1.2.2.2.2 _ tw_1_202) dX4_sheet_59 ?_
          obtain ⟨x180, d181, g182, h⟩ := bd2_ex h
          refine c_V (As := [.int (-1000000001 : Int32)]) (rest := []) (w' := (XC g q d181)) cx hw (c_X4_tell l g q N (-1000000001 : Int32) d x180 d181 g182) (cl_X4_45 cx.1.2.2.2.2 ⟨Nat.le_of_ble_eq_true rfl, Nat.le_of_ble_eq_true rfl⟩) (x_recv cx hw (ci := 4) rfl 0 rfl) (Ct.all (XC_ll ..)) hl.1 rfl rfl (Nat.le_of_ble_eq_true rfl) dX4_sheet_61 ⟨Nat.le_of_ble_eq_true rfl, Nat.le_of_ble_eq_true rfl⟩ (st1 := [.int x180]) rfl (fun H locs hw => ?_)
          exact r_i cx hr hlocks hw (pr1 h) (congrArg (fun z0 => (XC g q z0)) (pr2 h)) dX4_sheet_64
      · replace h := ite_f c174 h
        refine lv_aload_n hx hb dX4_sheet_45 rfl (lv_at hl 1 rfl) ?_
        refine lv_ldc hx hb cx.1.2.2.2.1 (cx.1.2.2.2.2 _ tw_3_161) dX4_sheet_46 ?_
        obtain ⟨x183, d184, g185, h⟩ := bd2_ex h
        refine c_V (As := [.int (-1000000007 : Int32)]) (rest := []) (w' := (XC g q d184)) cx hw (c_X4_tell l g q N (-1000000007 : Int32) d x183 d184 g185) (cl_X4_45 cx.1.2.2.2.2 ⟨Nat.le_of_ble_eq_true rfl, Nat.le_of_ble_eq_true rfl⟩) (x_recv cx hw (ci := 4) rfl 0 rfl) (Ct.all (XC_ll ..)) hl.1 rfl rfl (Nat.le_of_ble_eq_true rfl) dX4_sheet_48 ⟨Nat.le_of_ble_eq_true rfl, Nat.le_of_ble_eq_true rfl⟩ (st1 := [.int x183]) rfl (fun H locs hw => ?_)
        exact r_i cx hr hlocks hw (pr1 h) (congrArg (fun z0 => (XC g q z0)) (pr2 h)) dX4_sheet_51
    · replace h := ite_f c173 h
      refine lv_iload_n hx hb dX4_sheet_16 rfl (lv_at hl 3 rfl) ?_
      refine lv_bipush (v := 8) hx hb dX4_sheet_17 (by decide) ?_
      refine lv_icmp_eq (tgt := 41) hx hb dX4_sheet_19 (by decide) (fun c186 => ?_) (fun c186 => ?_)
      · replace h := ite_t c186 h
        refine lv_iload_n hx hb dX4_sheet_41 rfl (lv_at hl 4 rfl) ?_
        refine lv_if_ge (tgt := 52) hx hb dX4_sheet_42 (by decide) (fun c187 => ?_) (fun c187 => ?_)
        · replace h := ite_t c187 h
          refine lv_iload_n hx hb dX4_sheet_52 rfl (lv_at hl 4 rfl) ?_
          refine lv_bipush (v := 40) hx hb dX4_sheet_53 (by decide) ?_
          refine lv_icmp_le (tgt := 65) hx hb dX4_sheet_55 (by decide) (fun c188 => ?_) (fun c188 => ?_)
          · replace h := ite_t c188 h
            refine lv_aload hx hb dX4_sheet_65 (lv_at hl 0 rfl) ?_
            refine lv_iload_n hx hb dX4_sheet_67 rfl (lv_at hl 3 rfl) ?_
            refine lv_iload_n hx hb dX4_sheet_68 rfl (lv_at hl 4 rfl) ?_
            obtain ⟨x189, d190, g191, h⟩ := bd2_ex h
            refine c_V (As := [.int p2, .int p3]) (rest := []) (w' := (XC g q (x_set_sheets d (sPut (x_sheets d) 3 d190)))) cx hw (c_X0_begin l g (qs 51 q) N p2 p3 (sAt (x_sheets d) 3) x189 d190 g191) (cl_X4_224 cx.1.2.2.2.2 ⟨Nat.le_of_ble_eq_true rfl, Nat.le_of_ble_eq_true rfl⟩) (x_recv cx hw (ci := 0) rfl 51 rfl) (ct_X__51_52__S_0 g q d d190) hl.1 rfl rfl (Nat.le_of_ble_eq_true rfl) dX4_sheet_69 ⟨Nat.le_of_ble_eq_true rfl, Nat.le_of_ble_eq_true rfl⟩ (st1 := [.int x189]) rfl (fun H locs hw => ?_)
            obtain ⟨d192, ed192, h⟩ := lt_ex h
            have hw : Wd g (va_A ((XC g q d)) s.heap.size) ((XC g q d192)) s H locs := by rw [ed192]; exact hw
            exact r_i cx hr hlocks hw (pr1 h) (congrArg (fun z0 => (XC g q z0)) (pr2 h)) dX4_sheet_72
          · replace h := ite_f c188 h
            refine lv_aload_n hx hb dX4_sheet_58 rfl (lv_at hl 1 rfl) ?_
            refine lv_ldc hx hb cx.1.2.2.2.1 (cx.1.2.2.2.2 _ tw_1_202) dX4_sheet_59 ?_
            obtain ⟨x193, d194, g195, h⟩ := bd2_ex h
            refine c_V (As := [.int (-1000000001 : Int32)]) (rest := []) (w' := (XC g q d194)) cx hw (c_X4_tell l g q N (-1000000001 : Int32) d x193 d194 g195) (cl_X4_45 cx.1.2.2.2.2 ⟨Nat.le_of_ble_eq_true rfl, Nat.le_of_ble_eq_true rfl⟩) (x_recv cx hw (ci := 4) rfl 0 rfl) (Ct.all (XC_ll ..)) hl.1 rfl rfl (Nat.le_of_ble_eq_true rfl) dX4_sheet_61 ⟨Nat.le_of_ble_eq_true rfl, Nat.le_of_ble_eq_true rfl⟩ (st1 := [.int x193]) rfl (fun H locs hw => ?_)
            exact r_i cx hr hlocks hw (pr1 h) (congrArg (fun z0 => (XC g q z0)) (pr2 h)) dX4_sheet_64
        · replace h := ite_f c187 h
          refine lv_aload_n hx hb dX4_sheet_45 rfl (lv_at hl 1 rfl) ?_
          refine lv_ldc hx hb cx.1.2.2.2.1 (cx.1.2.2.2.2 _ tw_3_161) dX4_sheet_46 ?_
          obtain ⟨x196, d197, g198, h⟩ := bd2_ex h
          refine c_V (As := [.int (-1000000007 : Int32)]) (rest := []) (w' := (XC g q d197)) cx hw (c_X4_tell l g q N (-1000000007 : Int32) d x196 d197 g198) (cl_X4_45 cx.1.2.2.2.2 ⟨Nat.le_of_ble_eq_true rfl, Nat.le_of_ble_eq_true rfl⟩) (x_recv cx hw (ci := 4) rfl 0 rfl) (Ct.all (XC_ll ..)) hl.1 rfl rfl (Nat.le_of_ble_eq_true rfl) dX4_sheet_48 ⟨Nat.le_of_ble_eq_true rfl, Nat.le_of_ble_eq_true rfl⟩ (st1 := [.int x196]) rfl (fun H locs hw => ?_)
          exact r_i cx hr hlocks hw (pr1 h) (congrArg (fun z0 => (XC g q z0)) (pr2 h)) dX4_sheet_51
      · replace h := ite_f c186 h
        refine lv_iload_n hx hb dX4_sheet_22 rfl (lv_at hl 3 rfl) ?_
        refine lv_bipush (v := 16) hx hb dX4_sheet_23 (by decide) ?_
        refine lv_icmp_eq (tgt := 41) hx hb dX4_sheet_25 (by decide) (fun c199 => ?_) (fun c199 => ?_)
        · replace h := ite_t c199 h
          refine lv_iload_n hx hb dX4_sheet_41 rfl (lv_at hl 4 rfl) ?_
          refine lv_if_ge (tgt := 52) hx hb dX4_sheet_42 (by decide) (fun c200 => ?_) (fun c200 => ?_)
          · replace h := ite_t c200 h
            refine lv_iload_n hx hb dX4_sheet_52 rfl (lv_at hl 4 rfl) ?_
            refine lv_bipush (v := 40) hx hb dX4_sheet_53 (by decide) ?_
            refine lv_icmp_le (tgt := 65) hx hb dX4_sheet_55 (by decide) (fun c201 => ?_) (fun c201 => ?_)
            · replace h := ite_t c201 h
              refine lv_aload hx hb dX4_sheet_65 (lv_at hl 0 rfl) ?_
              refine lv_iload_n hx hb dX4_sheet_67 rfl (lv_at hl 3 rfl) ?_
              refine lv_iload_n hx hb dX4_sheet_68 rfl (lv_at hl 4 rfl) ?_
              obtain ⟨x202, d203, g204, h⟩ := bd2_ex h
              refine c_V (As := [.int p2, .int p3]) (rest := []) (w' := (XC g q (x_set_sheets d (sPut (x_sheets d) 3 d203)))) cx hw (c_X0_begin l g (qs 51 q) N p2 p3 (sAt (x_sheets d) 3) x202 d203 g204) (cl_X4_224 cx.1.2.2.2.2 ⟨Nat.le_of_ble_eq_true rfl, Nat.le_of_ble_eq_true rfl⟩) (x_recv cx hw (ci := 0) rfl 51 rfl) (ct_X__51_52__S_0 g q d d203) hl.1 rfl rfl (Nat.le_of_ble_eq_true rfl) dX4_sheet_69 ⟨Nat.le_of_ble_eq_true rfl, Nat.le_of_ble_eq_true rfl⟩ (st1 := [.int x202]) rfl (fun H locs hw => ?_)
              obtain ⟨d205, ed205, h⟩ := lt_ex h
              have hw : Wd g (va_A ((XC g q d)) s.heap.size) ((XC g q d205)) s H locs := by rw [ed205]; exact hw
              exact r_i cx hr hlocks hw (pr1 h) (congrArg (fun z0 => (XC g q z0)) (pr2 h)) dX4_sheet_72
            · replace h := ite_f c201 h
              refine lv_aload_n hx hb dX4_sheet_58 rfl (lv_at hl 1 rfl) ?_
              refine lv_ldc hx hb cx.1.2.2.2.1 (cx.1.2.2.2.2 _ tw_1_202) dX4_sheet_59 ?_
              obtain ⟨x206, d207, g208, h⟩ := bd2_ex h
              refine c_V (As := [.int (-1000000001 : Int32)]) (rest := []) (w' := (XC g q d207)) cx hw (c_X4_tell l g q N (-1000000001 : Int32) d x206 d207 g208) (cl_X4_45 cx.1.2.2.2.2 ⟨Nat.le_of_ble_eq_true rfl, Nat.le_of_ble_eq_true rfl⟩) (x_recv cx hw (ci := 4) rfl 0 rfl) (Ct.all (XC_ll ..)) hl.1 rfl rfl (Nat.le_of_ble_eq_true rfl) dX4_sheet_61 ⟨Nat.le_of_ble_eq_true rfl, Nat.le_of_ble_eq_true rfl⟩ (st1 := [.int x206]) rfl (fun H locs hw => ?_)
              exact r_i cx hr hlocks hw (pr1 h) (congrArg (fun z0 => (XC g q z0)) (pr2 h)) dX4_sheet_64
          · replace h := ite_f c200 h
            refine lv_aload_n hx hb dX4_sheet_45 rfl (lv_at hl 1 rfl) ?_
            refine lv_ldc hx hb cx.1.2.2.2.1 (cx.1.2.2.2.2 _ tw_3_161) dX4_sheet_46 ?_
            obtain ⟨x209, d210, g211, h⟩ := bd2_ex h
            refine c_V (As := [.int (-1000000007 : Int32)]) (rest := []) (w' := (XC g q d210)) cx hw (c_X4_tell l g q N (-1000000007 : Int32) d x209 d210 g211) (cl_X4_45 cx.1.2.2.2.2 ⟨Nat.le_of_ble_eq_true rfl, Nat.le_of_ble_eq_true rfl⟩) (x_recv cx hw (ci := 4) rfl 0 rfl) (Ct.all (XC_ll ..)) hl.1 rfl rfl (Nat.le_of_ble_eq_true rfl) dX4_sheet_48 ⟨Nat.le_of_ble_eq_true rfl, Nat.le_of_ble_eq_true rfl⟩ (st1 := [.int x209]) rfl (fun H locs hw => ?_)
            exact r_i cx hr hlocks hw (pr1 h) (congrArg (fun z0 => (XC g q z0)) (pr2 h)) dX4_sheet_51
        · replace h := ite_f c199 h
          refine lv_iload_n hx hb dX4_sheet_28 rfl (lv_at hl 3 rfl) ?_
          refine lv_bipush (v := 64) hx hb dX4_sheet_29 (by decide) ?_
          refine lv_icmp_eq (tgt := 41) hx hb dX4_sheet_31 (by decide) (fun c212 => ?_) (fun c212 => ?_)
          · replace h := ite_t c212 h
            refine lv_iload_n hx hb dX4_sheet_41 rfl (lv_at hl 4 rfl) ?_
            refine lv_if_ge (tgt := 52) hx hb dX4_sheet_42 (by decide) (fun c213 => ?_) (fun c213 => ?_)
            · replace h := ite_t c213 h
              refine lv_iload_n hx hb dX4_sheet_52 rfl (lv_at hl 4 rfl) ?_
              refine lv_bipush (v := 40) hx hb dX4_sheet_53 (by decide) ?_
              refine lv_icmp_le (tgt := 65) hx hb dX4_sheet_55 (by decide) (fun c214 => ?_) (fun c214 => ?_)
              · replace h := ite_t c214 h
                refine lv_aload hx hb dX4_sheet_65 (lv_at hl 0 rfl) ?_
                refine lv_iload_n hx hb dX4_sheet_67 rfl (lv_at hl 3 rfl) ?_
                refine lv_iload_n hx hb dX4_sheet_68 rfl (lv_at hl 4 rfl) ?_
                obtain ⟨x215, d216, g217, h⟩ := bd2_ex h
                refine c_V (As := [.int p2, .int p3]) (rest := []) (w' := (XC g q (x_set_sheets d (sPut (x_sheets d) 3 d216)))) cx hw (c_X0_begin l g (qs 51 q) N p2 p3 (sAt (x_sheets d) 3) x215 d216 g217) (cl_X4_224 cx.1.2.2.2.2 ⟨Nat.le_of_ble_eq_true rfl, Nat.le_of_ble_eq_true rfl⟩) (x_recv cx hw (ci := 0) rfl 51 rfl) (ct_X__51_52__S_0 g q d d216) hl.1 rfl rfl (Nat.le_of_ble_eq_true rfl) dX4_sheet_69 ⟨Nat.le_of_ble_eq_true rfl, Nat.le_of_ble_eq_true rfl⟩ (st1 := [.int x215]) rfl (fun H locs hw => ?_)
                obtain ⟨d218, ed218, h⟩ := lt_ex h
                have hw : Wd g (va_A ((XC g q d)) s.heap.size) ((XC g q d218)) s H locs := by rw [ed218]; exact hw
                exact r_i cx hr hlocks hw (pr1 h) (congrArg (fun z0 => (XC g q z0)) (pr2 h)) dX4_sheet_72
              · replace h := ite_f c214 h
                refine lv_aload_n hx hb dX4_sheet_58 rfl (lv_at hl 1 rfl) ?_
                refine lv_ldc hx hb cx.1.2.2.2.1 (cx.1.2.2.2.2 _ tw_1_202) dX4_sheet_59 ?_
                obtain ⟨x219, d220, g221, h⟩ := bd2_ex h
                refine c_V (As := [.int (-1000000001 : Int32)]) (rest := []) (w' := (XC g q d220)) cx hw (c_X4_tell l g q N (-1000000001 : Int32) d x219 d220 g221) (cl_X4_45 cx.1.2.2.2.2 ⟨Nat.le_of_ble_eq_true rfl, Nat.le_of_ble_eq_true rfl⟩) (x_recv cx hw (ci := 4) rfl 0 rfl) (Ct.all (XC_ll ..)) hl.1 rfl rfl (Nat.le_of_ble_eq_true rfl) dX4_sheet_61 ⟨Nat.le_of_ble_eq_true rfl, Nat.le_of_ble_eq_true rfl⟩ (st1 := [.int x219]) rfl (fun H locs hw => ?_)
                exact r_i cx hr hlocks hw (pr1 h) (congrArg (fun z0 => (XC g q z0)) (pr2 h)) dX4_sheet_64
            · replace h := ite_f c213 h
              refine lv_aload_n hx hb dX4_sheet_45 rfl (lv_at hl 1 rfl) ?_
              refine lv_ldc hx hb cx.1.2.2.2.1 (cx.1.2.2.2.2 _ tw_3_161) dX4_sheet_46 ?_
              obtain ⟨x222, d223, g224, h⟩ := bd2_ex h
              refine c_V (As := [.int (-1000000007 : Int32)]) (rest := []) (w' := (XC g q d223)) cx hw (c_X4_tell l g q N (-1000000007 : Int32) d x222 d223 g224) (cl_X4_45 cx.1.2.2.2.2 ⟨Nat.le_of_ble_eq_true rfl, Nat.le_of_ble_eq_true rfl⟩) (x_recv cx hw (ci := 4) rfl 0 rfl) (Ct.all (XC_ll ..)) hl.1 rfl rfl (Nat.le_of_ble_eq_true rfl) dX4_sheet_48 ⟨Nat.le_of_ble_eq_true rfl, Nat.le_of_ble_eq_true rfl⟩ (st1 := [.int x222]) rfl (fun H locs hw => ?_)
              exact r_i cx hr hlocks hw (pr1 h) (congrArg (fun z0 => (XC g q z0)) (pr2 h)) dX4_sheet_51
          · replace h := ite_f c212 h
            refine lv_aload_n hx hb dX4_sheet_34 rfl (lv_at hl 1 rfl) ?_
            refine lv_ldc hx hb cx.1.2.2.2.1 (cx.1.2.2.2.2 _ tw_1_202) dX4_sheet_35 ?_
            obtain ⟨x225, d226, g227, h⟩ := bd2_ex h
            refine c_V (As := [.int (-1000000001 : Int32)]) (rest := []) (w' := (XC g q d226)) cx hw (c_X4_tell l g q N (-1000000001 : Int32) d x225 d226 g227) (cl_X4_45 cx.1.2.2.2.2 ⟨Nat.le_of_ble_eq_true rfl, Nat.le_of_ble_eq_true rfl⟩) (x_recv cx hw (ci := 4) rfl 0 rfl) (Ct.all (XC_ll ..)) hl.1 rfl rfl (Nat.le_of_ble_eq_true rfl) dX4_sheet_37 ⟨Nat.le_of_ble_eq_true rfl, Nat.le_of_ble_eq_true rfl⟩ (st1 := [.int x225]) rfl (fun H locs hw => ?_)
            exact r_i cx hr hlocks hw (pr1 h) (congrArg (fun z0 => (XC g q z0)) (pr2 h)) dX4_sheet_40
set_option maxHeartbeats 4000000 in
set_option maxRecDepth 100000 in
theorem c_X4_write (l : Launch) (g : gE) (q : Nat → Nat) (N : Nat) (p1 : Int32) (p2 : Int32) (p3 : Int64) (d : XD) (r : Int64) (d' : XD) (h : f_X4_write N  p1 p2 p3 d = some (r, d')) : MO l yX4_write (Cond.code yX4_write cX4_write 6 (some .long) :: TB) rm_X4_write [.ref (q 0), .int p1, .int p2, .long p3] g ((XC g q d)) ((XC g q d')) (some (.long r)) 0 0 := by
  refine MO.of (cc := cX4_write) (maxL := 6) (ret := (some .long)) (by decide) ?_
  intro p e s m below meth c cx hw hr hlocks _
  have hx := cx.1.1
  have hb := cx.1.2.1
  refine en_go (lv := [(0, .ref (q 0)), (1, .int p1), (2, .int p2), (3, .long p3)]) (Nat.le_of_ble_eq_true rfl) rfl (fun ls hl => ?_)
  unfold f_X4_write at h
  refine lv_aload_n hx hb dX4_write_0 rfl (lv_at hl 0 rfl) ?_
  refine lv_iload_n hx hb dX4_write_1 rfl (lv_at hl 1 rfl) ?_
  obtain ⟨r1, g2, h⟩ := bd_ex h
  rcases sh_cases g2 with e4 | e4 | e4 | e4 | e4 <;> subst e4
  · replace h := sel_n h
    refine c_V (As := [.int p1]) (rest := []) (w' := (XC g q d)) cx hw (c_X4_sheetAt l g q N p1 d none g2) (cl_X4_219 cx.1.2.2.2.2 ⟨Nat.le_of_ble_eq_true rfl, Nat.le_of_ble_eq_true rfl⟩) (x_recv cx hw (ci := 4) rfl 0 rfl) (Ct.all (XC_ll ..)) hl.1 rfl rfl (Nat.le_of_ble_eq_true rfl) dX4_write_2 ⟨Nat.le_of_ble_eq_true rfl, Nat.le_of_ble_eq_true rfl⟩ (st1 := [.null]) rfl (fun H locs hw => ?_)
    refine lv_astoreN (lv' := [(5, .null), (0, .ref (q 0)), (1, .int p1), (2, .int p2), (3, .long p3)]) hx hb dX4_write_5 hl (by decide) rfl (fun ls hl => ?_)
    refine lv_aloadN hx hb dX4_write_7 (lv_at hl 0 rfl) ?_
    refine lv_ifnonnullN hx hb dX4_write_9 ?_
    refine lv_aload_n hx hb dX4_write_12 rfl (lv_at hl 1 rfl) ?_
    refine lv_ldc hx hb cx.1.2.2.2.1 (cx.1.2.2.2.2 _ tw_1_202) dX4_write_13 ?_
    obtain ⟨x5, d6, g7, h⟩ := bd2_ex h
    refine c_V (As := [.int (-1000000001 : Int32)]) (rest := []) (w' := (XC g q d6)) cx hw (c_X4_tell l g q N (-1000000001 : Int32) d x5 d6 g7) (cl_X4_45 cx.1.2.2.2.2 ⟨Nat.le_of_ble_eq_true rfl, Nat.le_of_ble_eq_true rfl⟩) (x_recv cx hw (ci := 4) rfl 0 rfl) (Ct.all (XC_ll ..)) hl.1 rfl rfl (Nat.le_of_ble_eq_true rfl) dX4_write_15 ⟨Nat.le_of_ble_eq_true rfl, Nat.le_of_ble_eq_true rfl⟩ (st1 := [.int x5]) rfl (fun H locs hw => ?_)
    refine lv_i2l hx hb dX4_write_18 rfl ?_
    exact r_l cx hr hlocks hw (pr1 h) (congrArg (fun z0 => (XC g q z0)) (pr2 h)) dX4_write_19
  · replace h := sel_s h
    refine c_V (As := [.int p1]) (rest := []) (w' := (XC g q d)) cx hw (c_X4_sheetAt l g q N p1 d (some 0) g2) (cl_X4_219 cx.1.2.2.2.2 ⟨Nat.le_of_ble_eq_true rfl, Nat.le_of_ble_eq_true rfl⟩) (x_recv cx hw (ci := 4) rfl 0 rfl) (Ct.all (XC_ll ..)) hl.1 rfl rfl (Nat.le_of_ble_eq_true rfl) dX4_write_2 ⟨Nat.le_of_ble_eq_true rfl, Nat.le_of_ble_eq_true rfl⟩ (st1 := [.ref (qs 45 q 0)]) rfl (fun H locs hw => ?_)
    refine lv_astore (lv' := [(5, .ref (qs 45 q 0)), (0, .ref (q 0)), (1, .int p1), (2, .int p2), (3, .long p3)]) hx hb dX4_write_5 hl (by decide) rfl (fun ls hl => ?_)
    refine lv_aload hx hb dX4_write_7 (lv_at hl 0 rfl) ?_
    refine lv_ifnonnull (tgt := 20) hx hb dX4_write_9 (by decide) ?_
    refine lv_aload hx hb dX4_write_20 (lv_at hl 0 rfl) ?_
    obtain ⟨x8, g9, h⟩ := bd_ex h
    refine c_V (As := []) (rest := []) (w' := (XC g q d)) cx hw (c_X0_isMissing l g (qs 45 q) N  (sAt (x_sheets d) 0) x8 g9) (cl_X4_227 cx.1.2.2.2.2 ⟨Nat.le_of_ble_eq_true rfl, Nat.le_of_ble_eq_true rfl⟩) (x_recv cx hw (ci := 0) rfl 45 rfl) (ct_X__45_46__S g q d ) hl.1 rfl rfl (Nat.le_of_ble_eq_true rfl) dX4_write_22 ⟨Nat.le_of_ble_eq_true rfl, Nat.le_of_ble_eq_true rfl⟩ (st1 := [.int x8]) rfl (fun H locs hw => ?_)
    refine lv_if_eq (tgt := 36) hx hb dX4_write_25 (by decide) (fun c10 => ?_) (fun c10 => ?_)
    · replace h := ite_t c10 h
      refine lv_iload_n hx hb dX4_write_36 rfl (lv_at hl 3 rfl) ?_
      refine lv_iconst (v := 0) hx hb dX4_write_37 (by decide) ?_
      refine lv_aload hx hb dX4_write_38 (lv_at hl 0 rfl) ?_
      refine gf_X4_232 cx hw 45 rfl rfl dX4_write_40 ?_
      refine lv_iconst (v := 1) hx hb dX4_write_43 (by decide) ?_
      refine lv_isub hx hb dX4_write_44 ?_
      obtain ⟨x11, g12, h⟩ := bd_ex h
      refine c_S (As := [.int p2, .int (0 : Int32), .int ((s_size (sAt (x_sheets d) 0)) - (1 : Int32))]) (rest := []) (w' := (XC g q d)) cx hw (c_X4_isWithin l g  N p2 (0 : Int32) ((s_size (sAt (x_sheets d) 0)) - (1 : Int32))  x11 g12) (cl_X4_40 cx.1.2.2.2.2 ⟨Nat.le_of_ble_eq_true rfl, Nat.le_of_ble_eq_true rfl⟩) Ct.nil hl.1 rfl rfl (Nat.le_of_ble_eq_true rfl) dX4_write_45 ⟨Nat.le_of_ble_eq_true rfl, Nat.le_of_ble_eq_true rfl⟩ (st1 := [.int x11]) rfl (fun H locs hw => ?_)
      refine lv_if_ne (tgt := 59) hx hb dX4_write_48 (by decide) (fun c13 => ?_) (fun c13 => ?_)
      · replace h := ite_f c13 h
        refine lv_aload hx hb dX4_write_59 (lv_at hl 0 rfl) ?_
        refine lv_iload_n hx hb dX4_write_61 rfl (lv_at hl 3 rfl) ?_
        refine lv_lload_n hx hb dX4_write_62 rfl (lv_at hl 4 rfl) ?_
        obtain ⟨x14, d15, g16, h⟩ := bd2_ex h
        refine c_V (As := [.int p2, .long p3]) (rest := []) (w' := (XC g q (x_set_sheets d (sPut (x_sheets d) 0 d15)))) cx hw (c_X0_put l g (qs 45 q) N p2 p3 (sAt (x_sheets d) 0) x14 d15 g16) (cl_X4_235 cx.1.2.2.2.2 ⟨Nat.le_of_ble_eq_true rfl, Nat.le_of_ble_eq_true rfl⟩) (x_recv cx hw (ci := 0) rfl 45 rfl) (ct_X__45_46__S_0 g q d d15) hl.1 rfl rfl (Nat.le_of_ble_eq_true rfl) dX4_write_63 ⟨Nat.le_of_ble_eq_true rfl, Nat.le_of_ble_eq_true rfl⟩ (st1 := [.long x14]) rfl (fun H locs hw => ?_)
        obtain ⟨d17, ed17, h⟩ := lt_ex h
        have hw : Wd g (va_A ((XC g q d)) s.heap.size) ((XC g q d17)) s H locs := by rw [ed17]; exact hw
        exact r_l cx hr hlocks hw (pr1 h) (congrArg (fun z0 => (XC g q z0)) (pr2 h)) dX4_write_66
      · replace h := ite_t c13 h
        refine lv_aload_n hx hb dX4_write_51 rfl (lv_at hl 1 rfl) ?_
        refine lv_ldc hx hb cx.1.2.2.2.1 (cx.1.2.2.2.2 _ tw_1_202) dX4_write_52 ?_
        obtain ⟨x18, d19, g20, h⟩ := bd2_ex h
        refine c_V (As := [.int (-1000000001 : Int32)]) (rest := []) (w' := (XC g q d19)) cx hw (c_X4_tell l g q N (-1000000001 : Int32) d x18 d19 g20) (cl_X4_45 cx.1.2.2.2.2 ⟨Nat.le_of_ble_eq_true rfl, Nat.le_of_ble_eq_true rfl⟩) (x_recv cx hw (ci := 4) rfl 0 rfl) (Ct.all (XC_ll ..)) hl.1 rfl rfl (Nat.le_of_ble_eq_true rfl) dX4_write_54 ⟨Nat.le_of_ble_eq_true rfl, Nat.le_of_ble_eq_true rfl⟩ (st1 := [.int x18]) rfl (fun H locs hw => ?_)
        refine lv_i2l hx hb dX4_write_57 rfl ?_
        exact r_l cx hr hlocks hw (pr1 h) (congrArg (fun z0 => (XC g q z0)) (pr2 h)) dX4_write_58
    · replace h := ite_f c10 h
      refine lv_aload_n hx hb dX4_write_28 rfl (lv_at hl 1 rfl) ?_
      refine lv_ldc hx hb cx.1.2.2.2.1 (cx.1.2.2.2.2 _ tw_3_177) dX4_write_29 ?_
      obtain ⟨x21, d22, g23, h⟩ := bd2_ex h
      refine c_V (As := [.int (-1000000006 : Int32)]) (rest := []) (w' := (XC g q d22)) cx hw (c_X4_tell l g q N (-1000000006 : Int32) d x21 d22 g23) (cl_X4_45 cx.1.2.2.2.2 ⟨Nat.le_of_ble_eq_true rfl, Nat.le_of_ble_eq_true rfl⟩) (x_recv cx hw (ci := 4) rfl 0 rfl) (Ct.all (XC_ll ..)) hl.1 rfl rfl (Nat.le_of_ble_eq_true rfl) dX4_write_31 ⟨Nat.le_of_ble_eq_true rfl, Nat.le_of_ble_eq_true rfl⟩ (st1 := [.int x21]) rfl (fun H locs hw => ?_)
      refine lv_i2l hx hb dX4_write_34 rfl ?_
      exact r_l cx hr hlocks hw (pr1 h) (congrArg (fun z0 => (XC g q z0)) (pr2 h)) dX4_write_35
  · replace h := sel_s h
    refine c_V (As := [.int p1]) (rest := []) (w' := (XC g q d)) cx hw (c_X4_sheetAt l g q N p1 d (some 1) g2) (cl_X4_219 cx.1.2.2.2.2 ⟨Nat.le_of_ble_eq_true rfl, Nat.le_of_ble_eq_true rfl⟩) (x_recv cx hw (ci := 4) rfl 0 rfl) (Ct.all (XC_ll ..)) hl.1 rfl rfl (Nat.le_of_ble_eq_true rfl) dX4_write_2 ⟨Nat.le_of_ble_eq_true rfl, Nat.le_of_ble_eq_true rfl⟩ (st1 := [.ref (qs 47 q 0)]) rfl (fun H locs hw => ?_)
    refine lv_astore (lv' := [(5, .ref (qs 47 q 0)), (0, .ref (q 0)), (1, .int p1), (2, .int p2), (3, .long p3)]) hx hb dX4_write_5 hl (by decide) rfl (fun ls hl => ?_)
    refine lv_aload hx hb dX4_write_7 (lv_at hl 0 rfl) ?_
    refine lv_ifnonnull (tgt := 20) hx hb dX4_write_9 (by decide) ?_
    refine lv_aload hx hb dX4_write_20 (lv_at hl 0 rfl) ?_
    obtain ⟨x24, g25, h⟩ := bd_ex h
    refine c_V (As := []) (rest := []) (w' := (XC g q d)) cx hw (c_X0_isMissing l g (qs 47 q) N  (sAt (x_sheets d) 1) x24 g25) (cl_X4_227 cx.1.2.2.2.2 ⟨Nat.le_of_ble_eq_true rfl, Nat.le_of_ble_eq_true rfl⟩) (x_recv cx hw (ci := 0) rfl 47 rfl) (ct_X__47_48__S g q d ) hl.1 rfl rfl (Nat.le_of_ble_eq_true rfl) dX4_write_22 ⟨Nat.le_of_ble_eq_true rfl, Nat.le_of_ble_eq_true rfl⟩ (st1 := [.int x24]) rfl (fun H locs hw => ?_)
    refine lv_if_eq (tgt := 36) hx hb dX4_write_25 (by decide) (fun c26 => ?_) (fun c26 => ?_)
    · replace h := ite_t c26 h
      refine lv_iload_n hx hb dX4_write_36 rfl (lv_at hl 3 rfl) ?_
      refine lv_iconst (v := 0) hx hb dX4_write_37 (by decide) ?_
      refine lv_aload hx hb dX4_write_38 (lv_at hl 0 rfl) ?_
      refine gf_X4_232 cx hw 47 rfl rfl dX4_write_40 ?_
      refine lv_iconst (v := 1) hx hb dX4_write_43 (by decide) ?_
      refine lv_isub hx hb dX4_write_44 ?_
      obtain ⟨x27, g28, h⟩ := bd_ex h
      refine c_S (As := [.int p2, .int (0 : Int32), .int ((s_size (sAt (x_sheets d) 1)) - (1 : Int32))]) (rest := []) (w' := (XC g q d)) cx hw (c_X4_isWithin l g  N p2 (0 : Int32) ((s_size (sAt (x_sheets d) 1)) - (1 : Int32))  x27 g28) (cl_X4_40 cx.1.2.2.2.2 ⟨Nat.le_of_ble_eq_true rfl, Nat.le_of_ble_eq_true rfl⟩) Ct.nil hl.1 rfl rfl (Nat.le_of_ble_eq_true rfl) dX4_write_45 ⟨Nat.le_of_ble_eq_true rfl, Nat.le_of_ble_eq_true rfl⟩ (st1 := [.int x27]) rfl (fun H locs hw => ?_)
      refine lv_if_ne (tgt := 59) hx hb dX4_write_48 (by decide) (fun c29 => ?_) (fun c29 => ?_)
      · replace h := ite_f c29 h
        refine lv_aload hx hb dX4_write_59 (lv_at hl 0 rfl) ?_
        refine lv_iload_n hx hb dX4_write_61 rfl (lv_at hl 3 rfl) ?_
        refine lv_lload_n hx hb dX4_write_62 rfl (lv_at hl 4 rfl) ?_
        obtain ⟨x30, d31, g32, h⟩ := bd2_ex h
        refine c_V (As := [.int p2, .long p3]) (rest := []) (w' := (XC g q (x_set_sheets d (sPut (x_sheets d) 1 d31)))) cx hw (c_X0_put l g (qs 47 q) N p2 p3 (sAt (x_sheets d) 1) x30 d31 g32) (cl_X4_235 cx.1.2.2.2.2 ⟨Nat.le_of_ble_eq_true rfl, Nat.le_of_ble_eq_true rfl⟩) (x_recv cx hw (ci := 0) rfl 47 rfl) (ct_X__47_48__S_0 g q d d31) hl.1 rfl rfl (Nat.le_of_ble_eq_true rfl) dX4_write_63 ⟨Nat.le_of_ble_eq_true rfl, Nat.le_of_ble_eq_true rfl⟩ (st1 := [.long x30]) rfl (fun H locs hw => ?_)
        obtain ⟨d33, ed33, h⟩ := lt_ex h
        have hw : Wd g (va_A ((XC g q d)) s.heap.size) ((XC g q d33)) s H locs := by rw [ed33]; exact hw
        exact r_l cx hr hlocks hw (pr1 h) (congrArg (fun z0 => (XC g q z0)) (pr2 h)) dX4_write_66
      · replace h := ite_t c29 h
        refine lv_aload_n hx hb dX4_write_51 rfl (lv_at hl 1 rfl) ?_
        refine lv_ldc hx hb cx.1.2.2.2.1 (cx.1.2.2.2.2 _ tw_1_202) dX4_write_52 ?_
        obtain ⟨x34, d35, g36, h⟩ := bd2_ex h
        refine c_V (As := [.int (-1000000001 : Int32)]) (rest := []) (w' := (XC g q d35)) cx hw (c_X4_tell l g q N (-1000000001 : Int32) d x34 d35 g36) (cl_X4_45 cx.1.2.2.2.2 ⟨Nat.le_of_ble_eq_true rfl, Nat.le_of_ble_eq_true rfl⟩) (x_recv cx hw (ci := 4) rfl 0 rfl) (Ct.all (XC_ll ..)) hl.1 rfl rfl (Nat.le_of_ble_eq_true rfl) dX4_write_54 ⟨Nat.le_of_ble_eq_true rfl, Nat.le_of_ble_eq_true rfl⟩ (st1 := [.int x34]) rfl (fun H locs hw => ?_)
        refine lv_i2l hx hb dX4_write_57 rfl ?_
        exact r_l cx hr hlocks hw (pr1 h) (congrArg (fun z0 => (XC g q z0)) (pr2 h)) dX4_write_58
    · replace h := ite_f c26 h
      refine lv_aload_n hx hb dX4_write_28 rfl (lv_at hl 1 rfl) ?_
      refine lv_ldc hx hb cx.1.2.2.2.1 (cx.1.2.2.2.2 _ tw_3_177) dX4_write_29 ?_
      obtain ⟨x37, d38, g39, h⟩ := bd2_ex h
      refine c_V (As := [.int (-1000000006 : Int32)]) (rest := []) (w' := (XC g q d38)) cx hw (c_X4_tell l g q N (-1000000006 : Int32) d x37 d38 g39) (cl_X4_45 cx.1.2.2.2.2 ⟨Nat.le_of_ble_eq_true rfl, Nat.le_of_ble_eq_true rfl⟩) (x_recv cx hw (ci := 4) rfl 0 rfl) (Ct.all (XC_ll ..)) hl.1 rfl rfl (Nat.le_of_ble_eq_true rfl) dX4_write_31 ⟨Nat.le_of_ble_eq_true rfl, Nat.le_of_ble_eq_true rfl⟩ (st1 := [.int x37]) rfl (fun H locs hw => ?_)
      refine lv_i2l hx hb dX4_write_34 rfl ?_
      exact r_l cx hr hlocks hw (pr1 h) (congrArg (fun z0 => (XC g q z0)) (pr2 h)) dX4_write_35
  · replace h := sel_s h
    refine c_V (As := [.int p1]) (rest := []) (w' := (XC g q d)) cx hw (c_X4_sheetAt l g q N p1 d (some 2) g2) (cl_X4_219 cx.1.2.2.2.2 ⟨Nat.le_of_ble_eq_true rfl, Nat.le_of_ble_eq_true rfl⟩) (x_recv cx hw (ci := 4) rfl 0 rfl) (Ct.all (XC_ll ..)) hl.1 rfl rfl (Nat.le_of_ble_eq_true rfl) dX4_write_2 ⟨Nat.le_of_ble_eq_true rfl, Nat.le_of_ble_eq_true rfl⟩ (st1 := [.ref (qs 49 q 0)]) rfl (fun H locs hw => ?_)
    refine lv_astore (lv' := [(5, .ref (qs 49 q 0)), (0, .ref (q 0)), (1, .int p1), (2, .int p2), (3, .long p3)]) hx hb dX4_write_5 hl (by decide) rfl (fun ls hl => ?_)
    refine lv_aload hx hb dX4_write_7 (lv_at hl 0 rfl) ?_
    refine lv_ifnonnull (tgt := 20) hx hb dX4_write_9 (by decide) ?_
    refine lv_aload hx hb dX4_write_20 (lv_at hl 0 rfl) ?_
    obtain ⟨x40, g41, h⟩ := bd_ex h
    refine c_V (As := []) (rest := []) (w' := (XC g q d)) cx hw (c_X0_isMissing l g (qs 49 q) N  (sAt (x_sheets d) 2) x40 g41) (cl_X4_227 cx.1.2.2.2.2 ⟨Nat.le_of_ble_eq_true rfl, Nat.le_of_ble_eq_true rfl⟩) (x_recv cx hw (ci := 0) rfl 49 rfl) (ct_X__49_50__S g q d ) hl.1 rfl rfl (Nat.le_of_ble_eq_true rfl) dX4_write_22 ⟨Nat.le_of_ble_eq_true rfl, Nat.le_of_ble_eq_true rfl⟩ (st1 := [.int x40]) rfl (fun H locs hw => ?_)
    refine lv_if_eq (tgt := 36) hx hb dX4_write_25 (by decide) (fun c42 => ?_) (fun c42 => ?_)
    · replace h := ite_t c42 h
      refine lv_iload_n hx hb dX4_write_36 rfl (lv_at hl 3 rfl) ?_
      refine lv_iconst (v := 0) hx hb dX4_write_37 (by decide) ?_
      refine lv_aload hx hb dX4_write_38 (lv_at hl 0 rfl) ?_
      refine gf_X4_232 cx hw 49 rfl rfl dX4_write_40 ?_
      refine lv_iconst (v := 1) hx hb dX4_write_43 (by decide) ?_
      refine lv_isub hx hb dX4_write_44 ?_
      obtain ⟨x43, g44, h⟩ := bd_ex h
      refine c_S (As := [.int p2, .int (0 : Int32), .int ((s_size (sAt (x_sheets d) 2)) - (1 : Int32))]) (rest := []) (w' := (XC g q d)) cx hw (c_X4_isWithin l g  N p2 (0 : Int32) ((s_size (sAt (x_sheets d) 2)) - (1 : Int32))  x43 g44) (cl_X4_40 cx.1.2.2.2.2 ⟨Nat.le_of_ble_eq_true rfl, Nat.le_of_ble_eq_true rfl⟩) Ct.nil hl.1 rfl rfl (Nat.le_of_ble_eq_true rfl) dX4_write_45 ⟨Nat.le_of_ble_eq_true rfl, Nat.le_of_ble_eq_true rfl⟩ (st1 := [.int x43]) rfl (fun H locs hw => ?_)
      refine lv_if_ne (tgt := 59) hx hb dX4_write_48 (by decide) (fun c45 => ?_) (fun c45 => ?_)
      · replace h := ite_f c45 h
        refine lv_aload hx hb dX4_write_59 (lv_at hl 0 rfl) ?_
        refine lv_iload_n hx hb dX4_write_61 rfl (lv_at hl 3 rfl) ?_
        refine lv_lload_n hx hb dX4_write_62 rfl (lv_at hl 4 rfl) ?_
        obtain ⟨x46, d47, g48, h⟩ := bd2_ex h
        refine c_V (As := [.int p2, .long p3]) (rest := []) (w' := (XC g q (x_set_sheets d (sPut (x_sheets d) 2 d47)))) cx hw (c_X0_put l g (qs 49 q) N p2 p3 (sAt (x_sheets d) 2) x46 d47 g48) (cl_X4_235 cx.1.2.2.2.2 ⟨Nat.le_of_ble_eq_true rfl, Nat.le_of_ble_eq_true rfl⟩) (x_recv cx hw (ci := 0) rfl 49 rfl) (ct_X__49_50__S_0 g q d d47) hl.1 rfl rfl (Nat.le_of_ble_eq_true rfl) dX4_write_63 ⟨Nat.le_of_ble_eq_true rfl, Nat.le_of_ble_eq_true rfl⟩ (st1 := [.long x46]) rfl (fun H locs hw => ?_)
        obtain ⟨d49, ed49, h⟩ := lt_ex h
        have hw : Wd g (va_A ((XC g q d)) s.heap.size) ((XC g q d49)) s H locs := by rw [ed49]; exact hw
        exact r_l cx hr hlocks hw (pr1 h) (congrArg (fun z0 => (XC g q z0)) (pr2 h)) dX4_write_66
      · replace h := ite_t c45 h
        refine lv_aload_n hx hb dX4_write_51 rfl (lv_at hl 1 rfl) ?_
        refine lv_ldc hx hb cx.1.2.2.2.1 (cx.1.2.2.2.2 _ tw_1_202) dX4_write_52 ?_
        obtain ⟨x50, d51, g52, h⟩ := bd2_ex h
        refine c_V (As := [.int (-1000000001 : Int32)]) (rest := []) (w' := (XC g q d51)) cx hw (c_X4_tell l g q N (-1000000001 : Int32) d x50 d51 g52) (cl_X4_45 cx.1.2.2.2.2 ⟨Nat.le_of_ble_eq_true rfl, Nat.le_of_ble_eq_true rfl⟩) (x_recv cx hw (ci := 4) rfl 0 rfl) (Ct.all (XC_ll ..)) hl.1 rfl rfl (Nat.le_of_ble_eq_true rfl) dX4_write_54 ⟨Nat.le_of_ble_eq_true rfl, Nat.le_of_ble_eq_true rfl⟩ (st1 := [.int x50]) rfl (fun H locs hw => ?_)
        refine lv_i2l hx hb dX4_write_57 rfl ?_
        exact r_l cx hr hlocks hw (pr1 h) (congrArg (fun z0 => (XC g q z0)) (pr2 h)) dX4_write_58
    · replace h := ite_f c42 h
      refine lv_aload_n hx hb dX4_write_28 rfl (lv_at hl 1 rfl) ?_
      refine lv_ldc hx hb cx.1.2.2.2.1 (cx.1.2.2.2.2 _ tw_3_177) dX4_write_29 ?_
      obtain ⟨x53, d54, g55, h⟩ := bd2_ex h
      refine c_V (As := [.int (-1000000006 : Int32)]) (rest := []) (w' := (XC g q d54)) cx hw (c_X4_tell l g q N (-1000000006 : Int32) d x53 d54 g55) (cl_X4_45 cx.1.2.2.2.2 ⟨Nat.le_of_ble_eq_true rfl, Nat.le_of_ble_eq_true rfl⟩) (x_recv cx hw (ci := 4) rfl 0 rfl) (Ct.all (XC_ll ..)) hl.1 rfl rfl (Nat.le_of_ble_eq_true rfl) dX4_write_31 ⟨Nat.le_of_ble_eq_true rfl, Nat.le_of_ble_eq_true rfl⟩ (st1 := [.int x53]) rfl (fun H locs hw => ?_)
      refine lv_i2l hx hb dX4_write_34 rfl ?_
      exact r_l cx hr hlocks hw (pr1 h) (congrArg (fun z0 => (XC g q z0)) (pr2 h)) dX4_write_35
  · replace h := sel_s h
    refine c_V (As := [.int p1]) (rest := []) (w' := (XC g q d)) cx hw (c_X4_sheetAt l g q N p1 d (some 3) g2) (cl_X4_219 cx.1.2.2.2.2 ⟨Nat.le_of_ble_eq_true rfl, Nat.le_of_ble_eq_true rfl⟩) (x_recv cx hw (ci := 4) rfl 0 rfl) (Ct.all (XC_ll ..)) hl.1 rfl rfl (Nat.le_of_ble_eq_true rfl) dX4_write_2 ⟨Nat.le_of_ble_eq_true rfl, Nat.le_of_ble_eq_true rfl⟩ (st1 := [.ref (qs 51 q 0)]) rfl (fun H locs hw => ?_)
    refine lv_astore (lv' := [(5, .ref (qs 51 q 0)), (0, .ref (q 0)), (1, .int p1), (2, .int p2), (3, .long p3)]) hx hb dX4_write_5 hl (by decide) rfl (fun ls hl => ?_)
    refine lv_aload hx hb dX4_write_7 (lv_at hl 0 rfl) ?_
    refine lv_ifnonnull (tgt := 20) hx hb dX4_write_9 (by decide) ?_
    refine lv_aload hx hb dX4_write_20 (lv_at hl 0 rfl) ?_
    obtain ⟨x56, g57, h⟩ := bd_ex h
    refine c_V (As := []) (rest := []) (w' := (XC g q d)) cx hw (c_X0_isMissing l g (qs 51 q) N  (sAt (x_sheets d) 3) x56 g57) (cl_X4_227 cx.1.2.2.2.2 ⟨Nat.le_of_ble_eq_true rfl, Nat.le_of_ble_eq_true rfl⟩) (x_recv cx hw (ci := 0) rfl 51 rfl) (ct_X__51_52__S g q d ) hl.1 rfl rfl (Nat.le_of_ble_eq_true rfl) dX4_write_22 ⟨Nat.le_of_ble_eq_true rfl, Nat.le_of_ble_eq_true rfl⟩ (st1 := [.int x56]) rfl (fun H locs hw => ?_)
    refine lv_if_eq (tgt := 36) hx hb dX4_write_25 (by decide) (fun c58 => ?_) (fun c58 => ?_)
    · replace h := ite_t c58 h
      refine lv_iload_n hx hb dX4_write_36 rfl (lv_at hl 3 rfl) ?_
      refine lv_iconst (v := 0) hx hb dX4_write_37 (by decide) ?_
      refine lv_aload hx hb dX4_write_38 (lv_at hl 0 rfl) ?_
      refine gf_X4_232 cx hw 51 rfl rfl dX4_write_40 ?_
      refine lv_iconst (v := 1) hx hb dX4_write_43 (by decide) ?_
      refine lv_isub hx hb dX4_write_44 ?_
      obtain ⟨x59, g60, h⟩ := bd_ex h
      refine c_S (As := [.int p2, .int (0 : Int32), .int ((s_size (sAt (x_sheets d) 3)) - (1 : Int32))]) (rest := []) (w' := (XC g q d)) cx hw (c_X4_isWithin l g  N p2 (0 : Int32) ((s_size (sAt (x_sheets d) 3)) - (1 : Int32))  x59 g60) (cl_X4_40 cx.1.2.2.2.2 ⟨Nat.le_of_ble_eq_true rfl, Nat.le_of_ble_eq_true rfl⟩) Ct.nil hl.1 rfl rfl (Nat.le_of_ble_eq_true rfl) dX4_write_45 ⟨Nat.le_of_ble_eq_true rfl, Nat.le_of_ble_eq_true rfl⟩ (st1 := [.int x59]) rfl (fun H locs hw => ?_)
      refine lv_if_ne (tgt := 59) hx hb dX4_write_48 (by decide) (fun c61 => ?_) (fun c61 => ?_)
      · replace h := ite_f c61 h
        refine lv_aload hx hb dX4_write_59 (lv_at hl 0 rfl) ?_
        refine lv_iload_n hx hb dX4_write_61 rfl (lv_at hl 3 rfl) ?_
        refine lv_lload_n hx hb dX4_write_62 rfl (lv_at hl 4 rfl) ?_
        obtain ⟨x62, d63, g64, h⟩ := bd2_ex h
        refine c_V (As := [.int p2, .long p3]) (rest := []) (w' := (XC g q (x_set_sheets d (sPut (x_sheets d) 3 d63)))) cx hw (c_X0_put l g (qs 51 q) N p2 p3 (sAt (x_sheets d) 3) x62 d63 g64) (cl_X4_235 cx.1.2.2.2.2 ⟨Nat.le_of_ble_eq_true rfl, Nat.le_of_ble_eq_true rfl⟩) (x_recv cx hw (ci := 0) rfl 51 rfl) (ct_X__51_52__S_0 g q d d63) hl.1 rfl rfl (Nat.le_of_ble_eq_true rfl) dX4_write_63 ⟨Nat.le_of_ble_eq_true rfl, Nat.le_of_ble_eq_true rfl⟩ (st1 := [.long x62]) rfl (fun H locs hw => ?_)
        obtain ⟨d65, ed65, h⟩ := lt_ex h
        have hw : Wd g (va_A ((XC g q d)) s.heap.size) ((XC g q d65)) s H locs := by rw [ed65]; exact hw
        exact r_l cx hr hlocks hw (pr1 h) (congrArg (fun z0 => (XC g q z0)) (pr2 h)) dX4_write_66
      · replace h := ite_t c61 h
        refine lv_aload_n hx hb dX4_write_51 rfl (lv_at hl 1 rfl) ?_
        refine lv_ldc hx hb cx.1.2.2.2.1 (cx.1.2.2.2.2 _ tw_1_202) dX4_write_52 ?_
        obtain ⟨x66, d67, g68, h⟩ := bd2_ex h
        refine c_V (As := [.int (-1000000001 : Int32)]) (rest := []) (w' := (XC g q d67)) cx hw (c_X4_tell l g q N (-1000000001 : Int32) d x66 d67 g68) (cl_X4_45 cx.1.2.2.2.2 ⟨Nat.le_of_ble_eq_true rfl, Nat.le_of_ble_eq_true rfl⟩) (x_recv cx hw (ci := 4) rfl 0 rfl) (Ct.all (XC_ll ..)) hl.1 rfl rfl (Nat.le_of_ble_eq_true rfl) dX4_write_54 ⟨Nat.le_of_ble_eq_true rfl, Nat.le_of_ble_eq_true rfl⟩ (st1 := [.int x66]) rfl (fun H locs hw => ?_)
        refine lv_i2l hx hb dX4_write_57 rfl ?_
        exact r_l cx hr hlocks hw (pr1 h) (congrArg (fun z0 => (XC g q z0)) (pr2 h)) dX4_write_58
    · replace h := ite_f c58 h
      refine lv_aload_n hx hb dX4_write_28 rfl (lv_at hl 1 rfl) ?_
      refine lv_ldc hx hb cx.1.2.2.2.1 (cx.1.2.2.2.2 _ tw_3_177) dX4_write_29 ?_
      obtain ⟨x69, d70, g71, h⟩ := bd2_ex h
      refine c_V (As := [.int (-1000000006 : Int32)]) (rest := []) (w' := (XC g q d70)) cx hw (c_X4_tell l g q N (-1000000006 : Int32) d x69 d70 g71) (cl_X4_45 cx.1.2.2.2.2 ⟨Nat.le_of_ble_eq_true rfl, Nat.le_of_ble_eq_true rfl⟩) (x_recv cx hw (ci := 4) rfl 0 rfl) (Ct.all (XC_ll ..)) hl.1 rfl rfl (Nat.le_of_ble_eq_true rfl) dX4_write_31 ⟨Nat.le_of_ble_eq_true rfl, Nat.le_of_ble_eq_true rfl⟩ (st1 := [.int x69]) rfl (fun H locs hw => ?_)
      refine lv_i2l hx hb dX4_write_34 rfl ?_
      exact r_l cx hr hlocks hw (pr1 h) (congrArg (fun z0 => (XC g q z0)) (pr2 h)) dX4_write_35
set_option maxHeartbeats 4000000 in
set_option maxRecDepth 100000 in
theorem c_X4_lays (l : Launch) (g : gE) (q : Nat → Nat) (N : Nat) (p1 : Int32) (p2 : Int32) (d : XD) (r : Int32) (d' : XD) (h : f_X4_lays N  p1 p2 d = some (r, d')) : MO l yX4_lays (Cond.code yX4_lays cX4_lays 5 (some .int) :: TB) rm_X4_lays [.ref (q 0), .int p1, .int p2] g ((XC g q d)) ((XC g q d')) (some (.int r)) 0 0 := by
  refine MO.of (cc := cX4_lays) (maxL := 5) (ret := (some .int)) (by decide) ?_
  intro p e s m below meth c cx hw hr hlocks _
  have hx := cx.1.1
  have hb := cx.1.2.1
  refine en_go (lv := [(0, .ref (q 0)), (1, .int p1), (2, .int p2)]) (Nat.le_of_ble_eq_true rfl) rfl (fun ls hl => ?_)
  unfold f_X4_lays at h
  refine lv_aload_n hx hb dX4_lays_0 rfl (lv_at hl 0 rfl) ?_
  refine lv_iload_n hx hb dX4_lays_1 rfl (lv_at hl 1 rfl) ?_
  obtain ⟨r1, g2, h⟩ := bd_ex h
  rcases sh_cases g2 with e4 | e4 | e4 | e4 | e4 <;> subst e4
  · replace h := sel_n h
    refine c_V (As := [.int p1]) (rest := []) (w' := (XC g q d)) cx hw (c_X4_sheetAt l g q N p1 d none g2) (cl_X4_219 cx.1.2.2.2.2 ⟨Nat.le_of_ble_eq_true rfl, Nat.le_of_ble_eq_true rfl⟩) (x_recv cx hw (ci := 4) rfl 0 rfl) (Ct.all (XC_ll ..)) hl.1 rfl rfl (Nat.le_of_ble_eq_true rfl) dX4_lays_2 ⟨Nat.le_of_ble_eq_true rfl, Nat.le_of_ble_eq_true rfl⟩ (st1 := [.null]) rfl (fun H locs hw => ?_)
    refine lv_astore_nN (lv' := [(3, .null), (0, .ref (q 0)), (1, .int p1), (2, .int p2)]) hx hb dX4_lays_5 rfl hl (by decide) rfl (fun ls hl => ?_)
    refine lv_aload_nN hx hb dX4_lays_6 rfl (lv_at hl 0 rfl) ?_
    refine lv_ifnonnullN hx hb dX4_lays_7 ?_
    refine lv_aload_n hx hb dX4_lays_10 rfl (lv_at hl 1 rfl) ?_
    refine lv_ldc hx hb cx.1.2.2.2.1 (cx.1.2.2.2.2 _ tw_1_202) dX4_lays_11 ?_
    obtain ⟨x5, d6, g7, h⟩ := bd2_ex h
    refine c_V (As := [.int (-1000000001 : Int32)]) (rest := []) (w' := (XC g q d6)) cx hw (c_X4_tell l g q N (-1000000001 : Int32) d x5 d6 g7) (cl_X4_45 cx.1.2.2.2.2 ⟨Nat.le_of_ble_eq_true rfl, Nat.le_of_ble_eq_true rfl⟩) (x_recv cx hw (ci := 4) rfl 0 rfl) (Ct.all (XC_ll ..)) hl.1 rfl rfl (Nat.le_of_ble_eq_true rfl) dX4_lays_13 ⟨Nat.le_of_ble_eq_true rfl, Nat.le_of_ble_eq_true rfl⟩ (st1 := [.int x5]) rfl (fun H locs hw => ?_)
    exact r_i cx hr hlocks hw (pr1 h) (congrArg (fun z0 => (XC g q z0)) (pr2 h)) dX4_lays_16
  · replace h := sel_s h
    refine c_V (As := [.int p1]) (rest := []) (w' := (XC g q d)) cx hw (c_X4_sheetAt l g q N p1 d (some 0) g2) (cl_X4_219 cx.1.2.2.2.2 ⟨Nat.le_of_ble_eq_true rfl, Nat.le_of_ble_eq_true rfl⟩) (x_recv cx hw (ci := 4) rfl 0 rfl) (Ct.all (XC_ll ..)) hl.1 rfl rfl (Nat.le_of_ble_eq_true rfl) dX4_lays_2 ⟨Nat.le_of_ble_eq_true rfl, Nat.le_of_ble_eq_true rfl⟩ (st1 := [.ref (qs 45 q 0)]) rfl (fun H locs hw => ?_)
    refine lv_astore_n (lv' := [(3, .ref (qs 45 q 0)), (0, .ref (q 0)), (1, .int p1), (2, .int p2)]) hx hb dX4_lays_5 rfl hl (by decide) rfl (fun ls hl => ?_)
    refine lv_aload_n hx hb dX4_lays_6 rfl (lv_at hl 0 rfl) ?_
    refine lv_ifnonnull (tgt := 17) hx hb dX4_lays_7 (by decide) ?_
    refine lv_aload_n hx hb dX4_lays_17 rfl (lv_at hl 0 rfl) ?_
    obtain ⟨x8, g9, h⟩ := bd_ex h
    refine c_V (As := []) (rest := []) (w' := (XC g q d)) cx hw (c_X0_isMissing l g (qs 45 q) N  (sAt (x_sheets d) 0) x8 g9) (cl_X4_227 cx.1.2.2.2.2 ⟨Nat.le_of_ble_eq_true rfl, Nat.le_of_ble_eq_true rfl⟩) (x_recv cx hw (ci := 0) rfl 45 rfl) (ct_X__45_46__S g q d ) hl.1 rfl rfl (Nat.le_of_ble_eq_true rfl) dX4_lays_18 ⟨Nat.le_of_ble_eq_true rfl, Nat.le_of_ble_eq_true rfl⟩ (st1 := [.int x8]) rfl (fun H locs hw => ?_)
    refine lv_if_eq (tgt := 31) hx hb dX4_lays_21 (by decide) (fun c10 => ?_) (fun c10 => ?_)
    · replace h := ite_t c10 h
      refine lv_aload_n hx hb dX4_lays_31 rfl (lv_at hl 1 rfl) ?_
      refine lv_iload_n hx hb dX4_lays_32 rfl (lv_at hl 3 rfl) ?_
      obtain ⟨x11, g12, h⟩ := bd_ex h
      refine c_V (As := [.int p2]) (rest := []) (w' := (XC g q d)) cx hw (c_X4_isOne l g q N p2 d x11 g12) (cl_X4_72 cx.1.2.2.2.2 ⟨Nat.le_of_ble_eq_true rfl, Nat.le_of_ble_eq_true rfl⟩) (x_recv cx hw (ci := 4) rfl 0 rfl) (Ct.all (XC_ll ..)) hl.1 rfl rfl (Nat.le_of_ble_eq_true rfl) dX4_lays_33 ⟨Nat.le_of_ble_eq_true rfl, Nat.le_of_ble_eq_true rfl⟩ (st1 := [.int x11]) rfl (fun H locs hw => ?_)
      refine lv_if_ne (tgt := 46) hx hb dX4_lays_36 (by decide) (fun c13 => ?_) (fun c13 => ?_)
      · replace h := ite_f c13 h
        refine lv_aload_n hx hb dX4_lays_46 rfl (lv_at hl 0 rfl) ?_
        obtain ⟨x14, g15, h⟩ := bd_ex h
        refine c_V (As := []) (rest := []) (w' := (XC g q d)) cx hw (c_X0_marksTold l g (qs 45 q) N  (sAt (x_sheets d) 0) x14 g15) (cl_X4_255 cx.1.2.2.2.2 ⟨Nat.le_of_ble_eq_true rfl, Nat.le_of_ble_eq_true rfl⟩) (x_recv cx hw (ci := 0) rfl 45 rfl) (ct_X__45_46__S g q d ) hl.1 rfl rfl (Nat.le_of_ble_eq_true rfl) dX4_lays_47 ⟨Nat.le_of_ble_eq_true rfl, Nat.le_of_ble_eq_true rfl⟩ (st1 := [.int x14]) rfl (fun H locs hw => ?_)
        refine lv_istore (lv' := [(4, .int x14), (3, .ref (qs 45 q 0)), (0, .ref (q 0)), (1, .int p1), (2, .int p2)]) hx hb dX4_lays_50 hl (by decide) rfl (fun ls hl => ?_)
        refine lv_aload_n hx hb dX4_lays_52 rfl (lv_at hl 2 rfl) ?_
        refine gf_X4_12 cx hw 0 rfl rfl dX4_lays_53 ?_
        refine gf_X4_102 cx hw 1 rfl rfl dX4_lays_56 ?_
        refine lv_iload_n hx hb dX4_lays_59 rfl (lv_at hl 4 rfl) ?_
        refine lv_aload_n hx hb dX4_lays_60 rfl (lv_at hl 2 rfl) ?_
        refine gf_X4_12 cx hw 0 rfl rfl dX4_lays_61 ?_
        refine gf_X4_102 cx hw 1 rfl rfl dX4_lays_64 ?_
        refine lv_iload_n hx hb dX4_lays_67 rfl (lv_at hl 4 rfl) ?_
        have ix16 := rd_in h
        refine x_iald cx hw 11 rfl ix16 dX4_lays_68 ?_
        refine lv_topi (fun x16 ex16 => ?_)
        replace h := rd_nx ex16 h
        refine lv_aload_n hx hb dX4_lays_69 rfl (lv_at hl 1 rfl) ?_
        obtain ⟨x17, g18, h⟩ := bd_ex h
        refine c_V (As := []) (rest := [.int x16, .int p2, .ref (qs 1 q 10)]) (w' := (XC g q d)) cx hw (c_X0_lookTold l g (qs 45 q) N  (sAt (x_sheets d) 0) x17 g18) (cl_X4_258 cx.1.2.2.2.2 ⟨Nat.le_of_ble_eq_true rfl, Nat.le_of_ble_eq_true rfl⟩) (x_recv cx hw (ci := 0) rfl 45 rfl) (ct_X__45_46__S g q d ) hl.1 rfl rfl (Nat.le_of_ble_eq_true rfl) dX4_lays_70 ⟨Nat.le_of_ble_eq_true rfl, Nat.le_of_ble_eq_true rfl⟩ (st1 := [.int x17, .int x16, .int p2, .ref (qs 1 q 10)]) rfl (fun H locs hw => ?_)
        refine lv_iload hx hb dX4_lays_73 (lv_at hl 0 rfl) ?_
        obtain ⟨x19, g20, h⟩ := bd_ex h
        refine c_S (As := [.int x16, .int x17, .int x14]) (rest := [.int p2, .ref (qs 1 q 10)]) (w' := (XC g q d)) cx hw (c_X4_copied l g  N x16 x17 x14  x19 g20) (cl_X4_180 cx.1.2.2.2.2 ⟨Nat.le_of_ble_eq_true rfl, Nat.le_of_ble_eq_true rfl⟩) Ct.nil hl.1 rfl rfl (Nat.le_of_ble_eq_true rfl) dX4_lays_75 ⟨Nat.le_of_ble_eq_true rfl, Nat.le_of_ble_eq_true rfl⟩ (st1 := [.int x19, .int p2, .ref (qs 1 q 10)]) rfl (fun H locs hw => ?_)
        have i21 := ck_in h
        replace h := ck_nx h
        refine x_iast cx hw 11 rfl i21 dX4_lays_78 (fun H locs hw => ?_)
        obtain ⟨d22, ed22, h⟩ := lt_ex h
        have hw : Wd g (va_A ((XC g q d)) s.heap.size) ((XC g q d22)) s H locs := by rw [ed22]; exact hw
        refine lv_iload hx hb dX4_lays_79 (lv_at hl 0 rfl) ?_
        obtain ⟨x23, g24, h⟩ := bd_ex h
        refine c_S (As := [.int x14]) (rest := []) (w' := (XC g q d22)) cx hw (c_J6_bitCount_0f7a4 l g  N x14  x23 g24) (cl_X4_126 cx.1.2.2.2.2 ⟨Nat.le_of_ble_eq_true rfl, Nat.le_of_ble_eq_true rfl⟩) Ct.nil hl.1 rfl rfl (Nat.le_of_ble_eq_true rfl) dX4_lays_81 ⟨Nat.le_of_ble_eq_true rfl, Nat.le_of_ble_eq_true rfl⟩ (st1 := [.int x23]) rfl (fun H locs hw => ?_)
        exact r_i cx hr hlocks hw (pr1 h) (congrArg (fun z0 => (XC g q z0)) (pr2 h)) dX4_lays_84
      · replace h := ite_t c13 h
        refine lv_aload_n hx hb dX4_lays_39 rfl (lv_at hl 1 rfl) ?_
        refine lv_ldc hx hb cx.1.2.2.2.1 (cx.1.2.2.2.2 _ tw_1_202) dX4_lays_40 ?_
        obtain ⟨x25, d26, g27, h⟩ := bd2_ex h
        refine c_V (As := [.int (-1000000001 : Int32)]) (rest := []) (w' := (XC g q d26)) cx hw (c_X4_tell l g q N (-1000000001 : Int32) d x25 d26 g27) (cl_X4_45 cx.1.2.2.2.2 ⟨Nat.le_of_ble_eq_true rfl, Nat.le_of_ble_eq_true rfl⟩) (x_recv cx hw (ci := 4) rfl 0 rfl) (Ct.all (XC_ll ..)) hl.1 rfl rfl (Nat.le_of_ble_eq_true rfl) dX4_lays_42 ⟨Nat.le_of_ble_eq_true rfl, Nat.le_of_ble_eq_true rfl⟩ (st1 := [.int x25]) rfl (fun H locs hw => ?_)
        exact r_i cx hr hlocks hw (pr1 h) (congrArg (fun z0 => (XC g q z0)) (pr2 h)) dX4_lays_45
    · replace h := ite_f c10 h
      refine lv_aload_n hx hb dX4_lays_24 rfl (lv_at hl 1 rfl) ?_
      refine lv_ldc hx hb cx.1.2.2.2.1 (cx.1.2.2.2.2 _ tw_3_177) dX4_lays_25 ?_
      obtain ⟨x28, d29, g30, h⟩ := bd2_ex h
      refine c_V (As := [.int (-1000000006 : Int32)]) (rest := []) (w' := (XC g q d29)) cx hw (c_X4_tell l g q N (-1000000006 : Int32) d x28 d29 g30) (cl_X4_45 cx.1.2.2.2.2 ⟨Nat.le_of_ble_eq_true rfl, Nat.le_of_ble_eq_true rfl⟩) (x_recv cx hw (ci := 4) rfl 0 rfl) (Ct.all (XC_ll ..)) hl.1 rfl rfl (Nat.le_of_ble_eq_true rfl) dX4_lays_27 ⟨Nat.le_of_ble_eq_true rfl, Nat.le_of_ble_eq_true rfl⟩ (st1 := [.int x28]) rfl (fun H locs hw => ?_)
      exact r_i cx hr hlocks hw (pr1 h) (congrArg (fun z0 => (XC g q z0)) (pr2 h)) dX4_lays_30
  · replace h := sel_s h
    refine c_V (As := [.int p1]) (rest := []) (w' := (XC g q d)) cx hw (c_X4_sheetAt l g q N p1 d (some 1) g2) (cl_X4_219 cx.1.2.2.2.2 ⟨Nat.le_of_ble_eq_true rfl, Nat.le_of_ble_eq_true rfl⟩) (x_recv cx hw (ci := 4) rfl 0 rfl) (Ct.all (XC_ll ..)) hl.1 rfl rfl (Nat.le_of_ble_eq_true rfl) dX4_lays_2 ⟨Nat.le_of_ble_eq_true rfl, Nat.le_of_ble_eq_true rfl⟩ (st1 := [.ref (qs 47 q 0)]) rfl (fun H locs hw => ?_)
    refine lv_astore_n (lv' := [(3, .ref (qs 47 q 0)), (0, .ref (q 0)), (1, .int p1), (2, .int p2)]) hx hb dX4_lays_5 rfl hl (by decide) rfl (fun ls hl => ?_)
    refine lv_aload_n hx hb dX4_lays_6 rfl (lv_at hl 0 rfl) ?_
    refine lv_ifnonnull (tgt := 17) hx hb dX4_lays_7 (by decide) ?_
    refine lv_aload_n hx hb dX4_lays_17 rfl (lv_at hl 0 rfl) ?_
    obtain ⟨x31, g32, h⟩ := bd_ex h
    refine c_V (As := []) (rest := []) (w' := (XC g q d)) cx hw (c_X0_isMissing l g (qs 47 q) N  (sAt (x_sheets d) 1) x31 g32) (cl_X4_227 cx.1.2.2.2.2 ⟨Nat.le_of_ble_eq_true rfl, Nat.le_of_ble_eq_true rfl⟩) (x_recv cx hw (ci := 0) rfl 47 rfl) (ct_X__47_48__S g q d ) hl.1 rfl rfl (Nat.le_of_ble_eq_true rfl) dX4_lays_18 ⟨Nat.le_of_ble_eq_true rfl, Nat.le_of_ble_eq_true rfl⟩ (st1 := [.int x31]) rfl (fun H locs hw => ?_)
    refine lv_if_eq (tgt := 31) hx hb dX4_lays_21 (by decide) (fun c33 => ?_) (fun c33 => ?_)
    · replace h := ite_t c33 h
      refine lv_aload_n hx hb dX4_lays_31 rfl (lv_at hl 1 rfl) ?_
      refine lv_iload_n hx hb dX4_lays_32 rfl (lv_at hl 3 rfl) ?_
      obtain ⟨x34, g35, h⟩ := bd_ex h
      refine c_V (As := [.int p2]) (rest := []) (w' := (XC g q d)) cx hw (c_X4_isOne l g q N p2 d x34 g35) (cl_X4_72 cx.1.2.2.2.2 ⟨Nat.le_of_ble_eq_true rfl, Nat.le_of_ble_eq_true rfl⟩) (x_recv cx hw (ci := 4) rfl 0 rfl) (Ct.all (XC_ll ..)) hl.1 rfl rfl (Nat.le_of_ble_eq_true rfl) dX4_lays_33 ⟨Nat.le_of_ble_eq_true rfl, Nat.le_of_ble_eq_true rfl⟩ (st1 := [.int x34]) rfl (fun H locs hw => ?_)
      refine lv_if_ne (tgt := 46) hx hb dX4_lays_36 (by decide) (fun c36 => ?_) (fun c36 => ?_)
      · replace h := ite_f c36 h
        refine lv_aload_n hx hb dX4_lays_46 rfl (lv_at hl 0 rfl) ?_
        obtain ⟨x37, g38, h⟩ := bd_ex h
        refine c_V (As := []) (rest := []) (w' := (XC g q d)) cx hw (c_X0_marksTold l g (qs 47 q) N  (sAt (x_sheets d) 1) x37 g38) (cl_X4_255 cx.1.2.2.2.2 ⟨Nat.le_of_ble_eq_true rfl, Nat.le_of_ble_eq_true rfl⟩) (x_recv cx hw (ci := 0) rfl 47 rfl) (ct_X__47_48__S g q d ) hl.1 rfl rfl (Nat.le_of_ble_eq_true rfl) dX4_lays_47 ⟨Nat.le_of_ble_eq_true rfl, Nat.le_of_ble_eq_true rfl⟩ (st1 := [.int x37]) rfl (fun H locs hw => ?_)
        refine lv_istore (lv' := [(4, .int x37), (3, .ref (qs 47 q 0)), (0, .ref (q 0)), (1, .int p1), (2, .int p2)]) hx hb dX4_lays_50 hl (by decide) rfl (fun ls hl => ?_)
        refine lv_aload_n hx hb dX4_lays_52 rfl (lv_at hl 2 rfl) ?_
        refine gf_X4_12 cx hw 0 rfl rfl dX4_lays_53 ?_
        refine gf_X4_102 cx hw 1 rfl rfl dX4_lays_56 ?_
        refine lv_iload_n hx hb dX4_lays_59 rfl (lv_at hl 4 rfl) ?_
        refine lv_aload_n hx hb dX4_lays_60 rfl (lv_at hl 2 rfl) ?_
        refine gf_X4_12 cx hw 0 rfl rfl dX4_lays_61 ?_
        refine gf_X4_102 cx hw 1 rfl rfl dX4_lays_64 ?_
        refine lv_iload_n hx hb dX4_lays_67 rfl (lv_at hl 4 rfl) ?_
        have ix39 := rd_in h
        refine x_iald cx hw 11 rfl ix39 dX4_lays_68 ?_
        refine lv_topi (fun x39 ex39 => ?_)
        replace h := rd_nx ex39 h
        refine lv_aload_n hx hb dX4_lays_69 rfl (lv_at hl 1 rfl) ?_
        obtain ⟨x40, g41, h⟩ := bd_ex h
        refine c_V (As := []) (rest := [.int x39, .int p2, .ref (qs 1 q 10)]) (w' := (XC g q d)) cx hw (c_X0_lookTold l g (qs 47 q) N  (sAt (x_sheets d) 1) x40 g41) (cl_X4_258 cx.1.2.2.2.2 ⟨Nat.le_of_ble_eq_true rfl, Nat.le_of_ble_eq_true rfl⟩) (x_recv cx hw (ci := 0) rfl 47 rfl) (ct_X__47_48__S g q d ) hl.1 rfl rfl (Nat.le_of_ble_eq_true rfl) dX4_lays_70 ⟨Nat.le_of_ble_eq_true rfl, Nat.le_of_ble_eq_true rfl⟩ (st1 := [.int x40, .int x39, .int p2, .ref (qs 1 q 10)]) rfl (fun H locs hw => ?_)
        refine lv_iload hx hb dX4_lays_73 (lv_at hl 0 rfl) ?_
        obtain ⟨x42, g43, h⟩ := bd_ex h
        refine c_S (As := [.int x39, .int x40, .int x37]) (rest := [.int p2, .ref (qs 1 q 10)]) (w' := (XC g q d)) cx hw (c_X4_copied l g  N x39 x40 x37  x42 g43) (cl_X4_180 cx.1.2.2.2.2 ⟨Nat.le_of_ble_eq_true rfl, Nat.le_of_ble_eq_true rfl⟩) Ct.nil hl.1 rfl rfl (Nat.le_of_ble_eq_true rfl) dX4_lays_75 ⟨Nat.le_of_ble_eq_true rfl, Nat.le_of_ble_eq_true rfl⟩ (st1 := [.int x42, .int p2, .ref (qs 1 q 10)]) rfl (fun H locs hw => ?_)
        have i44 := ck_in h
        replace h := ck_nx h
        refine x_iast cx hw 11 rfl i44 dX4_lays_78 (fun H locs hw => ?_)
        obtain ⟨d45, ed45, h⟩ := lt_ex h
        have hw : Wd g (va_A ((XC g q d)) s.heap.size) ((XC g q d45)) s H locs := by rw [ed45]; exact hw
        refine lv_iload hx hb dX4_lays_79 (lv_at hl 0 rfl) ?_
        obtain ⟨x46, g47, h⟩ := bd_ex h
        refine c_S (As := [.int x37]) (rest := []) (w' := (XC g q d45)) cx hw (c_J6_bitCount_0f7a4 l g  N x37  x46 g47) (cl_X4_126 cx.1.2.2.2.2 ⟨Nat.le_of_ble_eq_true rfl, Nat.le_of_ble_eq_true rfl⟩) Ct.nil hl.1 rfl rfl (Nat.le_of_ble_eq_true rfl) dX4_lays_81 ⟨Nat.le_of_ble_eq_true rfl, Nat.le_of_ble_eq_true rfl⟩ (st1 := [.int x46]) rfl (fun H locs hw => ?_)
        exact r_i cx hr hlocks hw (pr1 h) (congrArg (fun z0 => (XC g q z0)) (pr2 h)) dX4_lays_84
      · replace h := ite_t c36 h
        refine lv_aload_n hx hb dX4_lays_39 rfl (lv_at hl 1 rfl) ?_
        refine lv_ldc hx hb cx.1.2.2.2.1 (cx.1.2.2.2.2 _ tw_1_202) dX4_lays_40 ?_
        obtain ⟨x48, d49, g50, h⟩ := bd2_ex h
        refine c_V (As := [.int (-1000000001 : Int32)]) (rest := []) (w' := (XC g q d49)) cx hw (c_X4_tell l g q N (-1000000001 : Int32) d x48 d49 g50) (cl_X4_45 cx.1.2.2.2.2 ⟨Nat.le_of_ble_eq_true rfl, Nat.le_of_ble_eq_true rfl⟩) (x_recv cx hw (ci := 4) rfl 0 rfl) (Ct.all (XC_ll ..)) hl.1 rfl rfl (Nat.le_of_ble_eq_true rfl) dX4_lays_42 ⟨Nat.le_of_ble_eq_true rfl, Nat.le_of_ble_eq_true rfl⟩ (st1 := [.int x48]) rfl (fun H locs hw => ?_)
        exact r_i cx hr hlocks hw (pr1 h) (congrArg (fun z0 => (XC g q z0)) (pr2 h)) dX4_lays_45
    · replace h := ite_f c33 h
      refine lv_aload_n hx hb dX4_lays_24 rfl (lv_at hl 1 rfl) ?_
      refine lv_ldc hx hb cx.1.2.2.2.1 (cx.1.2.2.2.2 _ tw_3_177) dX4_lays_25 ?_
      obtain ⟨x51, d52, g53, h⟩ := bd2_ex h
      refine c_V (As := [.int (-1000000006 : Int32)]) (rest := []) (w' := (XC g q d52)) cx hw (c_X4_tell l g q N (-1000000006 : Int32) d x51 d52 g53) (cl_X4_45 cx.1.2.2.2.2 ⟨Nat.le_of_ble_eq_true rfl, Nat.le_of_ble_eq_true rfl⟩) (x_recv cx hw (ci := 4) rfl 0 rfl) (Ct.all (XC_ll ..)) hl.1 rfl rfl (Nat.le_of_ble_eq_true rfl) dX4_lays_27 ⟨Nat.le_of_ble_eq_true rfl, Nat.le_of_ble_eq_true rfl⟩ (st1 := [.int x51]) rfl (fun H locs hw => ?_)
      exact r_i cx hr hlocks hw (pr1 h) (congrArg (fun z0 => (XC g q z0)) (pr2 h)) dX4_lays_30
  · replace h := sel_s h
    refine c_V (As := [.int p1]) (rest := []) (w' := (XC g q d)) cx hw (c_X4_sheetAt l g q N p1 d (some 2) g2) (cl_X4_219 cx.1.2.2.2.2 ⟨Nat.le_of_ble_eq_true rfl, Nat.le_of_ble_eq_true rfl⟩) (x_recv cx hw (ci := 4) rfl 0 rfl) (Ct.all (XC_ll ..)) hl.1 rfl rfl (Nat.le_of_ble_eq_true rfl) dX4_lays_2 ⟨Nat.le_of_ble_eq_true rfl, Nat.le_of_ble_eq_true rfl⟩ (st1 := [.ref (qs 49 q 0)]) rfl (fun H locs hw => ?_)
    refine lv_astore_n (lv' := [(3, .ref (qs 49 q 0)), (0, .ref (q 0)), (1, .int p1), (2, .int p2)]) hx hb dX4_lays_5 rfl hl (by decide) rfl (fun ls hl => ?_)
    refine lv_aload_n hx hb dX4_lays_6 rfl (lv_at hl 0 rfl) ?_
    refine lv_ifnonnull (tgt := 17) hx hb dX4_lays_7 (by decide) ?_
    refine lv_aload_n hx hb dX4_lays_17 rfl (lv_at hl 0 rfl) ?_
    obtain ⟨x54, g55, h⟩ := bd_ex h
    refine c_V (As := []) (rest := []) (w' := (XC g q d)) cx hw (c_X0_isMissing l g (qs 49 q) N  (sAt (x_sheets d) 2) x54 g55) (cl_X4_227 cx.1.2.2.2.2 ⟨Nat.le_of_ble_eq_true rfl, Nat.le_of_ble_eq_true rfl⟩) (x_recv cx hw (ci := 0) rfl 49 rfl) (ct_X__49_50__S g q d ) hl.1 rfl rfl (Nat.le_of_ble_eq_true rfl) dX4_lays_18 ⟨Nat.le_of_ble_eq_true rfl, Nat.le_of_ble_eq_true rfl⟩ (st1 := [.int x54]) rfl (fun H locs hw => ?_)
    refine lv_if_eq (tgt := 31) hx hb dX4_lays_21 (by decide) (fun c56 => ?_) (fun c56 => ?_)
    · replace h := ite_t c56 h
      refine lv_aload_n hx hb dX4_lays_31 rfl (lv_at hl 1 rfl) ?_
      refine lv_iload_n hx hb dX4_lays_32 rfl (lv_at hl 3 rfl) ?_
      obtain ⟨x57, g58, h⟩ := bd_ex h
      refine c_V (As := [.int p2]) (rest := []) (w' := (XC g q d)) cx hw (c_X4_isOne l g q N p2 d x57 g58) (cl_X4_72 cx.1.2.2.2.2 ⟨Nat.le_of_ble_eq_true rfl, Nat.le_of_ble_eq_true rfl⟩) (x_recv cx hw (ci := 4) rfl 0 rfl) (Ct.all (XC_ll ..)) hl.1 rfl rfl (Nat.le_of_ble_eq_true rfl) dX4_lays_33 ⟨Nat.le_of_ble_eq_true rfl, Nat.le_of_ble_eq_true rfl⟩ (st1 := [.int x57]) rfl (fun H locs hw => ?_)
      refine lv_if_ne (tgt := 46) hx hb dX4_lays_36 (by decide) (fun c59 => ?_) (fun c59 => ?_)
      · replace h := ite_f c59 h
        refine lv_aload_n hx hb dX4_lays_46 rfl (lv_at hl 0 rfl) ?_
        obtain ⟨x60, g61, h⟩ := bd_ex h
        refine c_V (As := []) (rest := []) (w' := (XC g q d)) cx hw (c_X0_marksTold l g (qs 49 q) N  (sAt (x_sheets d) 2) x60 g61) (cl_X4_255 cx.1.2.2.2.2 ⟨Nat.le_of_ble_eq_true rfl, Nat.le_of_ble_eq_true rfl⟩) (x_recv cx hw (ci := 0) rfl 49 rfl) (ct_X__49_50__S g q d ) hl.1 rfl rfl (Nat.le_of_ble_eq_true rfl) dX4_lays_47 ⟨Nat.le_of_ble_eq_true rfl, Nat.le_of_ble_eq_true rfl⟩ (st1 := [.int x60]) rfl (fun H locs hw => ?_)
        refine lv_istore (lv' := [(4, .int x60), (3, .ref (qs 49 q 0)), (0, .ref (q 0)), (1, .int p1), (2, .int p2)]) hx hb dX4_lays_50 hl (by decide) rfl (fun ls hl => ?_)
        refine lv_aload_n hx hb dX4_lays_52 rfl (lv_at hl 2 rfl) ?_
        refine gf_X4_12 cx hw 0 rfl rfl dX4_lays_53 ?_
        refine gf_X4_102 cx hw 1 rfl rfl dX4_lays_56 ?_
        refine lv_iload_n hx hb dX4_lays_59 rfl (lv_at hl 4 rfl) ?_
        refine lv_aload_n hx hb dX4_lays_60 rfl (lv_at hl 2 rfl) ?_
        refine gf_X4_12 cx hw 0 rfl rfl dX4_lays_61 ?_
        refine gf_X4_102 cx hw 1 rfl rfl dX4_lays_64 ?_
        refine lv_iload_n hx hb dX4_lays_67 rfl (lv_at hl 4 rfl) ?_
        have ix62 := rd_in h
        refine x_iald cx hw 11 rfl ix62 dX4_lays_68 ?_
        refine lv_topi (fun x62 ex62 => ?_)
        replace h := rd_nx ex62 h
        refine lv_aload_n hx hb dX4_lays_69 rfl (lv_at hl 1 rfl) ?_
        obtain ⟨x63, g64, h⟩ := bd_ex h
        refine c_V (As := []) (rest := [.int x62, .int p2, .ref (qs 1 q 10)]) (w' := (XC g q d)) cx hw (c_X0_lookTold l g (qs 49 q) N  (sAt (x_sheets d) 2) x63 g64) (cl_X4_258 cx.1.2.2.2.2 ⟨Nat.le_of_ble_eq_true rfl, Nat.le_of_ble_eq_true rfl⟩) (x_recv cx hw (ci := 0) rfl 49 rfl) (ct_X__49_50__S g q d ) hl.1 rfl rfl (Nat.le_of_ble_eq_true rfl) dX4_lays_70 ⟨Nat.le_of_ble_eq_true rfl, Nat.le_of_ble_eq_true rfl⟩ (st1 := [.int x63, .int x62, .int p2, .ref (qs 1 q 10)]) rfl (fun H locs hw => ?_)
        refine lv_iload hx hb dX4_lays_73 (lv_at hl 0 rfl) ?_
        obtain ⟨x65, g66, h⟩ := bd_ex h
        refine c_S (As := [.int x62, .int x63, .int x60]) (rest := [.int p2, .ref (qs 1 q 10)]) (w' := (XC g q d)) cx hw (c_X4_copied l g  N x62 x63 x60  x65 g66) (cl_X4_180 cx.1.2.2.2.2 ⟨Nat.le_of_ble_eq_true rfl, Nat.le_of_ble_eq_true rfl⟩) Ct.nil hl.1 rfl rfl (Nat.le_of_ble_eq_true rfl) dX4_lays_75 ⟨Nat.le_of_ble_eq_true rfl, Nat.le_of_ble_eq_true rfl⟩ (st1 := [.int x65, .int p2, .ref (qs 1 q 10)]) rfl (fun H locs hw => ?_)
        have i67 := ck_in h
        replace h := ck_nx h
        refine x_iast cx hw 11 rfl i67 dX4_lays_78 (fun H locs hw => ?_)
        obtain ⟨d68, ed68, h⟩ := lt_ex h
        have hw : Wd g (va_A ((XC g q d)) s.heap.size) ((XC g q d68)) s H locs := by rw [ed68]; exact hw
        refine lv_iload hx hb dX4_lays_79 (lv_at hl 0 rfl) ?_
        obtain ⟨x69, g70, h⟩ := bd_ex h
        refine c_S (As := [.int x60]) (rest := []) (w' := (XC g q d68)) cx hw (c_J6_bitCount_0f7a4 l g  N x60  x69 g70) (cl_X4_126 cx.1.2.2.2.2 ⟨Nat.le_of_ble_eq_true rfl, Nat.le_of_ble_eq_true rfl⟩) Ct.nil hl.1 rfl rfl (Nat.le_of_ble_eq_true rfl) dX4_lays_81 ⟨Nat.le_of_ble_eq_true rfl, Nat.le_of_ble_eq_true rfl⟩ (st1 := [.int x69]) rfl (fun H locs hw => ?_)
        exact r_i cx hr hlocks hw (pr1 h) (congrArg (fun z0 => (XC g q z0)) (pr2 h)) dX4_lays_84
      · replace h := ite_t c59 h
        refine lv_aload_n hx hb dX4_lays_39 rfl (lv_at hl 1 rfl) ?_
        refine lv_ldc hx hb cx.1.2.2.2.1 (cx.1.2.2.2.2 _ tw_1_202) dX4_lays_40 ?_
        obtain ⟨x71, d72, g73, h⟩ := bd2_ex h
        refine c_V (As := [.int (-1000000001 : Int32)]) (rest := []) (w' := (XC g q d72)) cx hw (c_X4_tell l g q N (-1000000001 : Int32) d x71 d72 g73) (cl_X4_45 cx.1.2.2.2.2 ⟨Nat.le_of_ble_eq_true rfl, Nat.le_of_ble_eq_true rfl⟩) (x_recv cx hw (ci := 4) rfl 0 rfl) (Ct.all (XC_ll ..)) hl.1 rfl rfl (Nat.le_of_ble_eq_true rfl) dX4_lays_42 ⟨Nat.le_of_ble_eq_true rfl, Nat.le_of_ble_eq_true rfl⟩ (st1 := [.int x71]) rfl (fun H locs hw => ?_)
        exact r_i cx hr hlocks hw (pr1 h) (congrArg (fun z0 => (XC g q z0)) (pr2 h)) dX4_lays_45
    · replace h := ite_f c56 h
      refine lv_aload_n hx hb dX4_lays_24 rfl (lv_at hl 1 rfl) ?_
      refine lv_ldc hx hb cx.1.2.2.2.1 (cx.1.2.2.2.2 _ tw_3_177) dX4_lays_25 ?_
      obtain ⟨x74, d75, g76, h⟩ := bd2_ex h
      refine c_V (As := [.int (-1000000006 : Int32)]) (rest := []) (w' := (XC g q d75)) cx hw (c_X4_tell l g q N (-1000000006 : Int32) d x74 d75 g76) (cl_X4_45 cx.1.2.2.2.2 ⟨Nat.le_of_ble_eq_true rfl, Nat.le_of_ble_eq_true rfl⟩) (x_recv cx hw (ci := 4) rfl 0 rfl) (Ct.all (XC_ll ..)) hl.1 rfl rfl (Nat.le_of_ble_eq_true rfl) dX4_lays_27 ⟨Nat.le_of_ble_eq_true rfl, Nat.le_of_ble_eq_true rfl⟩ (st1 := [.int x74]) rfl (fun H locs hw => ?_)
      exact r_i cx hr hlocks hw (pr1 h) (congrArg (fun z0 => (XC g q z0)) (pr2 h)) dX4_lays_30
  · replace h := sel_s h
    refine c_V (As := [.int p1]) (rest := []) (w' := (XC g q d)) cx hw (c_X4_sheetAt l g q N p1 d (some 3) g2) (cl_X4_219 cx.1.2.2.2.2 ⟨Nat.le_of_ble_eq_true rfl, Nat.le_of_ble_eq_true rfl⟩) (x_recv cx hw (ci := 4) rfl 0 rfl) (Ct.all (XC_ll ..)) hl.1 rfl rfl (Nat.le_of_ble_eq_true rfl) dX4_lays_2 ⟨Nat.le_of_ble_eq_true rfl, Nat.le_of_ble_eq_true rfl⟩ (st1 := [.ref (qs 51 q 0)]) rfl (fun H locs hw => ?_)
    refine lv_astore_n (lv' := [(3, .ref (qs 51 q 0)), (0, .ref (q 0)), (1, .int p1), (2, .int p2)]) hx hb dX4_lays_5 rfl hl (by decide) rfl (fun ls hl => ?_)
    refine lv_aload_n hx hb dX4_lays_6 rfl (lv_at hl 0 rfl) ?_
    refine lv_ifnonnull (tgt := 17) hx hb dX4_lays_7 (by decide) ?_
    refine lv_aload_n hx hb dX4_lays_17 rfl (lv_at hl 0 rfl) ?_
    obtain ⟨x77, g78, h⟩ := bd_ex h
    refine c_V (As := []) (rest := []) (w' := (XC g q d)) cx hw (c_X0_isMissing l g (qs 51 q) N  (sAt (x_sheets d) 3) x77 g78) (cl_X4_227 cx.1.2.2.2.2 ⟨Nat.le_of_ble_eq_true rfl, Nat.le_of_ble_eq_true rfl⟩) (x_recv cx hw (ci := 0) rfl 51 rfl) (ct_X__51_52__S g q d ) hl.1 rfl rfl (Nat.le_of_ble_eq_true rfl) dX4_lays_18 ⟨Nat.le_of_ble_eq_true rfl, Nat.le_of_ble_eq_true rfl⟩ (st1 := [.int x77]) rfl (fun H locs hw => ?_)
    refine lv_if_eq (tgt := 31) hx hb dX4_lays_21 (by decide) (fun c79 => ?_) (fun c79 => ?_)
    · replace h := ite_t c79 h
      refine lv_aload_n hx hb dX4_lays_31 rfl (lv_at hl 1 rfl) ?_
      refine lv_iload_n hx hb dX4_lays_32 rfl (lv_at hl 3 rfl) ?_
      obtain ⟨x80, g81, h⟩ := bd_ex h
      refine c_V (As := [.int p2]) (rest := []) (w' := (XC g q d)) cx hw (c_X4_isOne l g q N p2 d x80 g81) (cl_X4_72 cx.1.2.2.2.2 ⟨Nat.le_of_ble_eq_true rfl, Nat.le_of_ble_eq_true rfl⟩) (x_recv cx hw (ci := 4) rfl 0 rfl) (Ct.all (XC_ll ..)) hl.1 rfl rfl (Nat.le_of_ble_eq_true rfl) dX4_lays_33 ⟨Nat.le_of_ble_eq_true rfl, Nat.le_of_ble_eq_true rfl⟩ (st1 := [.int x80]) rfl (fun H locs hw => ?_)
      refine lv_if_ne (tgt := 46) hx hb dX4_lays_36 (by decide) (fun c82 => ?_) (fun c82 => ?_)
      · replace h := ite_f c82 h
        refine lv_aload_n hx hb dX4_lays_46 rfl (lv_at hl 0 rfl) ?_
        obtain ⟨x83, g84, h⟩ := bd_ex h
        refine c_V (As := []) (rest := []) (w' := (XC g q d)) cx hw (c_X0_marksTold l g (qs 51 q) N  (sAt (x_sheets d) 3) x83 g84) (cl_X4_255 cx.1.2.2.2.2 ⟨Nat.le_of_ble_eq_true rfl, Nat.le_of_ble_eq_true rfl⟩) (x_recv cx hw (ci := 0) rfl 51 rfl) (ct_X__51_52__S g q d ) hl.1 rfl rfl (Nat.le_of_ble_eq_true rfl) dX4_lays_47 ⟨Nat.le_of_ble_eq_true rfl, Nat.le_of_ble_eq_true rfl⟩ (st1 := [.int x83]) rfl (fun H locs hw => ?_)
        refine lv_istore (lv' := [(4, .int x83), (3, .ref (qs 51 q 0)), (0, .ref (q 0)), (1, .int p1), (2, .int p2)]) hx hb dX4_lays_50 hl (by decide) rfl (fun ls hl => ?_)
        refine lv_aload_n hx hb dX4_lays_52 rfl (lv_at hl 2 rfl) ?_
        refine gf_X4_12 cx hw 0 rfl rfl dX4_lays_53 ?_
        refine gf_X4_102 cx hw 1 rfl rfl dX4_lays_56 ?_
        refine lv_iload_n hx hb dX4_lays_59 rfl (lv_at hl 4 rfl) ?_
        refine lv_aload_n hx hb dX4_lays_60 rfl (lv_at hl 2 rfl) ?_
        refine gf_X4_12 cx hw 0 rfl rfl dX4_lays_61 ?_
        refine gf_X4_102 cx hw 1 rfl rfl dX4_lays_64 ?_
        refine lv_iload_n hx hb dX4_lays_67 rfl (lv_at hl 4 rfl) ?_
        have ix85 := rd_in h
        refine x_iald cx hw 11 rfl ix85 dX4_lays_68 ?_
        refine lv_topi (fun x85 ex85 => ?_)
        replace h := rd_nx ex85 h
        refine lv_aload_n hx hb dX4_lays_69 rfl (lv_at hl 1 rfl) ?_
        obtain ⟨x86, g87, h⟩ := bd_ex h
        refine c_V (As := []) (rest := [.int x85, .int p2, .ref (qs 1 q 10)]) (w' := (XC g q d)) cx hw (c_X0_lookTold l g (qs 51 q) N  (sAt (x_sheets d) 3) x86 g87) (cl_X4_258 cx.1.2.2.2.2 ⟨Nat.le_of_ble_eq_true rfl, Nat.le_of_ble_eq_true rfl⟩) (x_recv cx hw (ci := 0) rfl 51 rfl) (ct_X__51_52__S g q d ) hl.1 rfl rfl (Nat.le_of_ble_eq_true rfl) dX4_lays_70 ⟨Nat.le_of_ble_eq_true rfl, Nat.le_of_ble_eq_true rfl⟩ (st1 := [.int x86, .int x85, .int p2, .ref (qs 1 q 10)]) rfl (fun H locs hw => ?_)
        refine lv_iload hx hb dX4_lays_73 (lv_at hl 0 rfl) ?_
        obtain ⟨x88, g89, h⟩ := bd_ex h
        refine c_S (As := [.int x85, .int x86, .int x83]) (rest := [.int p2, .ref (qs 1 q 10)]) (w' := (XC g q d)) cx hw (c_X4_copied l g  N x85 x86 x83  x88 g89) (cl_X4_180 cx.1.2.2.2.2 ⟨Nat.le_of_ble_eq_true rfl, Nat.le_of_ble_eq_true rfl⟩) Ct.nil hl.1 rfl rfl (Nat.le_of_ble_eq_true rfl) dX4_lays_75 ⟨Nat.le_of_ble_eq_true rfl, Nat.le_of_ble_eq_true rfl⟩ (st1 := [.int x88, .int p2, .ref (qs 1 q 10)]) rfl (fun H locs hw => ?_)
        have i90 := ck_in h
        replace h := ck_nx h
        refine x_iast cx hw 11 rfl i90 dX4_lays_78 (fun H locs hw => ?_)
        obtain ⟨d91, ed91, h⟩ := lt_ex h
        have hw : Wd g (va_A ((XC g q d)) s.heap.size) ((XC g q d91)) s H locs := by rw [ed91]; exact hw
        refine lv_iload hx hb dX4_lays_79 (lv_at hl 0 rfl) ?_
        obtain ⟨x92, g93, h⟩ := bd_ex h
        refine c_S (As := [.int x83]) (rest := []) (w' := (XC g q d91)) cx hw (c_J6_bitCount_0f7a4 l g  N x83  x92 g93) (cl_X4_126 cx.1.2.2.2.2 ⟨Nat.le_of_ble_eq_true rfl, Nat.le_of_ble_eq_true rfl⟩) Ct.nil hl.1 rfl rfl (Nat.le_of_ble_eq_true rfl) dX4_lays_81 ⟨Nat.le_of_ble_eq_true rfl, Nat.le_of_ble_eq_true rfl⟩ (st1 := [.int x92]) rfl (fun H locs hw => ?_)
        exact r_i cx hr hlocks hw (pr1 h) (congrArg (fun z0 => (XC g q z0)) (pr2 h)) dX4_lays_84
      · replace h := ite_t c82 h
        refine lv_aload_n hx hb dX4_lays_39 rfl (lv_at hl 1 rfl) ?_
        refine lv_ldc hx hb cx.1.2.2.2.1 (cx.1.2.2.2.2 _ tw_1_202) dX4_lays_40 ?_
        obtain ⟨x94, d95, g96, h⟩ := bd2_ex h
        refine c_V (As := [.int (-1000000001 : Int32)]) (rest := []) (w' := (XC g q d95)) cx hw (c_X4_tell l g q N (-1000000001 : Int32) d x94 d95 g96) (cl_X4_45 cx.1.2.2.2.2 ⟨Nat.le_of_ble_eq_true rfl, Nat.le_of_ble_eq_true rfl⟩) (x_recv cx hw (ci := 4) rfl 0 rfl) (Ct.all (XC_ll ..)) hl.1 rfl rfl (Nat.le_of_ble_eq_true rfl) dX4_lays_42 ⟨Nat.le_of_ble_eq_true rfl, Nat.le_of_ble_eq_true rfl⟩ (st1 := [.int x94]) rfl (fun H locs hw => ?_)
        exact r_i cx hr hlocks hw (pr1 h) (congrArg (fun z0 => (XC g q z0)) (pr2 h)) dX4_lays_45
    · replace h := ite_f c79 h
      refine lv_aload_n hx hb dX4_lays_24 rfl (lv_at hl 1 rfl) ?_
      refine lv_ldc hx hb cx.1.2.2.2.1 (cx.1.2.2.2.2 _ tw_3_177) dX4_lays_25 ?_
      obtain ⟨x97, d98, g99, h⟩ := bd2_ex h
      refine c_V (As := [.int (-1000000006 : Int32)]) (rest := []) (w' := (XC g q d98)) cx hw (c_X4_tell l g q N (-1000000006 : Int32) d x97 d98 g99) (cl_X4_45 cx.1.2.2.2.2 ⟨Nat.le_of_ble_eq_true rfl, Nat.le_of_ble_eq_true rfl⟩) (x_recv cx hw (ci := 4) rfl 0 rfl) (Ct.all (XC_ll ..)) hl.1 rfl rfl (Nat.le_of_ble_eq_true rfl) dX4_lays_27 ⟨Nat.le_of_ble_eq_true rfl, Nat.le_of_ble_eq_true rfl⟩ (st1 := [.int x97]) rfl (fun H locs hw => ?_)
      exact r_i cx hr hlocks hw (pr1 h) (congrArg (fun z0 => (XC g q z0)) (pr2 h)) dX4_lays_30
set_option maxHeartbeats 4000000 in
set_option maxRecDepth 100000 in
theorem c_X4_book (l : Launch) (g : gE) (q : Nat → Nat) (N : Nat) (p1 : Int32) (p2 : Int32) (d : XD) (r : Int32) (d' : XD) (h : f_X4_book N  p1 p2 d = some (r, d')) : MO l yX4_book (Cond.code yX4_book cX4_book 6 (some .int) :: TB) rm_X4_book [.ref (q 0), .int p1, .int p2] g ((XC g q d)) ((XC g q d')) (some (.int r)) 0 0 := by
  refine MO.of (cc := cX4_book) (maxL := 6) (ret := (some .int)) (by decide) ?_
  intro p e s m below meth c cx hw hr hlocks _
  have hx := cx.1.1
  have hb := cx.1.2.1
  refine en_go (lv := [(0, .ref (q 0)), (1, .int p1), (2, .int p2)]) (Nat.le_of_ble_eq_true rfl) rfl (fun ls hl => ?_)
  unfold f_X4_book at h
  refine lv_aload_n hx hb dX4_book_0 rfl (lv_at hl 0 rfl) ?_
  refine lv_iload_n hx hb dX4_book_1 rfl (lv_at hl 1 rfl) ?_
  obtain ⟨r1, g2, h⟩ := bd_ex h
  rcases sh_cases g2 with e4 | e4 | e4 | e4 | e4 <;> subst e4
  · replace h := sel_n h
    refine c_V (As := [.int p1]) (rest := []) (w' := (XC g q d)) cx hw (c_X4_sheetAt l g q N p1 d none g2) (cl_X4_219 cx.1.2.2.2.2 ⟨Nat.le_of_ble_eq_true rfl, Nat.le_of_ble_eq_true rfl⟩) (x_recv cx hw (ci := 4) rfl 0 rfl) (Ct.all (XC_ll ..)) hl.1 rfl rfl (Nat.le_of_ble_eq_true rfl) dX4_book_2 ⟨Nat.le_of_ble_eq_true rfl, Nat.le_of_ble_eq_true rfl⟩ (st1 := [.null]) rfl (fun H locs hw => ?_)
    refine lv_astore_nN (lv' := [(3, .null), (0, .ref (q 0)), (1, .int p1), (2, .int p2)]) hx hb dX4_book_5 rfl hl (by decide) rfl (fun ls hl => ?_)
    refine lv_aload_nN hx hb dX4_book_6 rfl (lv_at hl 0 rfl) ?_
    refine lv_ifnonnullN hx hb dX4_book_7 ?_
    refine lv_aload_n hx hb dX4_book_10 rfl (lv_at hl 1 rfl) ?_
    refine lv_ldc hx hb cx.1.2.2.2.1 (cx.1.2.2.2.2 _ tw_1_202) dX4_book_11 ?_
    obtain ⟨x5, d6, g7, h⟩ := bd2_ex h
    refine c_V (As := [.int (-1000000001 : Int32)]) (rest := []) (w' := (XC g q d6)) cx hw (c_X4_tell l g q N (-1000000001 : Int32) d x5 d6 g7) (cl_X4_45 cx.1.2.2.2.2 ⟨Nat.le_of_ble_eq_true rfl, Nat.le_of_ble_eq_true rfl⟩) (x_recv cx hw (ci := 4) rfl 0 rfl) (Ct.all (XC_ll ..)) hl.1 rfl rfl (Nat.le_of_ble_eq_true rfl) dX4_book_13 ⟨Nat.le_of_ble_eq_true rfl, Nat.le_of_ble_eq_true rfl⟩ (st1 := [.int x5]) rfl (fun H locs hw => ?_)
    exact r_i cx hr hlocks hw (pr1 h) (congrArg (fun z0 => (XC g q z0)) (pr2 h)) dX4_book_16
  · replace h := sel_s h
    refine c_V (As := [.int p1]) (rest := []) (w' := (XC g q d)) cx hw (c_X4_sheetAt l g q N p1 d (some 0) g2) (cl_X4_219 cx.1.2.2.2.2 ⟨Nat.le_of_ble_eq_true rfl, Nat.le_of_ble_eq_true rfl⟩) (x_recv cx hw (ci := 4) rfl 0 rfl) (Ct.all (XC_ll ..)) hl.1 rfl rfl (Nat.le_of_ble_eq_true rfl) dX4_book_2 ⟨Nat.le_of_ble_eq_true rfl, Nat.le_of_ble_eq_true rfl⟩ (st1 := [.ref (qs 45 q 0)]) rfl (fun H locs hw => ?_)
    have L102 : ∀ (n102 : Nat) (a4 : Int32) (a5 : Int32) (d_ : XD) (H : Heap) (locs : List Loc) (ls : Array Slot), Wd g (va_A ((XC g q d)) s.heap.size) ((XC g q d_)) s H locs → lv_has ls 6 [(0, .ref (q 0)), (3, .ref (qs 45 q 0)), (4, .int a4), (5, .int a5)] → f_X4_book_L102 N 0  n102 a4 a5 d_ = some (r, d') → W p l e rm_X4_book s m ([.ref (q 0), .int p1, .int p2] : List Value).toArray below meth c H locs 0 0 (MQ below (QO (some (.int r)) g ((XC g q d')) (va_A ((XC g q d)) s.heap.size)) ([.ref (q 0), .int p1, .int p2] : List Value).toArray s 0 0 (va_A ((XC g q d)) s.heap.size)) (F0 m 102 ls []) := by
      intro n102
      induction n102 with
      | zero => intro a4 a5 d_ H locs ls hw hl h; exact (Option.some_ne_none _ h.symm).elim
      | succ n102 ih102 =>
        intro a4 a5 d_ H locs ls hw hl h
        rw [f_X4_book_L102] at h
        refine lv_iload hx hb dX4_book_102 (lv_at hl 3 rfl) ?_
        refine lv_iload hx hb dX4_book_104 (lv_at hl 2 rfl) ?_
        refine lv_icmp_ge (tgt := 132) hx hb dX4_book_106 (by decide) (fun c42 => ?_) (fun c42 => ?_)
        · replace h := ite_t c42 h
          refine lv_iload hx hb dX4_book_132 (lv_at hl 2 rfl) ?_
          exact r_i cx hr hlocks hw (pr1 h) (congrArg (fun z0 => (XC g q z0)) (pr2 h)) dX4_book_134
        · replace h := ite_f c42 h
          refine lv_aload_n hx hb dX4_book_109 rfl (lv_at hl 1 rfl) ?_
          refine lv_iload hx hb dX4_book_110 (lv_at hl 3 rfl) ?_
          refine lv_aload_n hx hb dX4_book_112 rfl (lv_at hl 0 rfl) ?_
          refine gf_X4_19 cx hw 0 rfl rfl dX4_book_113 ?_
          refine lv_iload hx hb dX4_book_116 (lv_at hl 3 rfl) ?_
          obtain ⟨x43, g44, h⟩ := bd_ex h
          refine c_V (As := [.int a5]) (rest := [.int a5, .ref (qs 45 q 0)]) (w' := (XC g q d_)) cx hw (c_X3_heirFor l g (qs 27 q) N a5 (x_trial d_) x43 g44) (cl_X4_131 cx.1.2.2.2.2 ⟨Nat.le_of_ble_eq_true rfl, Nat.le_of_ble_eq_true rfl⟩) (x_recv cx hw (ci := 3) rfl 27 rfl) (ct_X__27_28_29_30_31_32_33_34_35_36_37_38_39__V g q d_ ) hl.1 rfl rfl (Nat.le_of_ble_eq_true rfl) dX4_book_118 ⟨Nat.le_of_ble_eq_true rfl, Nat.le_of_ble_eq_true rfl⟩ (st1 := [.int x43, .int a5, .ref (qs 45 q 0)]) rfl (fun H locs hw => ?_)
          refine lv_i2l hx hb dX4_book_121 rfl ?_
          obtain ⟨x45, d46, g47, h⟩ := bd2_ex h
          refine c_V (As := [.int a5, .long ((x43).toInt64)]) (rest := []) (w' := (XC g q (x_set_sheets d_ (sPut (x_sheets d_) 0 d46)))) cx hw (c_X0_put l g (qs 45 q) N a5 ((x43).toInt64) (sAt (x_sheets d_) 0) x45 d46 g47) (cl_X4_235 cx.1.2.2.2.2 ⟨Nat.le_of_ble_eq_true rfl, Nat.le_of_ble_eq_true rfl⟩) (x_recv cx hw (ci := 0) rfl 45 rfl) (ct_X__45_46__S_0 g q d_ d46) hl.1 rfl rfl (Nat.le_of_ble_eq_true rfl) dX4_book_122 ⟨Nat.le_of_ble_eq_true rfl, Nat.le_of_ble_eq_true rfl⟩ (st1 := [.long x45]) rfl (fun H locs hw => ?_)
          obtain ⟨d48, ed48, h⟩ := lt_ex h
          have hw : Wd g (va_A ((XC g q d)) s.heap.size) ((XC g q d48)) s H locs := by rw [ed48]; exact hw
          refine lv_pop2_2 hx hb dX4_book_125 rfl ?_
          obtain ⟨x49, ex49⟩ : ∃ y : Int32, y = (a5 + 1) := ⟨_, rfl⟩
          replace h := lt_nx ex49 h
          refine lv_iinc (v := x49) (lv' := [(5, .int x49), (0, .ref (q 0)), (3, .ref (qs 45 q 0)), (4, .int a4)]) hx hb dX4_book_126 hl (k := 3) rfl (by rw [ex49]; rfl) (by decide) rfl (fun ls hl => ?_)
          refine lv_goto (tgt := 102) hx hb dX4_book_129 (by decide) ?_
          exact ih102 a4 x49 d48 _ _ _ hw (lv_sub hl [1, 2, 3, 0] rfl) h
    refine lv_astore_n (lv' := [(3, .ref (qs 45 q 0)), (0, .ref (q 0)), (1, .int p1), (2, .int p2)]) hx hb dX4_book_5 rfl hl (by decide) rfl (fun ls hl => ?_)
    refine lv_aload_n hx hb dX4_book_6 rfl (lv_at hl 0 rfl) ?_
    refine lv_ifnonnull (tgt := 17) hx hb dX4_book_7 (by decide) ?_
    refine lv_aload_n hx hb dX4_book_17 rfl (lv_at hl 0 rfl) ?_
    obtain ⟨x8, g9, h⟩ := bd_ex h
    refine c_V (As := []) (rest := []) (w' := (XC g q d)) cx hw (c_X0_isMissing l g (qs 45 q) N  (sAt (x_sheets d) 0) x8 g9) (cl_X4_227 cx.1.2.2.2.2 ⟨Nat.le_of_ble_eq_true rfl, Nat.le_of_ble_eq_true rfl⟩) (x_recv cx hw (ci := 0) rfl 45 rfl) (ct_X__45_46__S g q d ) hl.1 rfl rfl (Nat.le_of_ble_eq_true rfl) dX4_book_18 ⟨Nat.le_of_ble_eq_true rfl, Nat.le_of_ble_eq_true rfl⟩ (st1 := [.int x8]) rfl (fun H locs hw => ?_)
    refine lv_if_eq (tgt := 31) hx hb dX4_book_21 (by decide) (fun c10 => ?_) (fun c10 => ?_)
    · replace h := ite_t c10 h
      refine lv_iload_n hx hb dX4_book_31 rfl (lv_at hl 3 rfl) ?_
      refine lv_iconst (v := 0) hx hb dX4_book_32 (by decide) ?_
      refine lv_bipush (v := 100) hx hb dX4_book_33 (by decide) ?_
      obtain ⟨x11, g12, h⟩ := bd_ex h
      refine c_S (As := [.int p2, .int (0 : Int32), .int (100 : Int32)]) (rest := []) (w' := (XC g q d)) cx hw (c_X4_isWithin l g  N p2 (0 : Int32) (100 : Int32)  x11 g12) (cl_X4_40 cx.1.2.2.2.2 ⟨Nat.le_of_ble_eq_true rfl, Nat.le_of_ble_eq_true rfl⟩) Ct.nil hl.1 rfl rfl (Nat.le_of_ble_eq_true rfl) dX4_book_35 ⟨Nat.le_of_ble_eq_true rfl, Nat.le_of_ble_eq_true rfl⟩ (st1 := [.int x11]) rfl (fun H locs hw => ?_)
      refine lv_if_ne (tgt := 48) hx hb dX4_book_38 (by decide) (fun c13 => ?_) (fun c13 => ?_)
      · replace h := ite_f c13 h
        refine lv_aload_n hx hb dX4_book_48 rfl (lv_at hl 1 rfl) ?_
        refine lv_iload_n hx hb dX4_book_49 rfl (lv_at hl 3 rfl) ?_
        obtain ⟨x14, g15, h⟩ := bd_ex h
        refine c_V (As := [.int p2]) (rest := []) (w' := (XC g q d)) cx hw (c_X4_isTooLate l g q N p2 d x14 g15) (cl_X4_144 cx.1.2.2.2.2 ⟨Nat.le_of_ble_eq_true rfl, Nat.le_of_ble_eq_true rfl⟩) (x_recv cx hw (ci := 4) rfl 0 rfl) (Ct.all (XC_ll ..)) hl.1 rfl rfl (Nat.le_of_ble_eq_true rfl) dX4_book_50 ⟨Nat.le_of_ble_eq_true rfl, Nat.le_of_ble_eq_true rfl⟩ (st1 := [.int x14]) rfl (fun H locs hw => ?_)
        refine lv_if_eq (tgt := 63) hx hb dX4_book_53 (by decide) (fun c16 => ?_) (fun c16 => ?_)
        · replace h := ite_t c16 h
          refine lv_aload_n hx hb dX4_book_63 rfl (lv_at hl 1 rfl) ?_
          refine gf_X4_19 cx hw 0 rfl rfl dX4_book_64 ?_
          refine lv_aload_n hx hb dX4_book_67 rfl (lv_at hl 1 rfl) ?_
          refine gf_X4_12 cx hw 0 rfl rfl dX4_book_68 ?_
          obtain ⟨d17, g18, h⟩ := bd_ex h
          refine c_V (As := [.ref (qs 1 q 0)]) (rest := []) (w' := (XC g q (x_set_trial d d17))) cx hw (c_X3_takeFrom l g (qs 27 q) (qs 1 q) N  (x_trial d) (x_valley d) d17 g18) (cl_X4_164 cx.1.2.2.2.2 ⟨Nat.le_of_ble_eq_true rfl, Nat.le_of_ble_eq_true rfl⟩) (x_recv cx hw (ci := 3) rfl 27 rfl) (ct_X__27_28_29_30_31_32_33_34_35_36_37_38_39_1_2_3_4_5_6_7_8_9_10_11_12_13__V_V_0 g q d d17) hl.1 rfl rfl (Nat.le_of_ble_eq_true rfl) dX4_book_71 ⟨Nat.le_of_ble_eq_true rfl, Nat.le_of_ble_eq_true rfl⟩ (st1 := []) rfl (fun H locs hw => ?_)
          obtain ⟨d19, ed19, h⟩ := lt_ex h
          have hw : Wd g (va_A ((XC g q d)) s.heap.size) ((XC g q d19)) s H locs := by rw [ed19]; exact hw
          refine lv_aload_n hx hb dX4_book_74 rfl (lv_at hl 1 rfl) ?_
          refine gf_X4_19 cx hw 0 rfl rfl dX4_book_75 ?_
          refine lv_iload_n hx hb dX4_book_78 rfl (lv_at hl 3 rfl) ?_
          obtain ⟨x20, d21, g22, h⟩ := bd2_ex h
          refine c_V (As := [.int p2]) (rest := []) (w' := (XC g q (x_set_trial d19 d21))) cx hw (c_X3_goYears l g (qs 27 q) N p2 (x_trial d19) x20 d21 g22) (cl_X4_148 cx.1.2.2.2.2 ⟨Nat.le_of_ble_eq_true rfl, Nat.le_of_ble_eq_true rfl⟩) (x_recv cx hw (ci := 3) rfl 27 rfl) (ct_X__27_28_29_30_31_32_33_34_35_36_37_38_39__V_0 g q d19 d21) hl.1 rfl rfl (Nat.le_of_ble_eq_true rfl) dX4_book_79 ⟨Nat.le_of_ble_eq_true rfl, Nat.le_of_ble_eq_true rfl⟩ (st1 := [.int x20]) rfl (fun H locs hw => ?_)
          obtain ⟨d23, ed23, h⟩ := lt_ex h
          have hw : Wd g (va_A ((XC g q d)) s.heap.size) ((XC g q d23)) s H locs := by rw [ed23]; exact hw
          refine lv_pop hx hb dX4_book_82 rfl ?_
          refine lv_aload_n hx hb dX4_book_83 rfl (lv_at hl 1 rfl) ?_
          refine gf_X4_19 cx hw 0 rfl rfl dX4_book_84 ?_
          refine gf_X4_261 cx hw 27 rfl rfl dX4_book_87 ?_
          refine lv_aload_n hx hb dX4_book_90 rfl (lv_at hl 0 rfl) ?_
          refine gf_X4_232 cx hw 45 rfl rfl dX4_book_91 ?_
          refine va_mmin hx hb (cx.1.2.2.1.trans hl.1.symm) cx.1.2.2.2.1 (cx.1.2.2.2.2 _ tw_2_210) (cx.1.2.2.2.2 _ tw_2_142) (cx.1.2.2.2.2 _ tw_1_9) (cx.1.2.2.2.2 _ tw_2_143) (Nat.le_of_ble_eq_true rfl) (Nat.le_of_ble_eq_true rfl) (Nat.le_of_ble_eq_true rfl) (Nat.le_of_ble_eq_true rfl) dX4_book_94 ?_
          refine lv_topi (fun x24 ex24 => ?_)
          replace h := lt_nx ex24 h
          refine lv_istore (lv' := [(4, .int x24), (3, .ref (qs 45 q 0)), (0, .ref (q 0)), (1, .int p1), (2, .int p2)]) hx hb dX4_book_97 hl (by decide) rfl (fun ls hl => ?_)
          refine lv_iconst (v := 0) hx hb dX4_book_99 (by decide) ?_
          refine lv_istore (lv' := [(5, .int (0 : Int32)), (4, .int x24), (3, .ref (qs 45 q 0)), (0, .ref (q 0)), (1, .int p1), (2, .int p2)]) hx hb dX4_book_100 hl (by decide) rfl (fun ls hl => ?_)
          exact L102 N x24 (0 : Int32) d23 _ _ _ hw (lv_sub hl [3, 2, 1, 0] rfl) h
        · replace h := ite_f c16 h
          refine lv_aload_n hx hb dX4_book_56 rfl (lv_at hl 1 rfl) ?_
          refine lv_ldc hx hb cx.1.2.2.2.1 (cx.1.2.2.2.2 _ tw_2_130) dX4_book_57 ?_
          obtain ⟨x25, d26, g27, h⟩ := bd2_ex h
          refine c_V (As := [.int (-1000000005 : Int32)]) (rest := []) (w' := (XC g q d26)) cx hw (c_X4_tell l g q N (-1000000005 : Int32) d x25 d26 g27) (cl_X4_45 cx.1.2.2.2.2 ⟨Nat.le_of_ble_eq_true rfl, Nat.le_of_ble_eq_true rfl⟩) (x_recv cx hw (ci := 4) rfl 0 rfl) (Ct.all (XC_ll ..)) hl.1 rfl rfl (Nat.le_of_ble_eq_true rfl) dX4_book_59 ⟨Nat.le_of_ble_eq_true rfl, Nat.le_of_ble_eq_true rfl⟩ (st1 := [.int x25]) rfl (fun H locs hw => ?_)
          exact r_i cx hr hlocks hw (pr1 h) (congrArg (fun z0 => (XC g q z0)) (pr2 h)) dX4_book_62
      · replace h := ite_t c13 h
        refine lv_aload_n hx hb dX4_book_41 rfl (lv_at hl 1 rfl) ?_
        refine lv_ldc hx hb cx.1.2.2.2.1 (cx.1.2.2.2.2 _ tw_1_202) dX4_book_42 ?_
        obtain ⟨x28, d29, g30, h⟩ := bd2_ex h
        refine c_V (As := [.int (-1000000001 : Int32)]) (rest := []) (w' := (XC g q d29)) cx hw (c_X4_tell l g q N (-1000000001 : Int32) d x28 d29 g30) (cl_X4_45 cx.1.2.2.2.2 ⟨Nat.le_of_ble_eq_true rfl, Nat.le_of_ble_eq_true rfl⟩) (x_recv cx hw (ci := 4) rfl 0 rfl) (Ct.all (XC_ll ..)) hl.1 rfl rfl (Nat.le_of_ble_eq_true rfl) dX4_book_44 ⟨Nat.le_of_ble_eq_true rfl, Nat.le_of_ble_eq_true rfl⟩ (st1 := [.int x28]) rfl (fun H locs hw => ?_)
        exact r_i cx hr hlocks hw (pr1 h) (congrArg (fun z0 => (XC g q z0)) (pr2 h)) dX4_book_47
    · replace h := ite_f c10 h
      refine lv_aload_n hx hb dX4_book_24 rfl (lv_at hl 1 rfl) ?_
      refine lv_ldc hx hb cx.1.2.2.2.1 (cx.1.2.2.2.2 _ tw_3_177) dX4_book_25 ?_
      obtain ⟨x31, d32, g33, h⟩ := bd2_ex h
      refine c_V (As := [.int (-1000000006 : Int32)]) (rest := []) (w' := (XC g q d32)) cx hw (c_X4_tell l g q N (-1000000006 : Int32) d x31 d32 g33) (cl_X4_45 cx.1.2.2.2.2 ⟨Nat.le_of_ble_eq_true rfl, Nat.le_of_ble_eq_true rfl⟩) (x_recv cx hw (ci := 4) rfl 0 rfl) (Ct.all (XC_ll ..)) hl.1 rfl rfl (Nat.le_of_ble_eq_true rfl) dX4_book_27 ⟨Nat.le_of_ble_eq_true rfl, Nat.le_of_ble_eq_true rfl⟩ (st1 := [.int x31]) rfl (fun H locs hw => ?_)
      exact r_i cx hr hlocks hw (pr1 h) (congrArg (fun z0 => (XC g q z0)) (pr2 h)) dX4_book_30
  · replace h := sel_s h
    refine c_V (As := [.int p1]) (rest := []) (w' := (XC g q d)) cx hw (c_X4_sheetAt l g q N p1 d (some 1) g2) (cl_X4_219 cx.1.2.2.2.2 ⟨Nat.le_of_ble_eq_true rfl, Nat.le_of_ble_eq_true rfl⟩) (x_recv cx hw (ci := 4) rfl 0 rfl) (Ct.all (XC_ll ..)) hl.1 rfl rfl (Nat.le_of_ble_eq_true rfl) dX4_book_2 ⟨Nat.le_of_ble_eq_true rfl, Nat.le_of_ble_eq_true rfl⟩ (st1 := [.ref (qs 47 q 0)]) rfl (fun H locs hw => ?_)
    have L102 : ∀ (n102 : Nat) (a4 : Int32) (a5 : Int32) (d_ : XD) (H : Heap) (locs : List Loc) (ls : Array Slot), Wd g (va_A ((XC g q d)) s.heap.size) ((XC g q d_)) s H locs → lv_has ls 6 [(0, .ref (q 0)), (3, .ref (qs 47 q 0)), (4, .int a4), (5, .int a5)] → f_X4_book_L102 N 1  n102 a4 a5 d_ = some (r, d') → W p l e rm_X4_book s m ([.ref (q 0), .int p1, .int p2] : List Value).toArray below meth c H locs 0 0 (MQ below (QO (some (.int r)) g ((XC g q d')) (va_A ((XC g q d)) s.heap.size)) ([.ref (q 0), .int p1, .int p2] : List Value).toArray s 0 0 (va_A ((XC g q d)) s.heap.size)) (F0 m 102 ls []) := by
      intro n102
      induction n102 with
      | zero => intro a4 a5 d_ H locs ls hw hl h; exact (Option.some_ne_none _ h.symm).elim
      | succ n102 ih102 =>
        intro a4 a5 d_ H locs ls hw hl h
        rw [f_X4_book_L102] at h
        refine lv_iload hx hb dX4_book_102 (lv_at hl 3 rfl) ?_
        refine lv_iload hx hb dX4_book_104 (lv_at hl 2 rfl) ?_
        refine lv_icmp_ge (tgt := 132) hx hb dX4_book_106 (by decide) (fun c84 => ?_) (fun c84 => ?_)
        · replace h := ite_t c84 h
          refine lv_iload hx hb dX4_book_132 (lv_at hl 2 rfl) ?_
          exact r_i cx hr hlocks hw (pr1 h) (congrArg (fun z0 => (XC g q z0)) (pr2 h)) dX4_book_134
        · replace h := ite_f c84 h
          refine lv_aload_n hx hb dX4_book_109 rfl (lv_at hl 1 rfl) ?_
          refine lv_iload hx hb dX4_book_110 (lv_at hl 3 rfl) ?_
          refine lv_aload_n hx hb dX4_book_112 rfl (lv_at hl 0 rfl) ?_
          refine gf_X4_19 cx hw 0 rfl rfl dX4_book_113 ?_
          refine lv_iload hx hb dX4_book_116 (lv_at hl 3 rfl) ?_
          obtain ⟨x85, g86, h⟩ := bd_ex h
          refine c_V (As := [.int a5]) (rest := [.int a5, .ref (qs 47 q 0)]) (w' := (XC g q d_)) cx hw (c_X3_heirFor l g (qs 27 q) N a5 (x_trial d_) x85 g86) (cl_X4_131 cx.1.2.2.2.2 ⟨Nat.le_of_ble_eq_true rfl, Nat.le_of_ble_eq_true rfl⟩) (x_recv cx hw (ci := 3) rfl 27 rfl) (ct_X__27_28_29_30_31_32_33_34_35_36_37_38_39__V g q d_ ) hl.1 rfl rfl (Nat.le_of_ble_eq_true rfl) dX4_book_118 ⟨Nat.le_of_ble_eq_true rfl, Nat.le_of_ble_eq_true rfl⟩ (st1 := [.int x85, .int a5, .ref (qs 47 q 0)]) rfl (fun H locs hw => ?_)
          refine lv_i2l hx hb dX4_book_121 rfl ?_
          obtain ⟨x87, d88, g89, h⟩ := bd2_ex h
          refine c_V (As := [.int a5, .long ((x85).toInt64)]) (rest := []) (w' := (XC g q (x_set_sheets d_ (sPut (x_sheets d_) 1 d88)))) cx hw (c_X0_put l g (qs 47 q) N a5 ((x85).toInt64) (sAt (x_sheets d_) 1) x87 d88 g89) (cl_X4_235 cx.1.2.2.2.2 ⟨Nat.le_of_ble_eq_true rfl, Nat.le_of_ble_eq_true rfl⟩) (x_recv cx hw (ci := 0) rfl 47 rfl) (ct_X__47_48__S_0 g q d_ d88) hl.1 rfl rfl (Nat.le_of_ble_eq_true rfl) dX4_book_122 ⟨Nat.le_of_ble_eq_true rfl, Nat.le_of_ble_eq_true rfl⟩ (st1 := [.long x87]) rfl (fun H locs hw => ?_)
          obtain ⟨d90, ed90, h⟩ := lt_ex h
          have hw : Wd g (va_A ((XC g q d)) s.heap.size) ((XC g q d90)) s H locs := by rw [ed90]; exact hw
          refine lv_pop2_2 hx hb dX4_book_125 rfl ?_
          obtain ⟨x91, ex91⟩ : ∃ y : Int32, y = (a5 + 1) := ⟨_, rfl⟩
          replace h := lt_nx ex91 h
          refine lv_iinc (v := x91) (lv' := [(5, .int x91), (0, .ref (q 0)), (3, .ref (qs 47 q 0)), (4, .int a4)]) hx hb dX4_book_126 hl (k := 3) rfl (by rw [ex91]; rfl) (by decide) rfl (fun ls hl => ?_)
          refine lv_goto (tgt := 102) hx hb dX4_book_129 (by decide) ?_
          exact ih102 a4 x91 d90 _ _ _ hw (lv_sub hl [1, 2, 3, 0] rfl) h
    refine lv_astore_n (lv' := [(3, .ref (qs 47 q 0)), (0, .ref (q 0)), (1, .int p1), (2, .int p2)]) hx hb dX4_book_5 rfl hl (by decide) rfl (fun ls hl => ?_)
    refine lv_aload_n hx hb dX4_book_6 rfl (lv_at hl 0 rfl) ?_
    refine lv_ifnonnull (tgt := 17) hx hb dX4_book_7 (by decide) ?_
    refine lv_aload_n hx hb dX4_book_17 rfl (lv_at hl 0 rfl) ?_
    obtain ⟨x50, g51, h⟩ := bd_ex h
    refine c_V (As := []) (rest := []) (w' := (XC g q d)) cx hw (c_X0_isMissing l g (qs 47 q) N  (sAt (x_sheets d) 1) x50 g51) (cl_X4_227 cx.1.2.2.2.2 ⟨Nat.le_of_ble_eq_true rfl, Nat.le_of_ble_eq_true rfl⟩) (x_recv cx hw (ci := 0) rfl 47 rfl) (ct_X__47_48__S g q d ) hl.1 rfl rfl (Nat.le_of_ble_eq_true rfl) dX4_book_18 ⟨Nat.le_of_ble_eq_true rfl, Nat.le_of_ble_eq_true rfl⟩ (st1 := [.int x50]) rfl (fun H locs hw => ?_)
    refine lv_if_eq (tgt := 31) hx hb dX4_book_21 (by decide) (fun c52 => ?_) (fun c52 => ?_)
    · replace h := ite_t c52 h
      refine lv_iload_n hx hb dX4_book_31 rfl (lv_at hl 3 rfl) ?_
      refine lv_iconst (v := 0) hx hb dX4_book_32 (by decide) ?_
      refine lv_bipush (v := 100) hx hb dX4_book_33 (by decide) ?_
      obtain ⟨x53, g54, h⟩ := bd_ex h
      refine c_S (As := [.int p2, .int (0 : Int32), .int (100 : Int32)]) (rest := []) (w' := (XC g q d)) cx hw (c_X4_isWithin l g  N p2 (0 : Int32) (100 : Int32)  x53 g54) (cl_X4_40 cx.1.2.2.2.2 ⟨Nat.le_of_ble_eq_true rfl, Nat.le_of_ble_eq_true rfl⟩) Ct.nil hl.1 rfl rfl (Nat.le_of_ble_eq_true rfl) dX4_book_35 ⟨Nat.le_of_ble_eq_true rfl, Nat.le_of_ble_eq_true rfl⟩ (st1 := [.int x53]) rfl (fun H locs hw => ?_)
      refine lv_if_ne (tgt := 48) hx hb dX4_book_38 (by decide) (fun c55 => ?_) (fun c55 => ?_)
      · replace h := ite_f c55 h
        refine lv_aload_n hx hb dX4_book_48 rfl (lv_at hl 1 rfl) ?_
        refine lv_iload_n hx hb dX4_book_49 rfl (lv_at hl 3 rfl) ?_
        obtain ⟨x56, g57, h⟩ := bd_ex h
        refine c_V (As := [.int p2]) (rest := []) (w' := (XC g q d)) cx hw (c_X4_isTooLate l g q N p2 d x56 g57) (cl_X4_144 cx.1.2.2.2.2 ⟨Nat.le_of_ble_eq_true rfl, Nat.le_of_ble_eq_true rfl⟩) (x_recv cx hw (ci := 4) rfl 0 rfl) (Ct.all (XC_ll ..)) hl.1 rfl rfl (Nat.le_of_ble_eq_true rfl) dX4_book_50 ⟨Nat.le_of_ble_eq_true rfl, Nat.le_of_ble_eq_true rfl⟩ (st1 := [.int x56]) rfl (fun H locs hw => ?_)
        refine lv_if_eq (tgt := 63) hx hb dX4_book_53 (by decide) (fun c58 => ?_) (fun c58 => ?_)
        · replace h := ite_t c58 h
          refine lv_aload_n hx hb dX4_book_63 rfl (lv_at hl 1 rfl) ?_
          refine gf_X4_19 cx hw 0 rfl rfl dX4_book_64 ?_
          refine lv_aload_n hx hb dX4_book_67 rfl (lv_at hl 1 rfl) ?_
          refine gf_X4_12 cx hw 0 rfl rfl dX4_book_68 ?_
          obtain ⟨d59, g60, h⟩ := bd_ex h
          refine c_V (As := [.ref (qs 1 q 0)]) (rest := []) (w' := (XC g q (x_set_trial d d59))) cx hw (c_X3_takeFrom l g (qs 27 q) (qs 1 q) N  (x_trial d) (x_valley d) d59 g60) (cl_X4_164 cx.1.2.2.2.2 ⟨Nat.le_of_ble_eq_true rfl, Nat.le_of_ble_eq_true rfl⟩) (x_recv cx hw (ci := 3) rfl 27 rfl) (ct_X__27_28_29_30_31_32_33_34_35_36_37_38_39_1_2_3_4_5_6_7_8_9_10_11_12_13__V_V_0 g q d d59) hl.1 rfl rfl (Nat.le_of_ble_eq_true rfl) dX4_book_71 ⟨Nat.le_of_ble_eq_true rfl, Nat.le_of_ble_eq_true rfl⟩ (st1 := []) rfl (fun H locs hw => ?_)
          obtain ⟨d61, ed61, h⟩ := lt_ex h
          have hw : Wd g (va_A ((XC g q d)) s.heap.size) ((XC g q d61)) s H locs := by rw [ed61]; exact hw
          refine lv_aload_n hx hb dX4_book_74 rfl (lv_at hl 1 rfl) ?_
          refine gf_X4_19 cx hw 0 rfl rfl dX4_book_75 ?_
          refine lv_iload_n hx hb dX4_book_78 rfl (lv_at hl 3 rfl) ?_
          obtain ⟨x62, d63, g64, h⟩ := bd2_ex h
          refine c_V (As := [.int p2]) (rest := []) (w' := (XC g q (x_set_trial d61 d63))) cx hw (c_X3_goYears l g (qs 27 q) N p2 (x_trial d61) x62 d63 g64) (cl_X4_148 cx.1.2.2.2.2 ⟨Nat.le_of_ble_eq_true rfl, Nat.le_of_ble_eq_true rfl⟩) (x_recv cx hw (ci := 3) rfl 27 rfl) (ct_X__27_28_29_30_31_32_33_34_35_36_37_38_39__V_0 g q d61 d63) hl.1 rfl rfl (Nat.le_of_ble_eq_true rfl) dX4_book_79 ⟨Nat.le_of_ble_eq_true rfl, Nat.le_of_ble_eq_true rfl⟩ (st1 := [.int x62]) rfl (fun H locs hw => ?_)
          obtain ⟨d65, ed65, h⟩ := lt_ex h
          have hw : Wd g (va_A ((XC g q d)) s.heap.size) ((XC g q d65)) s H locs := by rw [ed65]; exact hw
          refine lv_pop hx hb dX4_book_82 rfl ?_
          refine lv_aload_n hx hb dX4_book_83 rfl (lv_at hl 1 rfl) ?_
          refine gf_X4_19 cx hw 0 rfl rfl dX4_book_84 ?_
          refine gf_X4_261 cx hw 27 rfl rfl dX4_book_87 ?_
          refine lv_aload_n hx hb dX4_book_90 rfl (lv_at hl 0 rfl) ?_
          refine gf_X4_232 cx hw 47 rfl rfl dX4_book_91 ?_
          refine va_mmin hx hb (cx.1.2.2.1.trans hl.1.symm) cx.1.2.2.2.1 (cx.1.2.2.2.2 _ tw_2_210) (cx.1.2.2.2.2 _ tw_2_142) (cx.1.2.2.2.2 _ tw_1_9) (cx.1.2.2.2.2 _ tw_2_143) (Nat.le_of_ble_eq_true rfl) (Nat.le_of_ble_eq_true rfl) (Nat.le_of_ble_eq_true rfl) (Nat.le_of_ble_eq_true rfl) dX4_book_94 ?_
          refine lv_topi (fun x66 ex66 => ?_)
          replace h := lt_nx ex66 h
          refine lv_istore (lv' := [(4, .int x66), (3, .ref (qs 47 q 0)), (0, .ref (q 0)), (1, .int p1), (2, .int p2)]) hx hb dX4_book_97 hl (by decide) rfl (fun ls hl => ?_)
          refine lv_iconst (v := 0) hx hb dX4_book_99 (by decide) ?_
          refine lv_istore (lv' := [(5, .int (0 : Int32)), (4, .int x66), (3, .ref (qs 47 q 0)), (0, .ref (q 0)), (1, .int p1), (2, .int p2)]) hx hb dX4_book_100 hl (by decide) rfl (fun ls hl => ?_)
          exact L102 N x66 (0 : Int32) d65 _ _ _ hw (lv_sub hl [3, 2, 1, 0] rfl) h
        · replace h := ite_f c58 h
          refine lv_aload_n hx hb dX4_book_56 rfl (lv_at hl 1 rfl) ?_
          refine lv_ldc hx hb cx.1.2.2.2.1 (cx.1.2.2.2.2 _ tw_2_130) dX4_book_57 ?_
          obtain ⟨x67, d68, g69, h⟩ := bd2_ex h
          refine c_V (As := [.int (-1000000005 : Int32)]) (rest := []) (w' := (XC g q d68)) cx hw (c_X4_tell l g q N (-1000000005 : Int32) d x67 d68 g69) (cl_X4_45 cx.1.2.2.2.2 ⟨Nat.le_of_ble_eq_true rfl, Nat.le_of_ble_eq_true rfl⟩) (x_recv cx hw (ci := 4) rfl 0 rfl) (Ct.all (XC_ll ..)) hl.1 rfl rfl (Nat.le_of_ble_eq_true rfl) dX4_book_59 ⟨Nat.le_of_ble_eq_true rfl, Nat.le_of_ble_eq_true rfl⟩ (st1 := [.int x67]) rfl (fun H locs hw => ?_)
          exact r_i cx hr hlocks hw (pr1 h) (congrArg (fun z0 => (XC g q z0)) (pr2 h)) dX4_book_62
      · replace h := ite_t c55 h
        refine lv_aload_n hx hb dX4_book_41 rfl (lv_at hl 1 rfl) ?_
        refine lv_ldc hx hb cx.1.2.2.2.1 (cx.1.2.2.2.2 _ tw_1_202) dX4_book_42 ?_
        obtain ⟨x70, d71, g72, h⟩ := bd2_ex h
        refine c_V (As := [.int (-1000000001 : Int32)]) (rest := []) (w' := (XC g q d71)) cx hw (c_X4_tell l g q N (-1000000001 : Int32) d x70 d71 g72) (cl_X4_45 cx.1.2.2.2.2 ⟨Nat.le_of_ble_eq_true rfl, Nat.le_of_ble_eq_true rfl⟩) (x_recv cx hw (ci := 4) rfl 0 rfl) (Ct.all (XC_ll ..)) hl.1 rfl rfl (Nat.le_of_ble_eq_true rfl) dX4_book_44 ⟨Nat.le_of_ble_eq_true rfl, Nat.le_of_ble_eq_true rfl⟩ (st1 := [.int x70]) rfl (fun H locs hw => ?_)
        exact r_i cx hr hlocks hw (pr1 h) (congrArg (fun z0 => (XC g q z0)) (pr2 h)) dX4_book_47
    · replace h := ite_f c52 h
      refine lv_aload_n hx hb dX4_book_24 rfl (lv_at hl 1 rfl) ?_
      refine lv_ldc hx hb cx.1.2.2.2.1 (cx.1.2.2.2.2 _ tw_3_177) dX4_book_25 ?_
      obtain ⟨x73, d74, g75, h⟩ := bd2_ex h
      refine c_V (As := [.int (-1000000006 : Int32)]) (rest := []) (w' := (XC g q d74)) cx hw (c_X4_tell l g q N (-1000000006 : Int32) d x73 d74 g75) (cl_X4_45 cx.1.2.2.2.2 ⟨Nat.le_of_ble_eq_true rfl, Nat.le_of_ble_eq_true rfl⟩) (x_recv cx hw (ci := 4) rfl 0 rfl) (Ct.all (XC_ll ..)) hl.1 rfl rfl (Nat.le_of_ble_eq_true rfl) dX4_book_27 ⟨Nat.le_of_ble_eq_true rfl, Nat.le_of_ble_eq_true rfl⟩ (st1 := [.int x73]) rfl (fun H locs hw => ?_)
      exact r_i cx hr hlocks hw (pr1 h) (congrArg (fun z0 => (XC g q z0)) (pr2 h)) dX4_book_30
  · replace h := sel_s h
    refine c_V (As := [.int p1]) (rest := []) (w' := (XC g q d)) cx hw (c_X4_sheetAt l g q N p1 d (some 2) g2) (cl_X4_219 cx.1.2.2.2.2 ⟨Nat.le_of_ble_eq_true rfl, Nat.le_of_ble_eq_true rfl⟩) (x_recv cx hw (ci := 4) rfl 0 rfl) (Ct.all (XC_ll ..)) hl.1 rfl rfl (Nat.le_of_ble_eq_true rfl) dX4_book_2 ⟨Nat.le_of_ble_eq_true rfl, Nat.le_of_ble_eq_true rfl⟩ (st1 := [.ref (qs 49 q 0)]) rfl (fun H locs hw => ?_)
    have L102 : ∀ (n102 : Nat) (a4 : Int32) (a5 : Int32) (d_ : XD) (H : Heap) (locs : List Loc) (ls : Array Slot), Wd g (va_A ((XC g q d)) s.heap.size) ((XC g q d_)) s H locs → lv_has ls 6 [(0, .ref (q 0)), (3, .ref (qs 49 q 0)), (4, .int a4), (5, .int a5)] → f_X4_book_L102 N 2  n102 a4 a5 d_ = some (r, d') → W p l e rm_X4_book s m ([.ref (q 0), .int p1, .int p2] : List Value).toArray below meth c H locs 0 0 (MQ below (QO (some (.int r)) g ((XC g q d')) (va_A ((XC g q d)) s.heap.size)) ([.ref (q 0), .int p1, .int p2] : List Value).toArray s 0 0 (va_A ((XC g q d)) s.heap.size)) (F0 m 102 ls []) := by
      intro n102
      induction n102 with
      | zero => intro a4 a5 d_ H locs ls hw hl h; exact (Option.some_ne_none _ h.symm).elim
      | succ n102 ih102 =>
        intro a4 a5 d_ H locs ls hw hl h
        rw [f_X4_book_L102] at h
        refine lv_iload hx hb dX4_book_102 (lv_at hl 3 rfl) ?_
        refine lv_iload hx hb dX4_book_104 (lv_at hl 2 rfl) ?_
        refine lv_icmp_ge (tgt := 132) hx hb dX4_book_106 (by decide) (fun c126 => ?_) (fun c126 => ?_)
        · replace h := ite_t c126 h
          refine lv_iload hx hb dX4_book_132 (lv_at hl 2 rfl) ?_
          exact r_i cx hr hlocks hw (pr1 h) (congrArg (fun z0 => (XC g q z0)) (pr2 h)) dX4_book_134
        · replace h := ite_f c126 h
          refine lv_aload_n hx hb dX4_book_109 rfl (lv_at hl 1 rfl) ?_
          refine lv_iload hx hb dX4_book_110 (lv_at hl 3 rfl) ?_
          refine lv_aload_n hx hb dX4_book_112 rfl (lv_at hl 0 rfl) ?_
          refine gf_X4_19 cx hw 0 rfl rfl dX4_book_113 ?_
          refine lv_iload hx hb dX4_book_116 (lv_at hl 3 rfl) ?_
          obtain ⟨x127, g128, h⟩ := bd_ex h
          refine c_V (As := [.int a5]) (rest := [.int a5, .ref (qs 49 q 0)]) (w' := (XC g q d_)) cx hw (c_X3_heirFor l g (qs 27 q) N a5 (x_trial d_) x127 g128) (cl_X4_131 cx.1.2.2.2.2 ⟨Nat.le_of_ble_eq_true rfl, Nat.le_of_ble_eq_true rfl⟩) (x_recv cx hw (ci := 3) rfl 27 rfl) (ct_X__27_28_29_30_31_32_33_34_35_36_37_38_39__V g q d_ ) hl.1 rfl rfl (Nat.le_of_ble_eq_true rfl) dX4_book_118 ⟨Nat.le_of_ble_eq_true rfl, Nat.le_of_ble_eq_true rfl⟩ (st1 := [.int x127, .int a5, .ref (qs 49 q 0)]) rfl (fun H locs hw => ?_)
          refine lv_i2l hx hb dX4_book_121 rfl ?_
          obtain ⟨x129, d130, g131, h⟩ := bd2_ex h
          refine c_V (As := [.int a5, .long ((x127).toInt64)]) (rest := []) (w' := (XC g q (x_set_sheets d_ (sPut (x_sheets d_) 2 d130)))) cx hw (c_X0_put l g (qs 49 q) N a5 ((x127).toInt64) (sAt (x_sheets d_) 2) x129 d130 g131) (cl_X4_235 cx.1.2.2.2.2 ⟨Nat.le_of_ble_eq_true rfl, Nat.le_of_ble_eq_true rfl⟩) (x_recv cx hw (ci := 0) rfl 49 rfl) (ct_X__49_50__S_0 g q d_ d130) hl.1 rfl rfl (Nat.le_of_ble_eq_true rfl) dX4_book_122 ⟨Nat.le_of_ble_eq_true rfl, Nat.le_of_ble_eq_true rfl⟩ (st1 := [.long x129]) rfl (fun H locs hw => ?_)
          obtain ⟨d132, ed132, h⟩ := lt_ex h
          have hw : Wd g (va_A ((XC g q d)) s.heap.size) ((XC g q d132)) s H locs := by rw [ed132]; exact hw
          refine lv_pop2_2 hx hb dX4_book_125 rfl ?_
          obtain ⟨x133, ex133⟩ : ∃ y : Int32, y = (a5 + 1) := ⟨_, rfl⟩
          replace h := lt_nx ex133 h
          refine lv_iinc (v := x133) (lv' := [(5, .int x133), (0, .ref (q 0)), (3, .ref (qs 49 q 0)), (4, .int a4)]) hx hb dX4_book_126 hl (k := 3) rfl (by rw [ex133]; rfl) (by decide) rfl (fun ls hl => ?_)
          refine lv_goto (tgt := 102) hx hb dX4_book_129 (by decide) ?_
          exact ih102 a4 x133 d132 _ _ _ hw (lv_sub hl [1, 2, 3, 0] rfl) h
    refine lv_astore_n (lv' := [(3, .ref (qs 49 q 0)), (0, .ref (q 0)), (1, .int p1), (2, .int p2)]) hx hb dX4_book_5 rfl hl (by decide) rfl (fun ls hl => ?_)
    refine lv_aload_n hx hb dX4_book_6 rfl (lv_at hl 0 rfl) ?_
    refine lv_ifnonnull (tgt := 17) hx hb dX4_book_7 (by decide) ?_
    refine lv_aload_n hx hb dX4_book_17 rfl (lv_at hl 0 rfl) ?_
    obtain ⟨x92, g93, h⟩ := bd_ex h
    refine c_V (As := []) (rest := []) (w' := (XC g q d)) cx hw (c_X0_isMissing l g (qs 49 q) N  (sAt (x_sheets d) 2) x92 g93) (cl_X4_227 cx.1.2.2.2.2 ⟨Nat.le_of_ble_eq_true rfl, Nat.le_of_ble_eq_true rfl⟩) (x_recv cx hw (ci := 0) rfl 49 rfl) (ct_X__49_50__S g q d ) hl.1 rfl rfl (Nat.le_of_ble_eq_true rfl) dX4_book_18 ⟨Nat.le_of_ble_eq_true rfl, Nat.le_of_ble_eq_true rfl⟩ (st1 := [.int x92]) rfl (fun H locs hw => ?_)
    refine lv_if_eq (tgt := 31) hx hb dX4_book_21 (by decide) (fun c94 => ?_) (fun c94 => ?_)
    · replace h := ite_t c94 h
      refine lv_iload_n hx hb dX4_book_31 rfl (lv_at hl 3 rfl) ?_
      refine lv_iconst (v := 0) hx hb dX4_book_32 (by decide) ?_
      refine lv_bipush (v := 100) hx hb dX4_book_33 (by decide) ?_
      obtain ⟨x95, g96, h⟩ := bd_ex h
      refine c_S (As := [.int p2, .int (0 : Int32), .int (100 : Int32)]) (rest := []) (w' := (XC g q d)) cx hw (c_X4_isWithin l g  N p2 (0 : Int32) (100 : Int32)  x95 g96) (cl_X4_40 cx.1.2.2.2.2 ⟨Nat.le_of_ble_eq_true rfl, Nat.le_of_ble_eq_true rfl⟩) Ct.nil hl.1 rfl rfl (Nat.le_of_ble_eq_true rfl) dX4_book_35 ⟨Nat.le_of_ble_eq_true rfl, Nat.le_of_ble_eq_true rfl⟩ (st1 := [.int x95]) rfl (fun H locs hw => ?_)
      refine lv_if_ne (tgt := 48) hx hb dX4_book_38 (by decide) (fun c97 => ?_) (fun c97 => ?_)
      · replace h := ite_f c97 h
        refine lv_aload_n hx hb dX4_book_48 rfl (lv_at hl 1 rfl) ?_
        refine lv_iload_n hx hb dX4_book_49 rfl (lv_at hl 3 rfl) ?_
        obtain ⟨x98, g99, h⟩ := bd_ex h
        refine c_V (As := [.int p2]) (rest := []) (w' := (XC g q d)) cx hw (c_X4_isTooLate l g q N p2 d x98 g99) (cl_X4_144 cx.1.2.2.2.2 ⟨Nat.le_of_ble_eq_true rfl, Nat.le_of_ble_eq_true rfl⟩) (x_recv cx hw (ci := 4) rfl 0 rfl) (Ct.all (XC_ll ..)) hl.1 rfl rfl (Nat.le_of_ble_eq_true rfl) dX4_book_50 ⟨Nat.le_of_ble_eq_true rfl, Nat.le_of_ble_eq_true rfl⟩ (st1 := [.int x98]) rfl (fun H locs hw => ?_)
        refine lv_if_eq (tgt := 63) hx hb dX4_book_53 (by decide) (fun c100 => ?_) (fun c100 => ?_)
        · replace h := ite_t c100 h
          refine lv_aload_n hx hb dX4_book_63 rfl (lv_at hl 1 rfl) ?_
          refine gf_X4_19 cx hw 0 rfl rfl dX4_book_64 ?_
          refine lv_aload_n hx hb dX4_book_67 rfl (lv_at hl 1 rfl) ?_
          refine gf_X4_12 cx hw 0 rfl rfl dX4_book_68 ?_
          obtain ⟨d101, g102, h⟩ := bd_ex h
          refine c_V (As := [.ref (qs 1 q 0)]) (rest := []) (w' := (XC g q (x_set_trial d d101))) cx hw (c_X3_takeFrom l g (qs 27 q) (qs 1 q) N  (x_trial d) (x_valley d) d101 g102) (cl_X4_164 cx.1.2.2.2.2 ⟨Nat.le_of_ble_eq_true rfl, Nat.le_of_ble_eq_true rfl⟩) (x_recv cx hw (ci := 3) rfl 27 rfl) (ct_X__27_28_29_30_31_32_33_34_35_36_37_38_39_1_2_3_4_5_6_7_8_9_10_11_12_13__V_V_0 g q d d101) hl.1 rfl rfl (Nat.le_of_ble_eq_true rfl) dX4_book_71 ⟨Nat.le_of_ble_eq_true rfl, Nat.le_of_ble_eq_true rfl⟩ (st1 := []) rfl (fun H locs hw => ?_)
          obtain ⟨d103, ed103, h⟩ := lt_ex h
          have hw : Wd g (va_A ((XC g q d)) s.heap.size) ((XC g q d103)) s H locs := by rw [ed103]; exact hw
          refine lv_aload_n hx hb dX4_book_74 rfl (lv_at hl 1 rfl) ?_
          refine gf_X4_19 cx hw 0 rfl rfl dX4_book_75 ?_
          refine lv_iload_n hx hb dX4_book_78 rfl (lv_at hl 3 rfl) ?_
          obtain ⟨x104, d105, g106, h⟩ := bd2_ex h
          refine c_V (As := [.int p2]) (rest := []) (w' := (XC g q (x_set_trial d103 d105))) cx hw (c_X3_goYears l g (qs 27 q) N p2 (x_trial d103) x104 d105 g106) (cl_X4_148 cx.1.2.2.2.2 ⟨Nat.le_of_ble_eq_true rfl, Nat.le_of_ble_eq_true rfl⟩) (x_recv cx hw (ci := 3) rfl 27 rfl) (ct_X__27_28_29_30_31_32_33_34_35_36_37_38_39__V_0 g q d103 d105) hl.1 rfl rfl (Nat.le_of_ble_eq_true rfl) dX4_book_79 ⟨Nat.le_of_ble_eq_true rfl, Nat.le_of_ble_eq_true rfl⟩ (st1 := [.int x104]) rfl (fun H locs hw => ?_)
          obtain ⟨d107, ed107, h⟩ := lt_ex h
          have hw : Wd g (va_A ((XC g q d)) s.heap.size) ((XC g q d107)) s H locs := by rw [ed107]; exact hw
          refine lv_pop hx hb dX4_book_82 rfl ?_
          refine lv_aload_n hx hb dX4_book_83 rfl (lv_at hl 1 rfl) ?_
          refine gf_X4_19 cx hw 0 rfl rfl dX4_book_84 ?_
          refine gf_X4_261 cx hw 27 rfl rfl dX4_book_87 ?_
          refine lv_aload_n hx hb dX4_book_90 rfl (lv_at hl 0 rfl) ?_
          refine gf_X4_232 cx hw 49 rfl rfl dX4_book_91 ?_
          refine va_mmin hx hb (cx.1.2.2.1.trans hl.1.symm) cx.1.2.2.2.1 (cx.1.2.2.2.2 _ tw_2_210) (cx.1.2.2.2.2 _ tw_2_142) (cx.1.2.2.2.2 _ tw_1_9) (cx.1.2.2.2.2 _ tw_2_143) (Nat.le_of_ble_eq_true rfl) (Nat.le_of_ble_eq_true rfl) (Nat.le_of_ble_eq_true rfl) (Nat.le_of_ble_eq_true rfl) dX4_book_94 ?_
          refine lv_topi (fun x108 ex108 => ?_)
          replace h := lt_nx ex108 h
          refine lv_istore (lv' := [(4, .int x108), (3, .ref (qs 49 q 0)), (0, .ref (q 0)), (1, .int p1), (2, .int p2)]) hx hb dX4_book_97 hl (by decide) rfl (fun ls hl => ?_)
          refine lv_iconst (v := 0) hx hb dX4_book_99 (by decide) ?_
          refine lv_istore (lv' := [(5, .int (0 : Int32)), (4, .int x108), (3, .ref (qs 49 q 0)), (0, .ref (q 0)), (1, .int p1), (2, .int p2)]) hx hb dX4_book_100 hl (by decide) rfl (fun ls hl => ?_)
          exact L102 N x108 (0 : Int32) d107 _ _ _ hw (lv_sub hl [3, 2, 1, 0] rfl) h
        · replace h := ite_f c100 h
          refine lv_aload_n hx hb dX4_book_56 rfl (lv_at hl 1 rfl) ?_
          refine lv_ldc hx hb cx.1.2.2.2.1 (cx.1.2.2.2.2 _ tw_2_130) dX4_book_57 ?_
          obtain ⟨x109, d110, g111, h⟩ := bd2_ex h
          refine c_V (As := [.int (-1000000005 : Int32)]) (rest := []) (w' := (XC g q d110)) cx hw (c_X4_tell l g q N (-1000000005 : Int32) d x109 d110 g111) (cl_X4_45 cx.1.2.2.2.2 ⟨Nat.le_of_ble_eq_true rfl, Nat.le_of_ble_eq_true rfl⟩) (x_recv cx hw (ci := 4) rfl 0 rfl) (Ct.all (XC_ll ..)) hl.1 rfl rfl (Nat.le_of_ble_eq_true rfl) dX4_book_59 ⟨Nat.le_of_ble_eq_true rfl, Nat.le_of_ble_eq_true rfl⟩ (st1 := [.int x109]) rfl (fun H locs hw => ?_)
          exact r_i cx hr hlocks hw (pr1 h) (congrArg (fun z0 => (XC g q z0)) (pr2 h)) dX4_book_62
      · replace h := ite_t c97 h
        refine lv_aload_n hx hb dX4_book_41 rfl (lv_at hl 1 rfl) ?_
        refine lv_ldc hx hb cx.1.2.2.2.1 (cx.1.2.2.2.2 _ tw_1_202) dX4_book_42 ?_
        obtain ⟨x112, d113, g114, h⟩ := bd2_ex h
        refine c_V (As := [.int (-1000000001 : Int32)]) (rest := []) (w' := (XC g q d113)) cx hw (c_X4_tell l g q N (-1000000001 : Int32) d x112 d113 g114) (cl_X4_45 cx.1.2.2.2.2 ⟨Nat.le_of_ble_eq_true rfl, Nat.le_of_ble_eq_true rfl⟩) (x_recv cx hw (ci := 4) rfl 0 rfl) (Ct.all (XC_ll ..)) hl.1 rfl rfl (Nat.le_of_ble_eq_true rfl) dX4_book_44 ⟨Nat.le_of_ble_eq_true rfl, Nat.le_of_ble_eq_true rfl⟩ (st1 := [.int x112]) rfl (fun H locs hw => ?_)
        exact r_i cx hr hlocks hw (pr1 h) (congrArg (fun z0 => (XC g q z0)) (pr2 h)) dX4_book_47
    · replace h := ite_f c94 h
      refine lv_aload_n hx hb dX4_book_24 rfl (lv_at hl 1 rfl) ?_
      refine lv_ldc hx hb cx.1.2.2.2.1 (cx.1.2.2.2.2 _ tw_3_177) dX4_book_25 ?_
      obtain ⟨x115, d116, g117, h⟩ := bd2_ex h
      refine c_V (As := [.int (-1000000006 : Int32)]) (rest := []) (w' := (XC g q d116)) cx hw (c_X4_tell l g q N (-1000000006 : Int32) d x115 d116 g117) (cl_X4_45 cx.1.2.2.2.2 ⟨Nat.le_of_ble_eq_true rfl, Nat.le_of_ble_eq_true rfl⟩) (x_recv cx hw (ci := 4) rfl 0 rfl) (Ct.all (XC_ll ..)) hl.1 rfl rfl (Nat.le_of_ble_eq_true rfl) dX4_book_27 ⟨Nat.le_of_ble_eq_true rfl, Nat.le_of_ble_eq_true rfl⟩ (st1 := [.int x115]) rfl (fun H locs hw => ?_)
      exact r_i cx hr hlocks hw (pr1 h) (congrArg (fun z0 => (XC g q z0)) (pr2 h)) dX4_book_30
  · replace h := sel_s h
    refine c_V (As := [.int p1]) (rest := []) (w' := (XC g q d)) cx hw (c_X4_sheetAt l g q N p1 d (some 3) g2) (cl_X4_219 cx.1.2.2.2.2 ⟨Nat.le_of_ble_eq_true rfl, Nat.le_of_ble_eq_true rfl⟩) (x_recv cx hw (ci := 4) rfl 0 rfl) (Ct.all (XC_ll ..)) hl.1 rfl rfl (Nat.le_of_ble_eq_true rfl) dX4_book_2 ⟨Nat.le_of_ble_eq_true rfl, Nat.le_of_ble_eq_true rfl⟩ (st1 := [.ref (qs 51 q 0)]) rfl (fun H locs hw => ?_)
    have L102 : ∀ (n102 : Nat) (a4 : Int32) (a5 : Int32) (d_ : XD) (H : Heap) (locs : List Loc) (ls : Array Slot), Wd g (va_A ((XC g q d)) s.heap.size) ((XC g q d_)) s H locs → lv_has ls 6 [(0, .ref (q 0)), (3, .ref (qs 51 q 0)), (4, .int a4), (5, .int a5)] → f_X4_book_L102 N 3  n102 a4 a5 d_ = some (r, d') → W p l e rm_X4_book s m ([.ref (q 0), .int p1, .int p2] : List Value).toArray below meth c H locs 0 0 (MQ below (QO (some (.int r)) g ((XC g q d')) (va_A ((XC g q d)) s.heap.size)) ([.ref (q 0), .int p1, .int p2] : List Value).toArray s 0 0 (va_A ((XC g q d)) s.heap.size)) (F0 m 102 ls []) := by
      intro n102
      induction n102 with
      | zero => intro a4 a5 d_ H locs ls hw hl h; exact (Option.some_ne_none _ h.symm).elim
      | succ n102 ih102 =>
        intro a4 a5 d_ H locs ls hw hl h
        rw [f_X4_book_L102] at h
        refine lv_iload hx hb dX4_book_102 (lv_at hl 3 rfl) ?_
        refine lv_iload hx hb dX4_book_104 (lv_at hl 2 rfl) ?_
        refine lv_icmp_ge (tgt := 132) hx hb dX4_book_106 (by decide) (fun c168 => ?_) (fun c168 => ?_)
        · replace h := ite_t c168 h
          refine lv_iload hx hb dX4_book_132 (lv_at hl 2 rfl) ?_
          exact r_i cx hr hlocks hw (pr1 h) (congrArg (fun z0 => (XC g q z0)) (pr2 h)) dX4_book_134
        · replace h := ite_f c168 h
          refine lv_aload_n hx hb dX4_book_109 rfl (lv_at hl 1 rfl) ?_
          refine lv_iload hx hb dX4_book_110 (lv_at hl 3 rfl) ?_
          refine lv_aload_n hx hb dX4_book_112 rfl (lv_at hl 0 rfl) ?_
          refine gf_X4_19 cx hw 0 rfl rfl dX4_book_113 ?_
          refine lv_iload hx hb dX4_book_116 (lv_at hl 3 rfl) ?_
          obtain ⟨x169, g170, h⟩ := bd_ex h
          refine c_V (As := [.int a5]) (rest := [.int a5, .ref (qs 51 q 0)]) (w' := (XC g q d_)) cx hw (c_X3_heirFor l g (qs 27 q) N a5 (x_trial d_) x169 g170) (cl_X4_131 cx.1.2.2.2.2 ⟨Nat.le_of_ble_eq_true rfl, Nat.le_of_ble_eq_true rfl⟩) (x_recv cx hw (ci := 3) rfl 27 rfl) (ct_X__27_28_29_30_31_32_33_34_35_36_37_38_39__V g q d_ ) hl.1 rfl rfl (Nat.le_of_ble_eq_true rfl) dX4_book_118 ⟨Nat.le_of_ble_eq_true rfl, Nat.le_of_ble_eq_true rfl⟩ (st1 := [.int x169, .int a5, .ref (qs 51 q 0)]) rfl (fun H locs hw => ?_)
          refine lv_i2l hx hb dX4_book_121 rfl ?_
          obtain ⟨x171, d172, g173, h⟩ := bd2_ex h
          refine c_V (As := [.int a5, .long ((x169).toInt64)]) (rest := []) (w' := (XC g q (x_set_sheets d_ (sPut (x_sheets d_) 3 d172)))) cx hw (c_X0_put l g (qs 51 q) N a5 ((x169).toInt64) (sAt (x_sheets d_) 3) x171 d172 g173) (cl_X4_235 cx.1.2.2.2.2 ⟨Nat.le_of_ble_eq_true rfl, Nat.le_of_ble_eq_true rfl⟩) (x_recv cx hw (ci := 0) rfl 51 rfl) (ct_X__51_52__S_0 g q d_ d172) hl.1 rfl rfl (Nat.le_of_ble_eq_true rfl) dX4_book_122 ⟨Nat.le_of_ble_eq_true rfl, Nat.le_of_ble_eq_true rfl⟩ (st1 := [.long x171]) rfl (fun H locs hw => ?_)
          obtain ⟨d174, ed174, h⟩ := lt_ex h
          have hw : Wd g (va_A ((XC g q d)) s.heap.size) ((XC g q d174)) s H locs := by rw [ed174]; exact hw
          refine lv_pop2_2 hx hb dX4_book_125 rfl ?_
          obtain ⟨x175, ex175⟩ : ∃ y : Int32, y = (a5 + 1) := ⟨_, rfl⟩
          replace h := lt_nx ex175 h
          refine lv_iinc (v := x175) (lv' := [(5, .int x175), (0, .ref (q 0)), (3, .ref (qs 51 q 0)), (4, .int a4)]) hx hb dX4_book_126 hl (k := 3) rfl (by rw [ex175]; rfl) (by decide) rfl (fun ls hl => ?_)
          refine lv_goto (tgt := 102) hx hb dX4_book_129 (by decide) ?_
          exact ih102 a4 x175 d174 _ _ _ hw (lv_sub hl [1, 2, 3, 0] rfl) h
    refine lv_astore_n (lv' := [(3, .ref (qs 51 q 0)), (0, .ref (q 0)), (1, .int p1), (2, .int p2)]) hx hb dX4_book_5 rfl hl (by decide) rfl (fun ls hl => ?_)
    refine lv_aload_n hx hb dX4_book_6 rfl (lv_at hl 0 rfl) ?_
    refine lv_ifnonnull (tgt := 17) hx hb dX4_book_7 (by decide) ?_
    refine lv_aload_n hx hb dX4_book_17 rfl (lv_at hl 0 rfl) ?_
    obtain ⟨x134, g135, h⟩ := bd_ex h
    refine c_V (As := []) (rest := []) (w' := (XC g q d)) cx hw (c_X0_isMissing l g (qs 51 q) N  (sAt (x_sheets d) 3) x134 g135) (cl_X4_227 cx.1.2.2.2.2 ⟨Nat.le_of_ble_eq_true rfl, Nat.le_of_ble_eq_true rfl⟩) (x_recv cx hw (ci := 0) rfl 51 rfl) (ct_X__51_52__S g q d ) hl.1 rfl rfl (Nat.le_of_ble_eq_true rfl) dX4_book_18 ⟨Nat.le_of_ble_eq_true rfl, Nat.le_of_ble_eq_true rfl⟩ (st1 := [.int x134]) rfl (fun H locs hw => ?_)
    refine lv_if_eq (tgt := 31) hx hb dX4_book_21 (by decide) (fun c136 => ?_) (fun c136 => ?_)
    · replace h := ite_t c136 h
      refine lv_iload_n hx hb dX4_book_31 rfl (lv_at hl 3 rfl) ?_
      refine lv_iconst (v := 0) hx hb dX4_book_32 (by decide) ?_
      refine lv_bipush (v := 100) hx hb dX4_book_33 (by decide) ?_
      obtain ⟨x137, g138, h⟩ := bd_ex h
      refine c_S (As := [.int p2, .int (0 : Int32), .int (100 : Int32)]) (rest := []) (w' := (XC g q d)) cx hw (c_X4_isWithin l g  N p2 (0 : Int32) (100 : Int32)  x137 g138) (cl_X4_40 cx.1.2.2.2.2 ⟨Nat.le_of_ble_eq_true rfl, Nat.le_of_ble_eq_true rfl⟩) Ct.nil hl.1 rfl rfl (Nat.le_of_ble_eq_true rfl) dX4_book_35 ⟨Nat.le_of_ble_eq_true rfl, Nat.le_of_ble_eq_true rfl⟩ (st1 := [.int x137]) rfl (fun H locs hw => ?_)
      refine lv_if_ne (tgt := 48) hx hb dX4_book_38 (by decide) (fun c139 => ?_) (fun c139 => ?_)
      · replace h := ite_f c139 h
        refine lv_aload_n hx hb dX4_book_48 rfl (lv_at hl 1 rfl) ?_
        refine lv_iload_n hx hb dX4_book_49 rfl (lv_at hl 3 rfl) ?_
        obtain ⟨x140, g141, h⟩ := bd_ex h
        refine c_V (As := [.int p2]) (rest := []) (w' := (XC g q d)) cx hw (c_X4_isTooLate l g q N p2 d x140 g141) (cl_X4_144 cx.1.2.2.2.2 ⟨Nat.le_of_ble_eq_true rfl, Nat.le_of_ble_eq_true rfl⟩) (x_recv cx hw (ci := 4) rfl 0 rfl) (Ct.all (XC_ll ..)) hl.1 rfl rfl (Nat.le_of_ble_eq_true rfl) dX4_book_50 ⟨Nat.le_of_ble_eq_true rfl, Nat.le_of_ble_eq_true rfl⟩ (st1 := [.int x140]) rfl (fun H locs hw => ?_)
        refine lv_if_eq (tgt := 63) hx hb dX4_book_53 (by decide) (fun c142 => ?_) (fun c142 => ?_)
        · replace h := ite_t c142 h
          refine lv_aload_n hx hb dX4_book_63 rfl (lv_at hl 1 rfl) ?_
          refine gf_X4_19 cx hw 0 rfl rfl dX4_book_64 ?_
          refine lv_aload_n hx hb dX4_book_67 rfl (lv_at hl 1 rfl) ?_
          refine gf_X4_12 cx hw 0 rfl rfl dX4_book_68 ?_
          obtain ⟨d143, g144, h⟩ := bd_ex h
          refine c_V (As := [.ref (qs 1 q 0)]) (rest := []) (w' := (XC g q (x_set_trial d d143))) cx hw (c_X3_takeFrom l g (qs 27 q) (qs 1 q) N  (x_trial d) (x_valley d) d143 g144) (cl_X4_164 cx.1.2.2.2.2 ⟨Nat.le_of_ble_eq_true rfl, Nat.le_of_ble_eq_true rfl⟩) (x_recv cx hw (ci := 3) rfl 27 rfl) (ct_X__27_28_29_30_31_32_33_34_35_36_37_38_39_1_2_3_4_5_6_7_8_9_10_11_12_13__V_V_0 g q d d143) hl.1 rfl rfl (Nat.le_of_ble_eq_true rfl) dX4_book_71 ⟨Nat.le_of_ble_eq_true rfl, Nat.le_of_ble_eq_true rfl⟩ (st1 := []) rfl (fun H locs hw => ?_)
          obtain ⟨d145, ed145, h⟩ := lt_ex h
          have hw : Wd g (va_A ((XC g q d)) s.heap.size) ((XC g q d145)) s H locs := by rw [ed145]; exact hw
          refine lv_aload_n hx hb dX4_book_74 rfl (lv_at hl 1 rfl) ?_
          refine gf_X4_19 cx hw 0 rfl rfl dX4_book_75 ?_
          refine lv_iload_n hx hb dX4_book_78 rfl (lv_at hl 3 rfl) ?_
          obtain ⟨x146, d147, g148, h⟩ := bd2_ex h
          refine c_V (As := [.int p2]) (rest := []) (w' := (XC g q (x_set_trial d145 d147))) cx hw (c_X3_goYears l g (qs 27 q) N p2 (x_trial d145) x146 d147 g148) (cl_X4_148 cx.1.2.2.2.2 ⟨Nat.le_of_ble_eq_true rfl, Nat.le_of_ble_eq_true rfl⟩) (x_recv cx hw (ci := 3) rfl 27 rfl) (ct_X__27_28_29_30_31_32_33_34_35_36_37_38_39__V_0 g q d145 d147) hl.1 rfl rfl (Nat.le_of_ble_eq_true rfl) dX4_book_79 ⟨Nat.le_of_ble_eq_true rfl, Nat.le_of_ble_eq_true rfl⟩ (st1 := [.int x146]) rfl (fun H locs hw => ?_)
          obtain ⟨d149, ed149, h⟩ := lt_ex h
          have hw : Wd g (va_A ((XC g q d)) s.heap.size) ((XC g q d149)) s H locs := by rw [ed149]; exact hw
          refine lv_pop hx hb dX4_book_82 rfl ?_
          refine lv_aload_n hx hb dX4_book_83 rfl (lv_at hl 1 rfl) ?_
          refine gf_X4_19 cx hw 0 rfl rfl dX4_book_84 ?_
          refine gf_X4_261 cx hw 27 rfl rfl dX4_book_87 ?_
          refine lv_aload_n hx hb dX4_book_90 rfl (lv_at hl 0 rfl) ?_
          refine gf_X4_232 cx hw 51 rfl rfl dX4_book_91 ?_
          refine va_mmin hx hb (cx.1.2.2.1.trans hl.1.symm) cx.1.2.2.2.1 (cx.1.2.2.2.2 _ tw_2_210) (cx.1.2.2.2.2 _ tw_2_142) (cx.1.2.2.2.2 _ tw_1_9) (cx.1.2.2.2.2 _ tw_2_143) (Nat.le_of_ble_eq_true rfl) (Nat.le_of_ble_eq_true rfl) (Nat.le_of_ble_eq_true rfl) (Nat.le_of_ble_eq_true rfl) dX4_book_94 ?_
          refine lv_topi (fun x150 ex150 => ?_)
          replace h := lt_nx ex150 h
          refine lv_istore (lv' := [(4, .int x150), (3, .ref (qs 51 q 0)), (0, .ref (q 0)), (1, .int p1), (2, .int p2)]) hx hb dX4_book_97 hl (by decide) rfl (fun ls hl => ?_)
          refine lv_iconst (v := 0) hx hb dX4_book_99 (by decide) ?_
          refine lv_istore (lv' := [(5, .int (0 : Int32)), (4, .int x150), (3, .ref (qs 51 q 0)), (0, .ref (q 0)), (1, .int p1), (2, .int p2)]) hx hb dX4_book_100 hl (by decide) rfl (fun ls hl => ?_)
          exact L102 N x150 (0 : Int32) d149 _ _ _ hw (lv_sub hl [3, 2, 1, 0] rfl) h
        · replace h := ite_f c142 h
          refine lv_aload_n hx hb dX4_book_56 rfl (lv_at hl 1 rfl) ?_
          refine lv_ldc hx hb cx.1.2.2.2.1 (cx.1.2.2.2.2 _ tw_2_130) dX4_book_57 ?_
          obtain ⟨x151, d152, g153, h⟩ := bd2_ex h
          refine c_V (As := [.int (-1000000005 : Int32)]) (rest := []) (w' := (XC g q d152)) cx hw (c_X4_tell l g q N (-1000000005 : Int32) d x151 d152 g153) (cl_X4_45 cx.1.2.2.2.2 ⟨Nat.le_of_ble_eq_true rfl, Nat.le_of_ble_eq_true rfl⟩) (x_recv cx hw (ci := 4) rfl 0 rfl) (Ct.all (XC_ll ..)) hl.1 rfl rfl (Nat.le_of_ble_eq_true rfl) dX4_book_59 ⟨Nat.le_of_ble_eq_true rfl, Nat.le_of_ble_eq_true rfl⟩ (st1 := [.int x151]) rfl (fun H locs hw => ?_)
          exact r_i cx hr hlocks hw (pr1 h) (congrArg (fun z0 => (XC g q z0)) (pr2 h)) dX4_book_62
      · replace h := ite_t c139 h
        refine lv_aload_n hx hb dX4_book_41 rfl (lv_at hl 1 rfl) ?_
        refine lv_ldc hx hb cx.1.2.2.2.1 (cx.1.2.2.2.2 _ tw_1_202) dX4_book_42 ?_
        obtain ⟨x154, d155, g156, h⟩ := bd2_ex h
        refine c_V (As := [.int (-1000000001 : Int32)]) (rest := []) (w' := (XC g q d155)) cx hw (c_X4_tell l g q N (-1000000001 : Int32) d x154 d155 g156) (cl_X4_45 cx.1.2.2.2.2 ⟨Nat.le_of_ble_eq_true rfl, Nat.le_of_ble_eq_true rfl⟩) (x_recv cx hw (ci := 4) rfl 0 rfl) (Ct.all (XC_ll ..)) hl.1 rfl rfl (Nat.le_of_ble_eq_true rfl) dX4_book_44 ⟨Nat.le_of_ble_eq_true rfl, Nat.le_of_ble_eq_true rfl⟩ (st1 := [.int x154]) rfl (fun H locs hw => ?_)
        exact r_i cx hr hlocks hw (pr1 h) (congrArg (fun z0 => (XC g q z0)) (pr2 h)) dX4_book_47
    · replace h := ite_f c136 h
      refine lv_aload_n hx hb dX4_book_24 rfl (lv_at hl 1 rfl) ?_
      refine lv_ldc hx hb cx.1.2.2.2.1 (cx.1.2.2.2.2 _ tw_3_177) dX4_book_25 ?_
      obtain ⟨x157, d158, g159, h⟩ := bd2_ex h
      refine c_V (As := [.int (-1000000006 : Int32)]) (rest := []) (w' := (XC g q d158)) cx hw (c_X4_tell l g q N (-1000000006 : Int32) d x157 d158 g159) (cl_X4_45 cx.1.2.2.2.2 ⟨Nat.le_of_ble_eq_true rfl, Nat.le_of_ble_eq_true rfl⟩) (x_recv cx hw (ci := 4) rfl 0 rfl) (Ct.all (XC_ll ..)) hl.1 rfl rfl (Nat.le_of_ble_eq_true rfl) dX4_book_27 ⟨Nat.le_of_ble_eq_true rfl, Nat.le_of_ble_eq_true rfl⟩ (st1 := [.int x157]) rfl (fun H locs hw => ?_)
      exact r_i cx hr hlocks hw (pr1 h) (congrArg (fun z0 => (XC g q z0)) (pr2 h)) dX4_book_30
set_option maxHeartbeats 4000000 in
set_option maxRecDepth 100000 in
theorem c_X4_read (l : Launch) (g : gE) (q : Nat → Nat) (N : Nat) (p1 : Int32) (d : XD) (r : Int32) (d' : XD) (h : f_X4_read N  p1 d = some (r, d')) : MO l yX4_read (Cond.code yX4_read cX4_read 5 (some .int) :: TB) rm_X4_read [.ref (q 0), .int p1] g ((XC g q d)) ((XC g q d')) (some (.int r)) 0 0 := by
  refine MO.of (cc := cX4_read) (maxL := 5) (ret := (some .int)) (by decide) ?_
  intro p e s m below meth c cx hw hr hlocks _
  have hx := cx.1.1
  have hb := cx.1.2.1
  refine en_go (lv := [(0, .ref (q 0)), (1, .int p1)]) (Nat.le_of_ble_eq_true rfl) rfl (fun ls hl => ?_)
  unfold f_X4_read at h
  refine lv_aload_n hx hb dX4_read_0 rfl (lv_at hl 0 rfl) ?_
  refine lv_iload_n hx hb dX4_read_1 rfl (lv_at hl 1 rfl) ?_
  obtain ⟨r1, g2, h⟩ := bd_ex h
  rcases sh_cases g2 with e4 | e4 | e4 | e4 | e4 <;> subst e4
  · replace h := sel_n h
    refine c_V (As := [.int p1]) (rest := []) (w' := (XC g q d)) cx hw (c_X4_sheetAt l g q N p1 d none g2) (cl_X4_219 cx.1.2.2.2.2 ⟨Nat.le_of_ble_eq_true rfl, Nat.le_of_ble_eq_true rfl⟩) (x_recv cx hw (ci := 4) rfl 0 rfl) (Ct.all (XC_ll ..)) hl.1 rfl rfl (Nat.le_of_ble_eq_true rfl) dX4_read_2 ⟨Nat.le_of_ble_eq_true rfl, Nat.le_of_ble_eq_true rfl⟩ (st1 := [.null]) rfl (fun H locs hw => ?_)
    refine lv_astore_nN (lv' := [(2, .null), (0, .ref (q 0)), (1, .int p1)]) hx hb dX4_read_5 rfl hl (by decide) rfl (fun ls hl => ?_)
    refine lv_aload_nN hx hb dX4_read_6 rfl (lv_at hl 0 rfl) ?_
    refine lv_ifnonnullN hx hb dX4_read_7 ?_
    refine lv_aload_n hx hb dX4_read_10 rfl (lv_at hl 1 rfl) ?_
    refine lv_ldc hx hb cx.1.2.2.2.1 (cx.1.2.2.2.2 _ tw_1_202) dX4_read_11 ?_
    obtain ⟨x5, d6, g7, h⟩ := bd2_ex h
    refine c_V (As := [.int (-1000000001 : Int32)]) (rest := []) (w' := (XC g q d6)) cx hw (c_X4_tell l g q N (-1000000001 : Int32) d x5 d6 g7) (cl_X4_45 cx.1.2.2.2.2 ⟨Nat.le_of_ble_eq_true rfl, Nat.le_of_ble_eq_true rfl⟩) (x_recv cx hw (ci := 4) rfl 0 rfl) (Ct.all (XC_ll ..)) hl.1 rfl rfl (Nat.le_of_ble_eq_true rfl) dX4_read_13 ⟨Nat.le_of_ble_eq_true rfl, Nat.le_of_ble_eq_true rfl⟩ (st1 := [.int x5]) rfl (fun H locs hw => ?_)
    exact r_i cx hr hlocks hw (pr1 h) (congrArg (fun z0 => (XC g q z0)) (pr2 h)) dX4_read_16
  · replace h := sel_s h
    refine c_V (As := [.int p1]) (rest := []) (w' := (XC g q d)) cx hw (c_X4_sheetAt l g q N p1 d (some 0) g2) (cl_X4_219 cx.1.2.2.2.2 ⟨Nat.le_of_ble_eq_true rfl, Nat.le_of_ble_eq_true rfl⟩) (x_recv cx hw (ci := 4) rfl 0 rfl) (Ct.all (XC_ll ..)) hl.1 rfl rfl (Nat.le_of_ble_eq_true rfl) dX4_read_2 ⟨Nat.le_of_ble_eq_true rfl, Nat.le_of_ble_eq_true rfl⟩ (st1 := [.ref (qs 45 q 0)]) rfl (fun H locs hw => ?_)
    have L50 : ∀ (n50 : Nat) (a3 : Int32) (a4 : Int32) (d_ : XD) (H : Heap) (locs : List Loc) (ls : Array Slot), Wd g (va_A ((XC g q d)) s.heap.size) ((XC g q d_)) s H locs → lv_has ls 5 [(0, .ref (q 0)), (2, .ref (qs 45 q 0)), (3, .int a3), (4, .int a4)] → f_X4_read_L50 N 0  n50 a3 a4 d_ = some (r, d') → W p l e rm_X4_read s m ([.ref (q 0), .int p1] : List Value).toArray below meth c H locs 0 0 (MQ below (QO (some (.int r)) g ((XC g q d')) (va_A ((XC g q d)) s.heap.size)) ([.ref (q 0), .int p1] : List Value).toArray s 0 0 (va_A ((XC g q d)) s.heap.size)) (F0 m 50 ls []) := by
      intro n50
      induction n50 with
      | zero => intro a3 a4 d_ H locs ls hw hl h; exact (Option.some_ne_none _ h.symm).elim
      | succ n50 ih50 =>
        intro a3 a4 d_ H locs ls hw hl h
        rw [f_X4_read_L50] at h
        refine lv_iload hx hb dX4_read_50 (lv_at hl 3 rfl) ?_
        refine lv_bipush (v := 9) hx hb dX4_read_52 (by decide) ?_
        refine lv_icmp_ge (tgt := 83) hx hb dX4_read_54 (by decide) (fun c37 => ?_) (fun c37 => ?_)
        · replace h := ite_t c37 h
          refine lv_aload_n hx hb dX4_read_83 rfl (lv_at hl 0 rfl) ?_
          refine gf_X4_19 cx hw 0 rfl rfl dX4_read_84 ?_
          refine lv_aload_n hx hb dX4_read_87 rfl (lv_at hl 1 rfl) ?_
          obtain ⟨x38, g39, h⟩ := bd_ex h
          refine c_V (As := []) (rest := [.ref (qs 27 q 0)]) (w' := (XC g q d_)) cx hw (c_X0_lookTold l g (qs 45 q) N  (sAt (x_sheets d_) 0) x38 g39) (cl_X4_258 cx.1.2.2.2.2 ⟨Nat.le_of_ble_eq_true rfl, Nat.le_of_ble_eq_true rfl⟩) (x_recv cx hw (ci := 0) rfl 45 rfl) (ct_X__45_46__S g q d_ ) hl.1 rfl rfl (Nat.le_of_ble_eq_true rfl) dX4_read_88 ⟨Nat.le_of_ble_eq_true rfl, Nat.le_of_ble_eq_true rfl⟩ (st1 := [.int x38, .ref (qs 27 q 0)]) rfl (fun H locs hw => ?_)
          obtain ⟨x40, d41, g42, h⟩ := bd2_ex h
          refine c_V (As := [.int x38]) (rest := []) (w' := (XC g q (x_set_trial d_ d41))) cx hw (c_X3_heirOfStranger l g (qs 27 q) N x38 (x_trial d_) x40 d41 g42) (cl_X4_264 cx.1.2.2.2.2 ⟨Nat.le_of_ble_eq_true rfl, Nat.le_of_ble_eq_true rfl⟩) (x_recv cx hw (ci := 3) rfl 27 rfl) (ct_X__27_28_29_30_31_32_33_34_35_36_37_38_39__V_0 g q d_ d41) hl.1 rfl rfl (Nat.le_of_ble_eq_true rfl) dX4_read_91 ⟨Nat.le_of_ble_eq_true rfl, Nat.le_of_ble_eq_true rfl⟩ (st1 := [.int x40]) rfl (fun H locs hw => ?_)
          obtain ⟨d43, ed43, h⟩ := lt_ex h
          have hw : Wd g (va_A ((XC g q d)) s.heap.size) ((XC g q d43)) s H locs := by rw [ed43]; exact hw
          refine lv_istore (lv' := [(4, .int x40), (0, .ref (q 0)), (2, .ref (qs 45 q 0)), (3, .int a3)]) hx hb dX4_read_94 hl (by decide) rfl (fun ls hl => ?_)
          refine lv_iload hx hb dX4_read_96 (lv_at hl 0 rfl) ?_
          refine lv_iconst (v := -1) hx hb dX4_read_98 (by decide) ?_
          refine lv_icmp_ne (tgt := 111) hx hb dX4_read_99 (by decide) (fun c44 => ?_) (fun c44 => ?_)
          · replace h := ite_f c44 h
            refine lv_iload hx hb dX4_read_111 (lv_at hl 0 rfl) ?_
            exact r_i cx hr hlocks hw (pr1 h) (congrArg (fun z0 => (XC g q z0)) (pr2 h)) dX4_read_113
          · replace h := ite_t c44 h
            refine lv_aload_n hx hb dX4_read_102 rfl (lv_at hl 1 rfl) ?_
            refine lv_ldc hx hb cx.1.2.2.2.1 (cx.1.2.2.2.2 _ tw_2_92) dX4_read_103 ?_
            obtain ⟨x45, d46, g47, h⟩ := bd2_ex h
            refine c_V (As := [.int (-1000000004 : Int32)]) (rest := []) (w' := (XC g q d46)) cx hw (c_X4_tell l g q N (-1000000004 : Int32) d43 x45 d46 g47) (cl_X4_45 cx.1.2.2.2.2 ⟨Nat.le_of_ble_eq_true rfl, Nat.le_of_ble_eq_true rfl⟩) (x_recv cx hw (ci := 4) rfl 0 rfl) (Ct.all (XC_ll ..)) hl.1 rfl rfl (Nat.le_of_ble_eq_true rfl) dX4_read_105 ⟨Nat.le_of_ble_eq_true rfl, Nat.le_of_ble_eq_true rfl⟩ (st1 := [.int x45]) rfl (fun H locs hw => ?_)
            refine lv_goto (tgt := 113) hx hb dX4_read_108 (by decide) ?_
            exact r_i cx hr hlocks hw (pr1 h) (congrArg (fun z0 => (XC g q z0)) (pr2 h)) dX4_read_113
        · replace h := ite_f c37 h
          refine lv_iload_n hx hb dX4_read_57 rfl (lv_at hl 2 rfl) ?_
          refine lv_iload hx hb dX4_read_58 (lv_at hl 3 rfl) ?_
          refine lv_ishr hx hb dX4_read_60 ?_
          refine lv_iconst (v := 1) hx hb dX4_read_61 (by decide) ?_
          refine lv_iand hx hb dX4_read_62 ?_
          refine lv_if_ne (tgt := 77) hx hb dX4_read_63 (by decide) (fun c48 => ?_) (fun c48 => ?_)
          · replace h := ite_f c48 h
            obtain ⟨x49, ex49⟩ : ∃ y : Int32, y = (a4 + 1) := ⟨_, rfl⟩
            replace h := lt_nx ex49 h
            refine lv_iinc (v := x49) (lv' := [(4, .int x49), (0, .ref (q 0)), (2, .ref (qs 45 q 0)), (3, .int a3)]) hx hb dX4_read_77 hl (k := 3) rfl (by rw [ex49]; rfl) (by decide) rfl (fun ls hl => ?_)
            refine lv_goto (tgt := 50) hx hb dX4_read_80 (by decide) ?_
            exact ih50 a3 x49 d_ _ _ _ hw (lv_sub hl [1, 2, 3, 0] rfl) h
          · replace h := ite_t c48 h
            refine lv_aload_n hx hb dX4_read_66 rfl (lv_at hl 0 rfl) ?_
            refine gf_X4_19 cx hw 0 rfl rfl dX4_read_67 ?_
            refine lv_iload hx hb dX4_read_70 (lv_at hl 3 rfl) ?_
            refine lv_iconst (v := 0) hx hb dX4_read_72 (by decide) ?_
            obtain ⟨x50, d51, g52, h⟩ := bd2_ex h
            refine c_V (As := [.int a4, .int (0 : Int32)]) (rest := []) (w' := (XC g q (x_set_trial d_ d51))) cx hw (c_X3_putWeight l g (qs 27 q) N a4 (0 : Int32) (x_trial d_) x50 d51 g52) (cl_X4_49 cx.1.2.2.2.2 ⟨Nat.le_of_ble_eq_true rfl, Nat.le_of_ble_eq_true rfl⟩) (x_recv cx hw (ci := 3) rfl 27 rfl) (ct_X__27_28_29_30_31_32_33_34_35_36_37_38_39__V_0 g q d_ d51) hl.1 rfl rfl (Nat.le_of_ble_eq_true rfl) dX4_read_73 ⟨Nat.le_of_ble_eq_true rfl, Nat.le_of_ble_eq_true rfl⟩ (st1 := [.int x50]) rfl (fun H locs hw => ?_)
            obtain ⟨d53, ed53, h⟩ := lt_ex h
            have hw : Wd g (va_A ((XC g q d)) s.heap.size) ((XC g q d53)) s H locs := by rw [ed53]; exact hw
            refine lv_pop hx hb dX4_read_76 rfl ?_
            obtain ⟨x54, ex54⟩ : ∃ y : Int32, y = (a4 + 1) := ⟨_, rfl⟩
            replace h := lt_nx ex54 h
            refine lv_iinc (v := x54) (lv' := [(4, .int x54), (0, .ref (q 0)), (2, .ref (qs 45 q 0)), (3, .int a3)]) hx hb dX4_read_77 hl (k := 3) rfl (by rw [ex54]; rfl) (by decide) rfl (fun ls hl => ?_)
            refine lv_goto (tgt := 50) hx hb dX4_read_80 (by decide) ?_
            exact ih50 a3 x54 d53 _ _ _ hw (lv_sub hl [1, 2, 3, 0] rfl) h
    refine lv_astore_n (lv' := [(2, .ref (qs 45 q 0)), (0, .ref (q 0)), (1, .int p1)]) hx hb dX4_read_5 rfl hl (by decide) rfl (fun ls hl => ?_)
    refine lv_aload_n hx hb dX4_read_6 rfl (lv_at hl 0 rfl) ?_
    refine lv_ifnonnull (tgt := 17) hx hb dX4_read_7 (by decide) ?_
    refine lv_aload_n hx hb dX4_read_17 rfl (lv_at hl 0 rfl) ?_
    obtain ⟨x8, g9, h⟩ := bd_ex h
    refine c_V (As := []) (rest := []) (w' := (XC g q d)) cx hw (c_X0_isMissing l g (qs 45 q) N  (sAt (x_sheets d) 0) x8 g9) (cl_X4_227 cx.1.2.2.2.2 ⟨Nat.le_of_ble_eq_true rfl, Nat.le_of_ble_eq_true rfl⟩) (x_recv cx hw (ci := 0) rfl 45 rfl) (ct_X__45_46__S g q d ) hl.1 rfl rfl (Nat.le_of_ble_eq_true rfl) dX4_read_18 ⟨Nat.le_of_ble_eq_true rfl, Nat.le_of_ble_eq_true rfl⟩ (st1 := [.int x8]) rfl (fun H locs hw => ?_)
    refine lv_if_eq (tgt := 31) hx hb dX4_read_21 (by decide) (fun c10 => ?_) (fun c10 => ?_)
    · replace h := ite_t c10 h
      refine lv_aload_n hx hb dX4_read_31 rfl (lv_at hl 1 rfl) ?_
      refine gf_X4_19 cx hw 0 rfl rfl dX4_read_32 ?_
      refine lv_aload_n hx hb dX4_read_35 rfl (lv_at hl 1 rfl) ?_
      refine gf_X4_12 cx hw 0 rfl rfl dX4_read_36 ?_
      obtain ⟨d11, g12, h⟩ := bd_ex h
      refine c_V (As := [.ref (qs 1 q 0)]) (rest := []) (w' := (XC g q (x_set_trial d d11))) cx hw (c_X3_takeFrom l g (qs 27 q) (qs 1 q) N  (x_trial d) (x_valley d) d11 g12) (cl_X4_164 cx.1.2.2.2.2 ⟨Nat.le_of_ble_eq_true rfl, Nat.le_of_ble_eq_true rfl⟩) (x_recv cx hw (ci := 3) rfl 27 rfl) (ct_X__27_28_29_30_31_32_33_34_35_36_37_38_39_1_2_3_4_5_6_7_8_9_10_11_12_13__V_V_0 g q d d11) hl.1 rfl rfl (Nat.le_of_ble_eq_true rfl) dX4_read_39 ⟨Nat.le_of_ble_eq_true rfl, Nat.le_of_ble_eq_true rfl⟩ (st1 := []) rfl (fun H locs hw => ?_)
      obtain ⟨d13, ed13, h⟩ := lt_ex h
      have hw : Wd g (va_A ((XC g q d)) s.heap.size) ((XC g q d13)) s H locs := by rw [ed13]; exact hw
      refine lv_aload_n hx hb dX4_read_42 rfl (lv_at hl 0 rfl) ?_
      obtain ⟨x14, g15, h⟩ := bd_ex h
      refine c_V (As := []) (rest := []) (w' := (XC g q d13)) cx hw (c_X0_marksTold l g (qs 45 q) N  (sAt (x_sheets d13) 0) x14 g15) (cl_X4_255 cx.1.2.2.2.2 ⟨Nat.le_of_ble_eq_true rfl, Nat.le_of_ble_eq_true rfl⟩) (x_recv cx hw (ci := 0) rfl 45 rfl) (ct_X__45_46__S g q d13 ) hl.1 rfl rfl (Nat.le_of_ble_eq_true rfl) dX4_read_43 ⟨Nat.le_of_ble_eq_true rfl, Nat.le_of_ble_eq_true rfl⟩ (st1 := [.int x14]) rfl (fun H locs hw => ?_)
      refine lv_istore_n (lv' := [(3, .int x14), (2, .ref (qs 45 q 0)), (0, .ref (q 0)), (1, .int p1)]) hx hb dX4_read_46 rfl hl (by decide) rfl (fun ls hl => ?_)
      refine lv_iconst (v := 0) hx hb dX4_read_47 (by decide) ?_
      refine lv_istore (lv' := [(4, .int (0 : Int32)), (3, .int x14), (2, .ref (qs 45 q 0)), (0, .ref (q 0)), (1, .int p1)]) hx hb dX4_read_48 hl (by decide) rfl (fun ls hl => ?_)
      exact L50 N x14 (0 : Int32) d13 _ _ _ hw (lv_sub hl [3, 2, 1, 0] rfl) h
    · replace h := ite_f c10 h
      refine lv_aload_n hx hb dX4_read_24 rfl (lv_at hl 1 rfl) ?_
      refine lv_ldc hx hb cx.1.2.2.2.1 (cx.1.2.2.2.2 _ tw_3_177) dX4_read_25 ?_
      obtain ⟨x16, d17, g18, h⟩ := bd2_ex h
      refine c_V (As := [.int (-1000000006 : Int32)]) (rest := []) (w' := (XC g q d17)) cx hw (c_X4_tell l g q N (-1000000006 : Int32) d x16 d17 g18) (cl_X4_45 cx.1.2.2.2.2 ⟨Nat.le_of_ble_eq_true rfl, Nat.le_of_ble_eq_true rfl⟩) (x_recv cx hw (ci := 4) rfl 0 rfl) (Ct.all (XC_ll ..)) hl.1 rfl rfl (Nat.le_of_ble_eq_true rfl) dX4_read_27 ⟨Nat.le_of_ble_eq_true rfl, Nat.le_of_ble_eq_true rfl⟩ (st1 := [.int x16]) rfl (fun H locs hw => ?_)
      exact r_i cx hr hlocks hw (pr1 h) (congrArg (fun z0 => (XC g q z0)) (pr2 h)) dX4_read_30
  · replace h := sel_s h
    refine c_V (As := [.int p1]) (rest := []) (w' := (XC g q d)) cx hw (c_X4_sheetAt l g q N p1 d (some 1) g2) (cl_X4_219 cx.1.2.2.2.2 ⟨Nat.le_of_ble_eq_true rfl, Nat.le_of_ble_eq_true rfl⟩) (x_recv cx hw (ci := 4) rfl 0 rfl) (Ct.all (XC_ll ..)) hl.1 rfl rfl (Nat.le_of_ble_eq_true rfl) dX4_read_2 ⟨Nat.le_of_ble_eq_true rfl, Nat.le_of_ble_eq_true rfl⟩ (st1 := [.ref (qs 47 q 0)]) rfl (fun H locs hw => ?_)
    have L50 : ∀ (n50 : Nat) (a3 : Int32) (a4 : Int32) (d_ : XD) (H : Heap) (locs : List Loc) (ls : Array Slot), Wd g (va_A ((XC g q d)) s.heap.size) ((XC g q d_)) s H locs → lv_has ls 5 [(0, .ref (q 0)), (2, .ref (qs 47 q 0)), (3, .int a3), (4, .int a4)] → f_X4_read_L50 N 1  n50 a3 a4 d_ = some (r, d') → W p l e rm_X4_read s m ([.ref (q 0), .int p1] : List Value).toArray below meth c H locs 0 0 (MQ below (QO (some (.int r)) g ((XC g q d')) (va_A ((XC g q d)) s.heap.size)) ([.ref (q 0), .int p1] : List Value).toArray s 0 0 (va_A ((XC g q d)) s.heap.size)) (F0 m 50 ls []) := by
      intro n50
      induction n50 with
      | zero => intro a3 a4 d_ H locs ls hw hl h; exact (Option.some_ne_none _ h.symm).elim
      | succ n50 ih50 =>
        intro a3 a4 d_ H locs ls hw hl h
        rw [f_X4_read_L50] at h
        refine lv_iload hx hb dX4_read_50 (lv_at hl 3 rfl) ?_
        refine lv_bipush (v := 9) hx hb dX4_read_52 (by decide) ?_
        refine lv_icmp_ge (tgt := 83) hx hb dX4_read_54 (by decide) (fun c84 => ?_) (fun c84 => ?_)
        · replace h := ite_t c84 h
          refine lv_aload_n hx hb dX4_read_83 rfl (lv_at hl 0 rfl) ?_
          refine gf_X4_19 cx hw 0 rfl rfl dX4_read_84 ?_
          refine lv_aload_n hx hb dX4_read_87 rfl (lv_at hl 1 rfl) ?_
          obtain ⟨x85, g86, h⟩ := bd_ex h
          refine c_V (As := []) (rest := [.ref (qs 27 q 0)]) (w' := (XC g q d_)) cx hw (c_X0_lookTold l g (qs 47 q) N  (sAt (x_sheets d_) 1) x85 g86) (cl_X4_258 cx.1.2.2.2.2 ⟨Nat.le_of_ble_eq_true rfl, Nat.le_of_ble_eq_true rfl⟩) (x_recv cx hw (ci := 0) rfl 47 rfl) (ct_X__47_48__S g q d_ ) hl.1 rfl rfl (Nat.le_of_ble_eq_true rfl) dX4_read_88 ⟨Nat.le_of_ble_eq_true rfl, Nat.le_of_ble_eq_true rfl⟩ (st1 := [.int x85, .ref (qs 27 q 0)]) rfl (fun H locs hw => ?_)
          obtain ⟨x87, d88, g89, h⟩ := bd2_ex h
          refine c_V (As := [.int x85]) (rest := []) (w' := (XC g q (x_set_trial d_ d88))) cx hw (c_X3_heirOfStranger l g (qs 27 q) N x85 (x_trial d_) x87 d88 g89) (cl_X4_264 cx.1.2.2.2.2 ⟨Nat.le_of_ble_eq_true rfl, Nat.le_of_ble_eq_true rfl⟩) (x_recv cx hw (ci := 3) rfl 27 rfl) (ct_X__27_28_29_30_31_32_33_34_35_36_37_38_39__V_0 g q d_ d88) hl.1 rfl rfl (Nat.le_of_ble_eq_true rfl) dX4_read_91 ⟨Nat.le_of_ble_eq_true rfl, Nat.le_of_ble_eq_true rfl⟩ (st1 := [.int x87]) rfl (fun H locs hw => ?_)
          obtain ⟨d90, ed90, h⟩ := lt_ex h
          have hw : Wd g (va_A ((XC g q d)) s.heap.size) ((XC g q d90)) s H locs := by rw [ed90]; exact hw
          refine lv_istore (lv' := [(4, .int x87), (0, .ref (q 0)), (2, .ref (qs 47 q 0)), (3, .int a3)]) hx hb dX4_read_94 hl (by decide) rfl (fun ls hl => ?_)
          refine lv_iload hx hb dX4_read_96 (lv_at hl 0 rfl) ?_
          refine lv_iconst (v := -1) hx hb dX4_read_98 (by decide) ?_
          refine lv_icmp_ne (tgt := 111) hx hb dX4_read_99 (by decide) (fun c91 => ?_) (fun c91 => ?_)
          · replace h := ite_f c91 h
            refine lv_iload hx hb dX4_read_111 (lv_at hl 0 rfl) ?_
            exact r_i cx hr hlocks hw (pr1 h) (congrArg (fun z0 => (XC g q z0)) (pr2 h)) dX4_read_113
          · replace h := ite_t c91 h
            refine lv_aload_n hx hb dX4_read_102 rfl (lv_at hl 1 rfl) ?_
            refine lv_ldc hx hb cx.1.2.2.2.1 (cx.1.2.2.2.2 _ tw_2_92) dX4_read_103 ?_
            obtain ⟨x92, d93, g94, h⟩ := bd2_ex h
            refine c_V (As := [.int (-1000000004 : Int32)]) (rest := []) (w' := (XC g q d93)) cx hw (c_X4_tell l g q N (-1000000004 : Int32) d90 x92 d93 g94) (cl_X4_45 cx.1.2.2.2.2 ⟨Nat.le_of_ble_eq_true rfl, Nat.le_of_ble_eq_true rfl⟩) (x_recv cx hw (ci := 4) rfl 0 rfl) (Ct.all (XC_ll ..)) hl.1 rfl rfl (Nat.le_of_ble_eq_true rfl) dX4_read_105 ⟨Nat.le_of_ble_eq_true rfl, Nat.le_of_ble_eq_true rfl⟩ (st1 := [.int x92]) rfl (fun H locs hw => ?_)
            refine lv_goto (tgt := 113) hx hb dX4_read_108 (by decide) ?_
            exact r_i cx hr hlocks hw (pr1 h) (congrArg (fun z0 => (XC g q z0)) (pr2 h)) dX4_read_113
        · replace h := ite_f c84 h
          refine lv_iload_n hx hb dX4_read_57 rfl (lv_at hl 2 rfl) ?_
          refine lv_iload hx hb dX4_read_58 (lv_at hl 3 rfl) ?_
          refine lv_ishr hx hb dX4_read_60 ?_
          refine lv_iconst (v := 1) hx hb dX4_read_61 (by decide) ?_
          refine lv_iand hx hb dX4_read_62 ?_
          refine lv_if_ne (tgt := 77) hx hb dX4_read_63 (by decide) (fun c95 => ?_) (fun c95 => ?_)
          · replace h := ite_f c95 h
            obtain ⟨x96, ex96⟩ : ∃ y : Int32, y = (a4 + 1) := ⟨_, rfl⟩
            replace h := lt_nx ex96 h
            refine lv_iinc (v := x96) (lv' := [(4, .int x96), (0, .ref (q 0)), (2, .ref (qs 47 q 0)), (3, .int a3)]) hx hb dX4_read_77 hl (k := 3) rfl (by rw [ex96]; rfl) (by decide) rfl (fun ls hl => ?_)
            refine lv_goto (tgt := 50) hx hb dX4_read_80 (by decide) ?_
            exact ih50 a3 x96 d_ _ _ _ hw (lv_sub hl [1, 2, 3, 0] rfl) h
          · replace h := ite_t c95 h
            refine lv_aload_n hx hb dX4_read_66 rfl (lv_at hl 0 rfl) ?_
            refine gf_X4_19 cx hw 0 rfl rfl dX4_read_67 ?_
            refine lv_iload hx hb dX4_read_70 (lv_at hl 3 rfl) ?_
            refine lv_iconst (v := 0) hx hb dX4_read_72 (by decide) ?_
            obtain ⟨x97, d98, g99, h⟩ := bd2_ex h
            refine c_V (As := [.int a4, .int (0 : Int32)]) (rest := []) (w' := (XC g q (x_set_trial d_ d98))) cx hw (c_X3_putWeight l g (qs 27 q) N a4 (0 : Int32) (x_trial d_) x97 d98 g99) (cl_X4_49 cx.1.2.2.2.2 ⟨Nat.le_of_ble_eq_true rfl, Nat.le_of_ble_eq_true rfl⟩) (x_recv cx hw (ci := 3) rfl 27 rfl) (ct_X__27_28_29_30_31_32_33_34_35_36_37_38_39__V_0 g q d_ d98) hl.1 rfl rfl (Nat.le_of_ble_eq_true rfl) dX4_read_73 ⟨Nat.le_of_ble_eq_true rfl, Nat.le_of_ble_eq_true rfl⟩ (st1 := [.int x97]) rfl (fun H locs hw => ?_)
            obtain ⟨d100, ed100, h⟩ := lt_ex h
            have hw : Wd g (va_A ((XC g q d)) s.heap.size) ((XC g q d100)) s H locs := by rw [ed100]; exact hw
            refine lv_pop hx hb dX4_read_76 rfl ?_
            obtain ⟨x101, ex101⟩ : ∃ y : Int32, y = (a4 + 1) := ⟨_, rfl⟩
            replace h := lt_nx ex101 h
            refine lv_iinc (v := x101) (lv' := [(4, .int x101), (0, .ref (q 0)), (2, .ref (qs 47 q 0)), (3, .int a3)]) hx hb dX4_read_77 hl (k := 3) rfl (by rw [ex101]; rfl) (by decide) rfl (fun ls hl => ?_)
            refine lv_goto (tgt := 50) hx hb dX4_read_80 (by decide) ?_
            exact ih50 a3 x101 d100 _ _ _ hw (lv_sub hl [1, 2, 3, 0] rfl) h
    refine lv_astore_n (lv' := [(2, .ref (qs 47 q 0)), (0, .ref (q 0)), (1, .int p1)]) hx hb dX4_read_5 rfl hl (by decide) rfl (fun ls hl => ?_)
    refine lv_aload_n hx hb dX4_read_6 rfl (lv_at hl 0 rfl) ?_
    refine lv_ifnonnull (tgt := 17) hx hb dX4_read_7 (by decide) ?_
    refine lv_aload_n hx hb dX4_read_17 rfl (lv_at hl 0 rfl) ?_
    obtain ⟨x55, g56, h⟩ := bd_ex h
    refine c_V (As := []) (rest := []) (w' := (XC g q d)) cx hw (c_X0_isMissing l g (qs 47 q) N  (sAt (x_sheets d) 1) x55 g56) (cl_X4_227 cx.1.2.2.2.2 ⟨Nat.le_of_ble_eq_true rfl, Nat.le_of_ble_eq_true rfl⟩) (x_recv cx hw (ci := 0) rfl 47 rfl) (ct_X__47_48__S g q d ) hl.1 rfl rfl (Nat.le_of_ble_eq_true rfl) dX4_read_18 ⟨Nat.le_of_ble_eq_true rfl, Nat.le_of_ble_eq_true rfl⟩ (st1 := [.int x55]) rfl (fun H locs hw => ?_)
    refine lv_if_eq (tgt := 31) hx hb dX4_read_21 (by decide) (fun c57 => ?_) (fun c57 => ?_)
    · replace h := ite_t c57 h
      refine lv_aload_n hx hb dX4_read_31 rfl (lv_at hl 1 rfl) ?_
      refine gf_X4_19 cx hw 0 rfl rfl dX4_read_32 ?_
      refine lv_aload_n hx hb dX4_read_35 rfl (lv_at hl 1 rfl) ?_
      refine gf_X4_12 cx hw 0 rfl rfl dX4_read_36 ?_
      obtain ⟨d58, g59, h⟩ := bd_ex h
      refine c_V (As := [.ref (qs 1 q 0)]) (rest := []) (w' := (XC g q (x_set_trial d d58))) cx hw (c_X3_takeFrom l g (qs 27 q) (qs 1 q) N  (x_trial d) (x_valley d) d58 g59) (cl_X4_164 cx.1.2.2.2.2 ⟨Nat.le_of_ble_eq_true rfl, Nat.le_of_ble_eq_true rfl⟩) (x_recv cx hw (ci := 3) rfl 27 rfl) (ct_X__27_28_29_30_31_32_33_34_35_36_37_38_39_1_2_3_4_5_6_7_8_9_10_11_12_13__V_V_0 g q d d58) hl.1 rfl rfl (Nat.le_of_ble_eq_true rfl) dX4_read_39 ⟨Nat.le_of_ble_eq_true rfl, Nat.le_of_ble_eq_true rfl⟩ (st1 := []) rfl (fun H locs hw => ?_)
      obtain ⟨d60, ed60, h⟩ := lt_ex h
      have hw : Wd g (va_A ((XC g q d)) s.heap.size) ((XC g q d60)) s H locs := by rw [ed60]; exact hw
      refine lv_aload_n hx hb dX4_read_42 rfl (lv_at hl 0 rfl) ?_
      obtain ⟨x61, g62, h⟩ := bd_ex h
      refine c_V (As := []) (rest := []) (w' := (XC g q d60)) cx hw (c_X0_marksTold l g (qs 47 q) N  (sAt (x_sheets d60) 1) x61 g62) (cl_X4_255 cx.1.2.2.2.2 ⟨Nat.le_of_ble_eq_true rfl, Nat.le_of_ble_eq_true rfl⟩) (x_recv cx hw (ci := 0) rfl 47 rfl) (ct_X__47_48__S g q d60 ) hl.1 rfl rfl (Nat.le_of_ble_eq_true rfl) dX4_read_43 ⟨Nat.le_of_ble_eq_true rfl, Nat.le_of_ble_eq_true rfl⟩ (st1 := [.int x61]) rfl (fun H locs hw => ?_)
      refine lv_istore_n (lv' := [(3, .int x61), (2, .ref (qs 47 q 0)), (0, .ref (q 0)), (1, .int p1)]) hx hb dX4_read_46 rfl hl (by decide) rfl (fun ls hl => ?_)
      refine lv_iconst (v := 0) hx hb dX4_read_47 (by decide) ?_
      refine lv_istore (lv' := [(4, .int (0 : Int32)), (3, .int x61), (2, .ref (qs 47 q 0)), (0, .ref (q 0)), (1, .int p1)]) hx hb dX4_read_48 hl (by decide) rfl (fun ls hl => ?_)
      exact L50 N x61 (0 : Int32) d60 _ _ _ hw (lv_sub hl [3, 2, 1, 0] rfl) h
    · replace h := ite_f c57 h
      refine lv_aload_n hx hb dX4_read_24 rfl (lv_at hl 1 rfl) ?_
      refine lv_ldc hx hb cx.1.2.2.2.1 (cx.1.2.2.2.2 _ tw_3_177) dX4_read_25 ?_
      obtain ⟨x63, d64, g65, h⟩ := bd2_ex h
      refine c_V (As := [.int (-1000000006 : Int32)]) (rest := []) (w' := (XC g q d64)) cx hw (c_X4_tell l g q N (-1000000006 : Int32) d x63 d64 g65) (cl_X4_45 cx.1.2.2.2.2 ⟨Nat.le_of_ble_eq_true rfl, Nat.le_of_ble_eq_true rfl⟩) (x_recv cx hw (ci := 4) rfl 0 rfl) (Ct.all (XC_ll ..)) hl.1 rfl rfl (Nat.le_of_ble_eq_true rfl) dX4_read_27 ⟨Nat.le_of_ble_eq_true rfl, Nat.le_of_ble_eq_true rfl⟩ (st1 := [.int x63]) rfl (fun H locs hw => ?_)
      exact r_i cx hr hlocks hw (pr1 h) (congrArg (fun z0 => (XC g q z0)) (pr2 h)) dX4_read_30
  · replace h := sel_s h
    refine c_V (As := [.int p1]) (rest := []) (w' := (XC g q d)) cx hw (c_X4_sheetAt l g q N p1 d (some 2) g2) (cl_X4_219 cx.1.2.2.2.2 ⟨Nat.le_of_ble_eq_true rfl, Nat.le_of_ble_eq_true rfl⟩) (x_recv cx hw (ci := 4) rfl 0 rfl) (Ct.all (XC_ll ..)) hl.1 rfl rfl (Nat.le_of_ble_eq_true rfl) dX4_read_2 ⟨Nat.le_of_ble_eq_true rfl, Nat.le_of_ble_eq_true rfl⟩ (st1 := [.ref (qs 49 q 0)]) rfl (fun H locs hw => ?_)
    have L50 : ∀ (n50 : Nat) (a3 : Int32) (a4 : Int32) (d_ : XD) (H : Heap) (locs : List Loc) (ls : Array Slot), Wd g (va_A ((XC g q d)) s.heap.size) ((XC g q d_)) s H locs → lv_has ls 5 [(0, .ref (q 0)), (2, .ref (qs 49 q 0)), (3, .int a3), (4, .int a4)] → f_X4_read_L50 N 2  n50 a3 a4 d_ = some (r, d') → W p l e rm_X4_read s m ([.ref (q 0), .int p1] : List Value).toArray below meth c H locs 0 0 (MQ below (QO (some (.int r)) g ((XC g q d')) (va_A ((XC g q d)) s.heap.size)) ([.ref (q 0), .int p1] : List Value).toArray s 0 0 (va_A ((XC g q d)) s.heap.size)) (F0 m 50 ls []) := by
      intro n50
      induction n50 with
      | zero => intro a3 a4 d_ H locs ls hw hl h; exact (Option.some_ne_none _ h.symm).elim
      | succ n50 ih50 =>
        intro a3 a4 d_ H locs ls hw hl h
        rw [f_X4_read_L50] at h
        refine lv_iload hx hb dX4_read_50 (lv_at hl 3 rfl) ?_
        refine lv_bipush (v := 9) hx hb dX4_read_52 (by decide) ?_
        refine lv_icmp_ge (tgt := 83) hx hb dX4_read_54 (by decide) (fun c131 => ?_) (fun c131 => ?_)
        · replace h := ite_t c131 h
          refine lv_aload_n hx hb dX4_read_83 rfl (lv_at hl 0 rfl) ?_
          refine gf_X4_19 cx hw 0 rfl rfl dX4_read_84 ?_
          refine lv_aload_n hx hb dX4_read_87 rfl (lv_at hl 1 rfl) ?_
          obtain ⟨x132, g133, h⟩ := bd_ex h
          refine c_V (As := []) (rest := [.ref (qs 27 q 0)]) (w' := (XC g q d_)) cx hw (c_X0_lookTold l g (qs 49 q) N  (sAt (x_sheets d_) 2) x132 g133) (cl_X4_258 cx.1.2.2.2.2 ⟨Nat.le_of_ble_eq_true rfl, Nat.le_of_ble_eq_true rfl⟩) (x_recv cx hw (ci := 0) rfl 49 rfl) (ct_X__49_50__S g q d_ ) hl.1 rfl rfl (Nat.le_of_ble_eq_true rfl) dX4_read_88 ⟨Nat.le_of_ble_eq_true rfl, Nat.le_of_ble_eq_true rfl⟩ (st1 := [.int x132, .ref (qs 27 q 0)]) rfl (fun H locs hw => ?_)
          obtain ⟨x134, d135, g136, h⟩ := bd2_ex h
          refine c_V (As := [.int x132]) (rest := []) (w' := (XC g q (x_set_trial d_ d135))) cx hw (c_X3_heirOfStranger l g (qs 27 q) N x132 (x_trial d_) x134 d135 g136) (cl_X4_264 cx.1.2.2.2.2 ⟨Nat.le_of_ble_eq_true rfl, Nat.le_of_ble_eq_true rfl⟩) (x_recv cx hw (ci := 3) rfl 27 rfl) (ct_X__27_28_29_30_31_32_33_34_35_36_37_38_39__V_0 g q d_ d135) hl.1 rfl rfl (Nat.le_of_ble_eq_true rfl) dX4_read_91 ⟨Nat.le_of_ble_eq_true rfl, Nat.le_of_ble_eq_true rfl⟩ (st1 := [.int x134]) rfl (fun H locs hw => ?_)
          obtain ⟨d137, ed137, h⟩ := lt_ex h
          have hw : Wd g (va_A ((XC g q d)) s.heap.size) ((XC g q d137)) s H locs := by rw [ed137]; exact hw
          refine lv_istore (lv' := [(4, .int x134), (0, .ref (q 0)), (2, .ref (qs 49 q 0)), (3, .int a3)]) hx hb dX4_read_94 hl (by decide) rfl (fun ls hl => ?_)
          refine lv_iload hx hb dX4_read_96 (lv_at hl 0 rfl) ?_
          refine lv_iconst (v := -1) hx hb dX4_read_98 (by decide) ?_
          refine lv_icmp_ne (tgt := 111) hx hb dX4_read_99 (by decide) (fun c138 => ?_) (fun c138 => ?_)
          · replace h := ite_f c138 h
            refine lv_iload hx hb dX4_read_111 (lv_at hl 0 rfl) ?_
            exact r_i cx hr hlocks hw (pr1 h) (congrArg (fun z0 => (XC g q z0)) (pr2 h)) dX4_read_113
          · replace h := ite_t c138 h
            refine lv_aload_n hx hb dX4_read_102 rfl (lv_at hl 1 rfl) ?_
            refine lv_ldc hx hb cx.1.2.2.2.1 (cx.1.2.2.2.2 _ tw_2_92) dX4_read_103 ?_
            obtain ⟨x139, d140, g141, h⟩ := bd2_ex h
            refine c_V (As := [.int (-1000000004 : Int32)]) (rest := []) (w' := (XC g q d140)) cx hw (c_X4_tell l g q N (-1000000004 : Int32) d137 x139 d140 g141) (cl_X4_45 cx.1.2.2.2.2 ⟨Nat.le_of_ble_eq_true rfl, Nat.le_of_ble_eq_true rfl⟩) (x_recv cx hw (ci := 4) rfl 0 rfl) (Ct.all (XC_ll ..)) hl.1 rfl rfl (Nat.le_of_ble_eq_true rfl) dX4_read_105 ⟨Nat.le_of_ble_eq_true rfl, Nat.le_of_ble_eq_true rfl⟩ (st1 := [.int x139]) rfl (fun H locs hw => ?_)
            refine lv_goto (tgt := 113) hx hb dX4_read_108 (by decide) ?_
            exact r_i cx hr hlocks hw (pr1 h) (congrArg (fun z0 => (XC g q z0)) (pr2 h)) dX4_read_113
        · replace h := ite_f c131 h
          refine lv_iload_n hx hb dX4_read_57 rfl (lv_at hl 2 rfl) ?_
          refine lv_iload hx hb dX4_read_58 (lv_at hl 3 rfl) ?_
          refine lv_ishr hx hb dX4_read_60 ?_
          refine lv_iconst (v := 1) hx hb dX4_read_61 (by decide) ?_
          refine lv_iand hx hb dX4_read_62 ?_
          refine lv_if_ne (tgt := 77) hx hb dX4_read_63 (by decide) (fun c142 => ?_) (fun c142 => ?_)
          · replace h := ite_f c142 h
            obtain ⟨x143, ex143⟩ : ∃ y : Int32, y = (a4 + 1) := ⟨_, rfl⟩
            replace h := lt_nx ex143 h
            refine lv_iinc (v := x143) (lv' := [(4, .int x143), (0, .ref (q 0)), (2, .ref (qs 49 q 0)), (3, .int a3)]) hx hb dX4_read_77 hl (k := 3) rfl (by rw [ex143]; rfl) (by decide) rfl (fun ls hl => ?_)
            refine lv_goto (tgt := 50) hx hb dX4_read_80 (by decide) ?_
            exact ih50 a3 x143 d_ _ _ _ hw (lv_sub hl [1, 2, 3, 0] rfl) h
          · replace h := ite_t c142 h
            refine lv_aload_n hx hb dX4_read_66 rfl (lv_at hl 0 rfl) ?_
            refine gf_X4_19 cx hw 0 rfl rfl dX4_read_67 ?_
            refine lv_iload hx hb dX4_read_70 (lv_at hl 3 rfl) ?_
            refine lv_iconst (v := 0) hx hb dX4_read_72 (by decide) ?_
            obtain ⟨x144, d145, g146, h⟩ := bd2_ex h
            refine c_V (As := [.int a4, .int (0 : Int32)]) (rest := []) (w' := (XC g q (x_set_trial d_ d145))) cx hw (c_X3_putWeight l g (qs 27 q) N a4 (0 : Int32) (x_trial d_) x144 d145 g146) (cl_X4_49 cx.1.2.2.2.2 ⟨Nat.le_of_ble_eq_true rfl, Nat.le_of_ble_eq_true rfl⟩) (x_recv cx hw (ci := 3) rfl 27 rfl) (ct_X__27_28_29_30_31_32_33_34_35_36_37_38_39__V_0 g q d_ d145) hl.1 rfl rfl (Nat.le_of_ble_eq_true rfl) dX4_read_73 ⟨Nat.le_of_ble_eq_true rfl, Nat.le_of_ble_eq_true rfl⟩ (st1 := [.int x144]) rfl (fun H locs hw => ?_)
            obtain ⟨d147, ed147, h⟩ := lt_ex h
            have hw : Wd g (va_A ((XC g q d)) s.heap.size) ((XC g q d147)) s H locs := by rw [ed147]; exact hw
            refine lv_pop hx hb dX4_read_76 rfl ?_
            obtain ⟨x148, ex148⟩ : ∃ y : Int32, y = (a4 + 1) := ⟨_, rfl⟩
            replace h := lt_nx ex148 h
            refine lv_iinc (v := x148) (lv' := [(4, .int x148), (0, .ref (q 0)), (2, .ref (qs 49 q 0)), (3, .int a3)]) hx hb dX4_read_77 hl (k := 3) rfl (by rw [ex148]; rfl) (by decide) rfl (fun ls hl => ?_)
            refine lv_goto (tgt := 50) hx hb dX4_read_80 (by decide) ?_
            exact ih50 a3 x148 d147 _ _ _ hw (lv_sub hl [1, 2, 3, 0] rfl) h
    refine lv_astore_n (lv' := [(2, .ref (qs 49 q 0)), (0, .ref (q 0)), (1, .int p1)]) hx hb dX4_read_5 rfl hl (by decide) rfl (fun ls hl => ?_)
    refine lv_aload_n hx hb dX4_read_6 rfl (lv_at hl 0 rfl) ?_
    refine lv_ifnonnull (tgt := 17) hx hb dX4_read_7 (by decide) ?_
    refine lv_aload_n hx hb dX4_read_17 rfl (lv_at hl 0 rfl) ?_
    obtain ⟨x102, g103, h⟩ := bd_ex h
    refine c_V (As := []) (rest := []) (w' := (XC g q d)) cx hw (c_X0_isMissing l g (qs 49 q) N  (sAt (x_sheets d) 2) x102 g103) (cl_X4_227 cx.1.2.2.2.2 ⟨Nat.le_of_ble_eq_true rfl, Nat.le_of_ble_eq_true rfl⟩) (x_recv cx hw (ci := 0) rfl 49 rfl) (ct_X__49_50__S g q d ) hl.1 rfl rfl (Nat.le_of_ble_eq_true rfl) dX4_read_18 ⟨Nat.le_of_ble_eq_true rfl, Nat.le_of_ble_eq_true rfl⟩ (st1 := [.int x102]) rfl (fun H locs hw => ?_)
    refine lv_if_eq (tgt := 31) hx hb dX4_read_21 (by decide) (fun c104 => ?_) (fun c104 => ?_)
    · replace h := ite_t c104 h
      refine lv_aload_n hx hb dX4_read_31 rfl (lv_at hl 1 rfl) ?_
      refine gf_X4_19 cx hw 0 rfl rfl dX4_read_32 ?_
      refine lv_aload_n hx hb dX4_read_35 rfl (lv_at hl 1 rfl) ?_
      refine gf_X4_12 cx hw 0 rfl rfl dX4_read_36 ?_
      obtain ⟨d105, g106, h⟩ := bd_ex h
      refine c_V (As := [.ref (qs 1 q 0)]) (rest := []) (w' := (XC g q (x_set_trial d d105))) cx hw (c_X3_takeFrom l g (qs 27 q) (qs 1 q) N  (x_trial d) (x_valley d) d105 g106) (cl_X4_164 cx.1.2.2.2.2 ⟨Nat.le_of_ble_eq_true rfl, Nat.le_of_ble_eq_true rfl⟩) (x_recv cx hw (ci := 3) rfl 27 rfl) (ct_X__27_28_29_30_31_32_33_34_35_36_37_38_39_1_2_3_4_5_6_7_8_9_10_11_12_13__V_V_0 g q d d105) hl.1 rfl rfl (Nat.le_of_ble_eq_true rfl) dX4_read_39 ⟨Nat.le_of_ble_eq_true rfl, Nat.le_of_ble_eq_true rfl⟩ (st1 := []) rfl (fun H locs hw => ?_)
      obtain ⟨d107, ed107, h⟩ := lt_ex h
      have hw : Wd g (va_A ((XC g q d)) s.heap.size) ((XC g q d107)) s H locs := by rw [ed107]; exact hw
      refine lv_aload_n hx hb dX4_read_42 rfl (lv_at hl 0 rfl) ?_
      obtain ⟨x108, g109, h⟩ := bd_ex h
      refine c_V (As := []) (rest := []) (w' := (XC g q d107)) cx hw (c_X0_marksTold l g (qs 49 q) N  (sAt (x_sheets d107) 2) x108 g109) (cl_X4_255 cx.1.2.2.2.2 ⟨Nat.le_of_ble_eq_true rfl, Nat.le_of_ble_eq_true rfl⟩) (x_recv cx hw (ci := 0) rfl 49 rfl) (ct_X__49_50__S g q d107 ) hl.1 rfl rfl (Nat.le_of_ble_eq_true rfl) dX4_read_43 ⟨Nat.le_of_ble_eq_true rfl, Nat.le_of_ble_eq_true rfl⟩ (st1 := [.int x108]) rfl (fun H locs hw => ?_)
      refine lv_istore_n (lv' := [(3, .int x108), (2, .ref (qs 49 q 0)), (0, .ref (q 0)), (1, .int p1)]) hx hb dX4_read_46 rfl hl (by decide) rfl (fun ls hl => ?_)
      refine lv_iconst (v := 0) hx hb dX4_read_47 (by decide) ?_
      refine lv_istore (lv' := [(4, .int (0 : Int32)), (3, .int x108), (2, .ref (qs 49 q 0)), (0, .ref (q 0)), (1, .int p1)]) hx hb dX4_read_48 hl (by decide) rfl (fun ls hl => ?_)
      exact L50 N x108 (0 : Int32) d107 _ _ _ hw (lv_sub hl [3, 2, 1, 0] rfl) h
    · replace h := ite_f c104 h
      refine lv_aload_n hx hb dX4_read_24 rfl (lv_at hl 1 rfl) ?_
      refine lv_ldc hx hb cx.1.2.2.2.1 (cx.1.2.2.2.2 _ tw_3_177) dX4_read_25 ?_
      obtain ⟨x110, d111, g112, h⟩ := bd2_ex h
      refine c_V (As := [.int (-1000000006 : Int32)]) (rest := []) (w' := (XC g q d111)) cx hw (c_X4_tell l g q N (-1000000006 : Int32) d x110 d111 g112) (cl_X4_45 cx.1.2.2.2.2 ⟨Nat.le_of_ble_eq_true rfl, Nat.le_of_ble_eq_true rfl⟩) (x_recv cx hw (ci := 4) rfl 0 rfl) (Ct.all (XC_ll ..)) hl.1 rfl rfl (Nat.le_of_ble_eq_true rfl) dX4_read_27 ⟨Nat.le_of_ble_eq_true rfl, Nat.le_of_ble_eq_true rfl⟩ (st1 := [.int x110]) rfl (fun H locs hw => ?_)
      exact r_i cx hr hlocks hw (pr1 h) (congrArg (fun z0 => (XC g q z0)) (pr2 h)) dX4_read_30
  · replace h := sel_s h
    refine c_V (As := [.int p1]) (rest := []) (w' := (XC g q d)) cx hw (c_X4_sheetAt l g q N p1 d (some 3) g2) (cl_X4_219 cx.1.2.2.2.2 ⟨Nat.le_of_ble_eq_true rfl, Nat.le_of_ble_eq_true rfl⟩) (x_recv cx hw (ci := 4) rfl 0 rfl) (Ct.all (XC_ll ..)) hl.1 rfl rfl (Nat.le_of_ble_eq_true rfl) dX4_read_2 ⟨Nat.le_of_ble_eq_true rfl, Nat.le_of_ble_eq_true rfl⟩ (st1 := [.ref (qs 51 q 0)]) rfl (fun H locs hw => ?_)
    have L50 : ∀ (n50 : Nat) (a3 : Int32) (a4 : Int32) (d_ : XD) (H : Heap) (locs : List Loc) (ls : Array Slot), Wd g (va_A ((XC g q d)) s.heap.size) ((XC g q d_)) s H locs → lv_has ls 5 [(0, .ref (q 0)), (2, .ref (qs 51 q 0)), (3, .int a3), (4, .int a4)] → f_X4_read_L50 N 3  n50 a3 a4 d_ = some (r, d') → W p l e rm_X4_read s m ([.ref (q 0), .int p1] : List Value).toArray below meth c H locs 0 0 (MQ below (QO (some (.int r)) g ((XC g q d')) (va_A ((XC g q d)) s.heap.size)) ([.ref (q 0), .int p1] : List Value).toArray s 0 0 (va_A ((XC g q d)) s.heap.size)) (F0 m 50 ls []) := by
      intro n50
      induction n50 with
      | zero => intro a3 a4 d_ H locs ls hw hl h; exact (Option.some_ne_none _ h.symm).elim
      | succ n50 ih50 =>
        intro a3 a4 d_ H locs ls hw hl h
        rw [f_X4_read_L50] at h
        refine lv_iload hx hb dX4_read_50 (lv_at hl 3 rfl) ?_
        refine lv_bipush (v := 9) hx hb dX4_read_52 (by decide) ?_
        refine lv_icmp_ge (tgt := 83) hx hb dX4_read_54 (by decide) (fun c178 => ?_) (fun c178 => ?_)
        · replace h := ite_t c178 h
          refine lv_aload_n hx hb dX4_read_83 rfl (lv_at hl 0 rfl) ?_
          refine gf_X4_19 cx hw 0 rfl rfl dX4_read_84 ?_
          refine lv_aload_n hx hb dX4_read_87 rfl (lv_at hl 1 rfl) ?_
          obtain ⟨x179, g180, h⟩ := bd_ex h
          refine c_V (As := []) (rest := [.ref (qs 27 q 0)]) (w' := (XC g q d_)) cx hw (c_X0_lookTold l g (qs 51 q) N  (sAt (x_sheets d_) 3) x179 g180) (cl_X4_258 cx.1.2.2.2.2 ⟨Nat.le_of_ble_eq_true rfl, Nat.le_of_ble_eq_true rfl⟩) (x_recv cx hw (ci := 0) rfl 51 rfl) (ct_X__51_52__S g q d_ ) hl.1 rfl rfl (Nat.le_of_ble_eq_true rfl) dX4_read_88 ⟨Nat.le_of_ble_eq_true rfl, Nat.le_of_ble_eq_true rfl⟩ (st1 := [.int x179, .ref (qs 27 q 0)]) rfl (fun H locs hw => ?_)
          obtain ⟨x181, d182, g183, h⟩ := bd2_ex h
          refine c_V (As := [.int x179]) (rest := []) (w' := (XC g q (x_set_trial d_ d182))) cx hw (c_X3_heirOfStranger l g (qs 27 q) N x179 (x_trial d_) x181 d182 g183) (cl_X4_264 cx.1.2.2.2.2 ⟨Nat.le_of_ble_eq_true rfl, Nat.le_of_ble_eq_true rfl⟩) (x_recv cx hw (ci := 3) rfl 27 rfl) (ct_X__27_28_29_30_31_32_33_34_35_36_37_38_39__V_0 g q d_ d182) hl.1 rfl rfl (Nat.le_of_ble_eq_true rfl) dX4_read_91 ⟨Nat.le_of_ble_eq_true rfl, Nat.le_of_ble_eq_true rfl⟩ (st1 := [.int x181]) rfl (fun H locs hw => ?_)
          obtain ⟨d184, ed184, h⟩ := lt_ex h
          have hw : Wd g (va_A ((XC g q d)) s.heap.size) ((XC g q d184)) s H locs := by rw [ed184]; exact hw
          refine lv_istore (lv' := [(4, .int x181), (0, .ref (q 0)), (2, .ref (qs 51 q 0)), (3, .int a3)]) hx hb dX4_read_94 hl (by decide) rfl (fun ls hl => ?_)
          refine lv_iload hx hb dX4_read_96 (lv_at hl 0 rfl) ?_
          refine lv_iconst (v := -1) hx hb dX4_read_98 (by decide) ?_
          refine lv_icmp_ne (tgt := 111) hx hb dX4_read_99 (by decide) (fun c185 => ?_) (fun c185 => ?_)
          · replace h := ite_f c185 h
            refine lv_iload hx hb dX4_read_111 (lv_at hl 0 rfl) ?_
            exact r_i cx hr hlocks hw (pr1 h) (congrArg (fun z0 => (XC g q z0)) (pr2 h)) dX4_read_113
          · replace h := ite_t c185 h
            refine lv_aload_n hx hb dX4_read_102 rfl (lv_at hl 1 rfl) ?_
            refine lv_ldc hx hb cx.1.2.2.2.1 (cx.1.2.2.2.2 _ tw_2_92) dX4_read_103 ?_
            obtain ⟨x186, d187, g188, h⟩ := bd2_ex h
            refine c_V (As := [.int (-1000000004 : Int32)]) (rest := []) (w' := (XC g q d187)) cx hw (c_X4_tell l g q N (-1000000004 : Int32) d184 x186 d187 g188) (cl_X4_45 cx.1.2.2.2.2 ⟨Nat.le_of_ble_eq_true rfl, Nat.le_of_ble_eq_true rfl⟩) (x_recv cx hw (ci := 4) rfl 0 rfl) (Ct.all (XC_ll ..)) hl.1 rfl rfl (Nat.le_of_ble_eq_true rfl) dX4_read_105 ⟨Nat.le_of_ble_eq_true rfl, Nat.le_of_ble_eq_true rfl⟩ (st1 := [.int x186]) rfl (fun H locs hw => ?_)
            refine lv_goto (tgt := 113) hx hb dX4_read_108 (by decide) ?_
            exact r_i cx hr hlocks hw (pr1 h) (congrArg (fun z0 => (XC g q z0)) (pr2 h)) dX4_read_113
        · replace h := ite_f c178 h
          refine lv_iload_n hx hb dX4_read_57 rfl (lv_at hl 2 rfl) ?_
          refine lv_iload hx hb dX4_read_58 (lv_at hl 3 rfl) ?_
          refine lv_ishr hx hb dX4_read_60 ?_
          refine lv_iconst (v := 1) hx hb dX4_read_61 (by decide) ?_
          refine lv_iand hx hb dX4_read_62 ?_
          refine lv_if_ne (tgt := 77) hx hb dX4_read_63 (by decide) (fun c189 => ?_) (fun c189 => ?_)
          · replace h := ite_f c189 h
            obtain ⟨x190, ex190⟩ : ∃ y : Int32, y = (a4 + 1) := ⟨_, rfl⟩
            replace h := lt_nx ex190 h
            refine lv_iinc (v := x190) (lv' := [(4, .int x190), (0, .ref (q 0)), (2, .ref (qs 51 q 0)), (3, .int a3)]) hx hb dX4_read_77 hl (k := 3) rfl (by rw [ex190]; rfl) (by decide) rfl (fun ls hl => ?_)
            refine lv_goto (tgt := 50) hx hb dX4_read_80 (by decide) ?_
            exact ih50 a3 x190 d_ _ _ _ hw (lv_sub hl [1, 2, 3, 0] rfl) h
          · replace h := ite_t c189 h
            refine lv_aload_n hx hb dX4_read_66 rfl (lv_at hl 0 rfl) ?_
            refine gf_X4_19 cx hw 0 rfl rfl dX4_read_67 ?_
            refine lv_iload hx hb dX4_read_70 (lv_at hl 3 rfl) ?_
            refine lv_iconst (v := 0) hx hb dX4_read_72 (by decide) ?_
            obtain ⟨x191, d192, g193, h⟩ := bd2_ex h
            refine c_V (As := [.int a4, .int (0 : Int32)]) (rest := []) (w' := (XC g q (x_set_trial d_ d192))) cx hw (c_X3_putWeight l g (qs 27 q) N a4 (0 : Int32) (x_trial d_) x191 d192 g193) (cl_X4_49 cx.1.2.2.2.2 ⟨Nat.le_of_ble_eq_true rfl, Nat.le_of_ble_eq_true rfl⟩) (x_recv cx hw (ci := 3) rfl 27 rfl) (ct_X__27_28_29_30_31_32_33_34_35_36_37_38_39__V_0 g q d_ d192) hl.1 rfl rfl (Nat.le_of_ble_eq_true rfl) dX4_read_73 ⟨Nat.le_of_ble_eq_true rfl, Nat.le_of_ble_eq_true rfl⟩ (st1 := [.int x191]) rfl (fun H locs hw => ?_)
            obtain ⟨d194, ed194, h⟩ := lt_ex h
            have hw : Wd g (va_A ((XC g q d)) s.heap.size) ((XC g q d194)) s H locs := by rw [ed194]; exact hw
            refine lv_pop hx hb dX4_read_76 rfl ?_
            obtain ⟨x195, ex195⟩ : ∃ y : Int32, y = (a4 + 1) := ⟨_, rfl⟩
            replace h := lt_nx ex195 h
            refine lv_iinc (v := x195) (lv' := [(4, .int x195), (0, .ref (q 0)), (2, .ref (qs 51 q 0)), (3, .int a3)]) hx hb dX4_read_77 hl (k := 3) rfl (by rw [ex195]; rfl) (by decide) rfl (fun ls hl => ?_)
            refine lv_goto (tgt := 50) hx hb dX4_read_80 (by decide) ?_
            exact ih50 a3 x195 d194 _ _ _ hw (lv_sub hl [1, 2, 3, 0] rfl) h
    refine lv_astore_n (lv' := [(2, .ref (qs 51 q 0)), (0, .ref (q 0)), (1, .int p1)]) hx hb dX4_read_5 rfl hl (by decide) rfl (fun ls hl => ?_)
    refine lv_aload_n hx hb dX4_read_6 rfl (lv_at hl 0 rfl) ?_
    refine lv_ifnonnull (tgt := 17) hx hb dX4_read_7 (by decide) ?_
    refine lv_aload_n hx hb dX4_read_17 rfl (lv_at hl 0 rfl) ?_
    obtain ⟨x149, g150, h⟩ := bd_ex h
    refine c_V (As := []) (rest := []) (w' := (XC g q d)) cx hw (c_X0_isMissing l g (qs 51 q) N  (sAt (x_sheets d) 3) x149 g150) (cl_X4_227 cx.1.2.2.2.2 ⟨Nat.le_of_ble_eq_true rfl, Nat.le_of_ble_eq_true rfl⟩) (x_recv cx hw (ci := 0) rfl 51 rfl) (ct_X__51_52__S g q d ) hl.1 rfl rfl (Nat.le_of_ble_eq_true rfl) dX4_read_18 ⟨Nat.le_of_ble_eq_true rfl, Nat.le_of_ble_eq_true rfl⟩ (st1 := [.int x149]) rfl (fun H locs hw => ?_)
    refine lv_if_eq (tgt := 31) hx hb dX4_read_21 (by decide) (fun c151 => ?_) (fun c151 => ?_)
    · replace h := ite_t c151 h
      refine lv_aload_n hx hb dX4_read_31 rfl (lv_at hl 1 rfl) ?_
      refine gf_X4_19 cx hw 0 rfl rfl dX4_read_32 ?_
      refine lv_aload_n hx hb dX4_read_35 rfl (lv_at hl 1 rfl) ?_
      refine gf_X4_12 cx hw 0 rfl rfl dX4_read_36 ?_
      obtain ⟨d152, g153, h⟩ := bd_ex h
      refine c_V (As := [.ref (qs 1 q 0)]) (rest := []) (w' := (XC g q (x_set_trial d d152))) cx hw (c_X3_takeFrom l g (qs 27 q) (qs 1 q) N  (x_trial d) (x_valley d) d152 g153) (cl_X4_164 cx.1.2.2.2.2 ⟨Nat.le_of_ble_eq_true rfl, Nat.le_of_ble_eq_true rfl⟩) (x_recv cx hw (ci := 3) rfl 27 rfl) (ct_X__27_28_29_30_31_32_33_34_35_36_37_38_39_1_2_3_4_5_6_7_8_9_10_11_12_13__V_V_0 g q d d152) hl.1 rfl rfl (Nat.le_of_ble_eq_true rfl) dX4_read_39 ⟨Nat.le_of_ble_eq_true rfl, Nat.le_of_ble_eq_true rfl⟩ (st1 := []) rfl (fun H locs hw => ?_)
      obtain ⟨d154, ed154, h⟩ := lt_ex h
      have hw : Wd g (va_A ((XC g q d)) s.heap.size) ((XC g q d154)) s H locs := by rw [ed154]; exact hw
      refine lv_aload_n hx hb dX4_read_42 rfl (lv_at hl 0 rfl) ?_
      obtain ⟨x155, g156, h⟩ := bd_ex h
      refine c_V (As := []) (rest := []) (w' := (XC g q d154)) cx hw (c_X0_marksTold l g (qs 51 q) N  (sAt (x_sheets d154) 3) x155 g156) (cl_X4_255 cx.1.2.2.2.2 ⟨Nat.le_of_ble_eq_true rfl, Nat.le_of_ble_eq_true rfl⟩) (x_recv cx hw (ci := 0) rfl 51 rfl) (ct_X__51_52__S g q d154 ) hl.1 rfl rfl (Nat.le_of_ble_eq_true rfl) dX4_read_43 ⟨Nat.le_of_ble_eq_true rfl, Nat.le_of_ble_eq_true rfl⟩ (st1 := [.int x155]) rfl (fun H locs hw => ?_)
      refine lv_istore_n (lv' := [(3, .int x155), (2, .ref (qs 51 q 0)), (0, .ref (q 0)), (1, .int p1)]) hx hb dX4_read_46 rfl hl (by decide) rfl (fun ls hl => ?_)
      refine lv_iconst (v := 0) hx hb dX4_read_47 (by decide) ?_
      refine lv_istore (lv' := [(4, .int (0 : Int32)), (3, .int x155), (2, .ref (qs 51 q 0)), (0, .ref (q 0)), (1, .int p1)]) hx hb dX4_read_48 hl (by decide) rfl (fun ls hl => ?_)
      exact L50 N x155 (0 : Int32) d154 _ _ _ hw (lv_sub hl [3, 2, 1, 0] rfl) h
    · replace h := ite_f c151 h
      refine lv_aload_n hx hb dX4_read_24 rfl (lv_at hl 1 rfl) ?_
      refine lv_ldc hx hb cx.1.2.2.2.1 (cx.1.2.2.2.2 _ tw_3_177) dX4_read_25 ?_
      obtain ⟨x157, d158, g159, h⟩ := bd2_ex h
      refine c_V (As := [.int (-1000000006 : Int32)]) (rest := []) (w' := (XC g q d158)) cx hw (c_X4_tell l g q N (-1000000006 : Int32) d x157 d158 g159) (cl_X4_45 cx.1.2.2.2.2 ⟨Nat.le_of_ble_eq_true rfl, Nat.le_of_ble_eq_true rfl⟩) (x_recv cx hw (ci := 4) rfl 0 rfl) (Ct.all (XC_ll ..)) hl.1 rfl rfl (Nat.le_of_ble_eq_true rfl) dX4_read_27 ⟨Nat.le_of_ble_eq_true rfl, Nat.le_of_ble_eq_true rfl⟩ (st1 := [.int x157]) rfl (fun H locs hw => ?_)
      exact r_i cx hr hlocks hw (pr1 h) (congrArg (fun z0 => (XC g q z0)) (pr2 h)) dX4_read_30
