def f_X4_copy (N : Nat)  (p1 : Int32) (p2 : Int32) (p3 : Int32) (p4 : Int32) (p5 : Int32) (d : XD) : Option (Int32 × XD) :=
  (f_X4_sheetAt N p1 d).bind fun r1 =>
  sel r1 (
    (f_X4_sheetAt N p3 d).bind fun r5 =>
    sel r5 (
      bd2 (f_X4_tell N (-1000000001 : Int32) d) fun x9 d10 =>
      some (x9, d10)
    ) fun i7 =>
    bd2 (f_X4_tell N (-1000000001 : Int32) d) fun x24 d25 =>
    some (x24, d25)
  ) fun i3 =>
  (f_X4_sheetAt N p3 d).bind fun r655 =>
  sel r655 (
    bd2 (f_X4_tell N (-1000000001 : Int32) d) fun x659 d660 =>
    some (x659, d660)
  ) fun i657 =>
  (f_X0_isMissing N (sAt (x_sheets d) i3)).bind fun x782 =>
  if x782 = 0 then
    (f_X0_isMissing N (sAt (x_sheets d) i657)).bind fun x788 =>
    if x788 = 0 then
      if (s_bits (sAt (x_sheets d) i3)) = (s_bits (sAt (x_sheets d) i657)) then
        (f_X0_hasRange N p2 p5 (sAt (x_sheets d) i3)).bind fun x792 =>
        if x792 = 0 then
          bd2 (f_X4_tell N (-1000000001 : Int32) d) fun x795 d796 =>
          some (x795, d796)
        else
          (f_X0_hasRange N p4 p5 (sAt (x_sheets d) i657)).bind fun x798 =>
          if x798 = 0 then
            bd2 (f_X4_tell N (-1000000001 : Int32) d) fun x803 d804 =>
            some (x803, d804)
          else
            (ckr p2 p4 p5 40 40).bind fun _ =>
            lt (x_set_sheets d (sPut (x_sheets d) i657 (s_set_numbers (sAt (x_sheets d) i657) (va_cpy (s_numbers (sAt (x_sheets d) i3)) (s_numbers (sAt (x_sheets d) i657)) (p2).toNatClampNeg (p4).toNatClampNeg (p5).toNatClampNeg)))) fun d802 =>
            some (p5, d802)
      else
        bd2 (f_X4_tell N (-1000000003 : Int32) d) fun x806 d807 =>
        some (x806, d807)
    else
      bd2 (f_X4_tell N (-1000000006 : Int32) d) fun x809 d810 =>
      some (x809, d810)
  else
    bd2 (f_X4_tell N (-1000000006 : Int32) d) fun x785 d786 =>
    some (x785, d786)
set_option maxHeartbeats 4000000 in
set_option maxRecDepth 100000 in
theorem c_X4_copy (l : Launch) (g : gE) (q : Nat → Nat) (N : Nat) (p1 : Int32) (p2 : Int32) (p3 : Int32) (p4 : Int32) (p5 : Int32) (d : XD) (r : Int32) (d' : XD) (h : f_X4_copy N  p1 p2 p3 p4 p5 d = some (r, d')) : MO l yX4_copy (Cond.code yX4_copy cX4_copy 8 (some .int) :: TB) rm_X4_copy [.ref (q 0), .int p1, .int p2, .int p3, .int p4, .int p5] g ((XC g q d)) ((XC g q d')) (some (.int r)) 0 0 := by
  refine MO.of (cc := cX4_copy) (maxL := 8) (ret := (some .int)) (by decide) ?_
  intro p e s m below meth c cx hw hr hlocks _
  have hx := cx.1.1
  have hb := cx.1.2.1
  refine en_go (lv := [(0, .ref (q 0)), (1, .int p1), (2, .int p2), (3, .int p3), (4, .int p4), (5, .int p5)]) (Nat.le_of_ble_eq_true rfl) rfl (fun ls hl => ?_)
  unfold f_X4_copy at h
  refine lv_aload_n hx hb dX4_copy_0 rfl (lv_at hl 0 rfl) ?_
  refine lv_iload_n hx hb dX4_copy_1 rfl (lv_at hl 1 rfl) ?_
  obtain ⟨r1, g2, h⟩ := bd_ex h
  rcases sh_cases g2 with e4 | e4 | e4 | e4 | e4 <;> subst e4
  · replace h := sel_n h
    refine c_V (As := [.int p1]) (rest := []) (w' := (XC g q d)) cx hw (c_X4_sheetAt l g q N p1 d none g2) (cl_X4_219 cx.1.2.2.2.2 ⟨Nat.le_of_ble_eq_true rfl, Nat.le_of_ble_eq_true rfl⟩) (x_recv cx hw (ci := 4) rfl 0 rfl) (Ct.all (XC_ll ..)) hl.1 rfl rfl (Nat.le_of_ble_eq_true rfl) dX4_copy_2 ⟨Nat.le_of_ble_eq_true rfl, Nat.le_of_ble_eq_true rfl⟩ (st1 := [.null]) rfl (fun H locs hw => ?_)
    refine lv_astoreN (lv' := [(6, .null), (0, .ref (q 0)), (1, .int p1), (2, .int p2), (3, .int p3), (4, .int p4), (5, .int p5)]) hx hb dX4_copy_5 hl (by decide) rfl (fun ls hl => ?_)
    refine lv_aload_n hx hb dX4_copy_7 rfl (lv_at hl 1 rfl) ?_
    refine lv_iload_n hx hb dX4_copy_8 rfl (lv_at hl 4 rfl) ?_
    obtain ⟨r5, g6, h⟩ := bd_ex h
    rcases sh_cases g6 with e8 | e8 | e8 | e8 | e8 <;> subst e8
    · replace h := sel_n h
      refine c_V (As := [.int p3]) (rest := []) (w' := (XC g q d)) cx hw (c_X4_sheetAt l g q N p3 d none g6) (cl_X4_219 cx.1.2.2.2.2 ⟨Nat.le_of_ble_eq_true rfl, Nat.le_of_ble_eq_true rfl⟩) (x_recv cx hw (ci := 4) rfl 0 rfl) (Ct.all (XC_ll ..)) hl.1 rfl rfl (Nat.le_of_ble_eq_true rfl) dX4_copy_9 ⟨Nat.le_of_ble_eq_true rfl, Nat.le_of_ble_eq_true rfl⟩ (st1 := [.null]) rfl (fun H locs hw => ?_)
      refine lv_astoreN (lv' := [(7, .null), (6, .null), (0, .ref (q 0)), (1, .int p1), (2, .int p2), (3, .int p3), (4, .int p4), (5, .int p5)]) hx hb dX4_copy_12 hl (by decide) rfl (fun ls hl => ?_)
      refine lv_aloadN hx hb dX4_copy_14 (lv_at hl 1 rfl) ?_
      refine lv_ifnullN (tgt := 24) hx hb dX4_copy_16 (by decide) ?_
      refine lv_aload_n hx hb dX4_copy_24 rfl (lv_at hl 2 rfl) ?_
      refine lv_ldc hx hb cx.1.2.2.2.1 (cx.1.2.2.2.2 _ tw_1_202) dX4_copy_25 ?_
      obtain ⟨x9, d10, g11, h⟩ := bd2_ex h
      refine c_V (As := [.int (-1000000001 : Int32)]) (rest := []) (w' := (XC g q d10)) cx hw (c_X4_tell l g q N (-1000000001 : Int32) d x9 d10 g11) (cl_X4_45 cx.1.2.2.2.2 ⟨Nat.le_of_ble_eq_true rfl, Nat.le_of_ble_eq_true rfl⟩) (x_recv cx hw (ci := 4) rfl 0 rfl) (Ct.all (XC_ll ..)) hl.1 rfl rfl (Nat.le_of_ble_eq_true rfl) dX4_copy_27 ⟨Nat.le_of_ble_eq_true rfl, Nat.le_of_ble_eq_true rfl⟩ (st1 := [.int x9]) rfl (fun H locs hw => ?_)
      exact r_i cx hr hlocks hw (pr1 h) (congrArg (fun z0 => (XC g q z0)) (pr2 h)) dX4_copy_30
    · replace h := sel_s h
      refine c_V (As := [.int p3]) (rest := []) (w' := (XC g q d)) cx hw (c_X4_sheetAt l g q N p3 d (some 0) g6) (cl_X4_219 cx.1.2.2.2.2 ⟨Nat.le_of_ble_eq_true rfl, Nat.le_of_ble_eq_true rfl⟩) (x_recv cx hw (ci := 4) rfl 0 rfl) (Ct.all (XC_ll ..)) hl.1 rfl rfl (Nat.le_of_ble_eq_true rfl) dX4_copy_9 ⟨Nat.le_of_ble_eq_true rfl, Nat.le_of_ble_eq_true rfl⟩ (st1 := [.ref (qs 45 q 0)]) rfl (fun H locs hw => ?_)
      refine lv_astore (lv' := [(7, .ref (qs 45 q 0)), (6, .null), (0, .ref (q 0)), (1, .int p1), (2, .int p2), (3, .int p3), (4, .int p4), (5, .int p5)]) hx hb dX4_copy_12 hl (by decide) rfl (fun ls hl => ?_)
      refine lv_aloadN hx hb dX4_copy_14 (lv_at hl 1 rfl) ?_
      refine lv_ifnullN (tgt := 24) hx hb dX4_copy_16 (by decide) ?_
      refine lv_aload_n hx hb dX4_copy_24 rfl (lv_at hl 2 rfl) ?_
      refine lv_ldc hx hb cx.1.2.2.2.1 (cx.1.2.2.2.2 _ tw_1_202) dX4_copy_25 ?_
      obtain ⟨x12, d13, g14, h⟩ := bd2_ex h
      refine c_V (As := [.int (-1000000001 : Int32)]) (rest := []) (w' := (XC g q d13)) cx hw (c_X4_tell l g q N (-1000000001 : Int32) d x12 d13 g14) (cl_X4_45 cx.1.2.2.2.2 ⟨Nat.le_of_ble_eq_true rfl, Nat.le_of_ble_eq_true rfl⟩) (x_recv cx hw (ci := 4) rfl 0 rfl) (Ct.all (XC_ll ..)) hl.1 rfl rfl (Nat.le_of_ble_eq_true rfl) dX4_copy_27 ⟨Nat.le_of_ble_eq_true rfl, Nat.le_of_ble_eq_true rfl⟩ (st1 := [.int x12]) rfl (fun H locs hw => ?_)
      exact r_i cx hr hlocks hw (pr1 h) (congrArg (fun z0 => (XC g q z0)) (pr2 h)) dX4_copy_30
    · replace h := sel_s h
      refine c_V (As := [.int p3]) (rest := []) (w' := (XC g q d)) cx hw (c_X4_sheetAt l g q N p3 d (some 1) g6) (cl_X4_219 cx.1.2.2.2.2 ⟨Nat.le_of_ble_eq_true rfl, Nat.le_of_ble_eq_true rfl⟩) (x_recv cx hw (ci := 4) rfl 0 rfl) (Ct.all (XC_ll ..)) hl.1 rfl rfl (Nat.le_of_ble_eq_true rfl) dX4_copy_9 ⟨Nat.le_of_ble_eq_true rfl, Nat.le_of_ble_eq_true rfl⟩ (st1 := [.ref (qs 47 q 0)]) rfl (fun H locs hw => ?_)
      refine lv_astore (lv' := [(7, .ref (qs 47 q 0)), (6, .null), (0, .ref (q 0)), (1, .int p1), (2, .int p2), (3, .int p3), (4, .int p4), (5, .int p5)]) hx hb dX4_copy_12 hl (by decide) rfl (fun ls hl => ?_)
      refine lv_aloadN hx hb dX4_copy_14 (lv_at hl 1 rfl) ?_
      refine lv_ifnullN (tgt := 24) hx hb dX4_copy_16 (by decide) ?_
      refine lv_aload_n hx hb dX4_copy_24 rfl (lv_at hl 2 rfl) ?_
      refine lv_ldc hx hb cx.1.2.2.2.1 (cx.1.2.2.2.2 _ tw_1_202) dX4_copy_25 ?_
      obtain ⟨x15, d16, g17, h⟩ := bd2_ex h
      refine c_V (As := [.int (-1000000001 : Int32)]) (rest := []) (w' := (XC g q d16)) cx hw (c_X4_tell l g q N (-1000000001 : Int32) d x15 d16 g17) (cl_X4_45 cx.1.2.2.2.2 ⟨Nat.le_of_ble_eq_true rfl, Nat.le_of_ble_eq_true rfl⟩) (x_recv cx hw (ci := 4) rfl 0 rfl) (Ct.all (XC_ll ..)) hl.1 rfl rfl (Nat.le_of_ble_eq_true rfl) dX4_copy_27 ⟨Nat.le_of_ble_eq_true rfl, Nat.le_of_ble_eq_true rfl⟩ (st1 := [.int x15]) rfl (fun H locs hw => ?_)
      exact r_i cx hr hlocks hw (pr1 h) (congrArg (fun z0 => (XC g q z0)) (pr2 h)) dX4_copy_30
    · replace h := sel_s h
      refine c_V (As := [.int p3]) (rest := []) (w' := (XC g q d)) cx hw (c_X4_sheetAt l g q N p3 d (some 2) g6) (cl_X4_219 cx.1.2.2.2.2 ⟨Nat.le_of_ble_eq_true rfl, Nat.le_of_ble_eq_true rfl⟩) (x_recv cx hw (ci := 4) rfl 0 rfl) (Ct.all (XC_ll ..)) hl.1 rfl rfl (Nat.le_of_ble_eq_true rfl) dX4_copy_9 ⟨Nat.le_of_ble_eq_true rfl, Nat.le_of_ble_eq_true rfl⟩ (st1 := [.ref (qs 49 q 0)]) rfl (fun H locs hw => ?_)
      refine lv_astore (lv' := [(7, .ref (qs 49 q 0)), (6, .null), (0, .ref (q 0)), (1, .int p1), (2, .int p2), (3, .int p3), (4, .int p4), (5, .int p5)]) hx hb dX4_copy_12 hl (by decide) rfl (fun ls hl => ?_)
      refine lv_aloadN hx hb dX4_copy_14 (lv_at hl 1 rfl) ?_
      refine lv_ifnullN (tgt := 24) hx hb dX4_copy_16 (by decide) ?_
      refine lv_aload_n hx hb dX4_copy_24 rfl (lv_at hl 2 rfl) ?_
      refine lv_ldc hx hb cx.1.2.2.2.1 (cx.1.2.2.2.2 _ tw_1_202) dX4_copy_25 ?_
      obtain ⟨x18, d19, g20, h⟩ := bd2_ex h
      refine c_V (As := [.int (-1000000001 : Int32)]) (rest := []) (w' := (XC g q d19)) cx hw (c_X4_tell l g q N (-1000000001 : Int32) d x18 d19 g20) (cl_X4_45 cx.1.2.2.2.2 ⟨Nat.le_of_ble_eq_true rfl, Nat.le_of_ble_eq_true rfl⟩) (x_recv cx hw (ci := 4) rfl 0 rfl) (Ct.all (XC_ll ..)) hl.1 rfl rfl (Nat.le_of_ble_eq_true rfl) dX4_copy_27 ⟨Nat.le_of_ble_eq_true rfl, Nat.le_of_ble_eq_true rfl⟩ (st1 := [.int x18]) rfl (fun H locs hw => ?_)
      exact r_i cx hr hlocks hw (pr1 h) (congrArg (fun z0 => (XC g q z0)) (pr2 h)) dX4_copy_30
    · replace h := sel_s h
      refine c_V (As := [.int p3]) (rest := []) (w' := (XC g q d)) cx hw (c_X4_sheetAt l g q N p3 d (some 3) g6) (cl_X4_219 cx.1.2.2.2.2 ⟨Nat.le_of_ble_eq_true rfl, Nat.le_of_ble_eq_true rfl⟩) (x_recv cx hw (ci := 4) rfl 0 rfl) (Ct.all (XC_ll ..)) hl.1 rfl rfl (Nat.le_of_ble_eq_true rfl) dX4_copy_9 ⟨Nat.le_of_ble_eq_true rfl, Nat.le_of_ble_eq_true rfl⟩ (st1 := [.ref (qs 51 q 0)]) rfl (fun H locs hw => ?_)
      refine lv_astore (lv' := [(7, .ref (qs 51 q 0)), (6, .null), (0, .ref (q 0)), (1, .int p1), (2, .int p2), (3, .int p3), (4, .int p4), (5, .int p5)]) hx hb dX4_copy_12 hl (by decide) rfl (fun ls hl => ?_)
      refine lv_aloadN hx hb dX4_copy_14 (lv_at hl 1 rfl) ?_
      refine lv_ifnullN (tgt := 24) hx hb dX4_copy_16 (by decide) ?_
      refine lv_aload_n hx hb dX4_copy_24 rfl (lv_at hl 2 rfl) ?_
      refine lv_ldc hx hb cx.1.2.2.2.1 (cx.1.2.2.2.2 _ tw_1_202) dX4_copy_25 ?_
      obtain ⟨x21, d22, g23, h⟩ := bd2_ex h
      refine c_V (As := [.int (-1000000001 : Int32)]) (rest := []) (w' := (XC g q d22)) cx hw (c_X4_tell l g q N (-1000000001 : Int32) d x21 d22 g23) (cl_X4_45 cx.1.2.2.2.2 ⟨Nat.le_of_ble_eq_true rfl, Nat.le_of_ble_eq_true rfl⟩) (x_recv cx hw (ci := 4) rfl 0 rfl) (Ct.all (XC_ll ..)) hl.1 rfl rfl (Nat.le_of_ble_eq_true rfl) dX4_copy_27 ⟨Nat.le_of_ble_eq_true rfl, Nat.le_of_ble_eq_true rfl⟩ (st1 := [.int x21]) rfl (fun H locs hw => ?_)
      exact r_i cx hr hlocks hw (pr1 h) (congrArg (fun z0 => (XC g q z0)) (pr2 h)) dX4_copy_30
  · replace h := sel_s h
    refine c_V (As := [.int p1]) (rest := []) (w' := (XC g q d)) cx hw (c_X4_sheetAt l g q N p1 d (some 0) g2) (cl_X4_219 cx.1.2.2.2.2 ⟨Nat.le_of_ble_eq_true rfl, Nat.le_of_ble_eq_true rfl⟩) (x_recv cx hw (ci := 4) rfl 0 rfl) (Ct.all (XC_ll ..)) hl.1 rfl rfl (Nat.le_of_ble_eq_true rfl) dX4_copy_2 ⟨Nat.le_of_ble_eq_true rfl, Nat.le_of_ble_eq_true rfl⟩ (st1 := [.ref (qs 45 q 0)]) rfl (fun H locs hw => ?_)
    refine lv_astore (lv' := [(6, .ref (qs 45 q 0)), (0, .ref (q 0)), (1, .int p1), (2, .int p2), (3, .int p3), (4, .int p4), (5, .int p5)]) hx hb dX4_copy_5 hl (by decide) rfl (fun ls hl => ?_)
    refine lv_aload_n hx hb dX4_copy_7 rfl (lv_at hl 1 rfl) ?_
    refine lv_iload_n hx hb dX4_copy_8 rfl (lv_at hl 4 rfl) ?_
    obtain ⟨r27, g28, h⟩ := bd_ex h
    rcases sh_cases g28 with e30 | e30 | e30 | e30 | e30 <;> subst e30
    · replace h := sel_n h
      refine c_V (As := [.int p3]) (rest := []) (w' := (XC g q d)) cx hw (c_X4_sheetAt l g q N p3 d none g28) (cl_X4_219 cx.1.2.2.2.2 ⟨Nat.le_of_ble_eq_true rfl, Nat.le_of_ble_eq_true rfl⟩) (x_recv cx hw (ci := 4) rfl 0 rfl) (Ct.all (XC_ll ..)) hl.1 rfl rfl (Nat.le_of_ble_eq_true rfl) dX4_copy_9 ⟨Nat.le_of_ble_eq_true rfl, Nat.le_of_ble_eq_true rfl⟩ (st1 := [.null]) rfl (fun H locs hw => ?_)
      refine lv_astoreN (lv' := [(7, .null), (6, .ref (qs 45 q 0)), (0, .ref (q 0)), (1, .int p1), (2, .int p2), (3, .int p3), (4, .int p4), (5, .int p5)]) hx hb dX4_copy_12 hl (by decide) rfl (fun ls hl => ?_)
      refine lv_aload hx hb dX4_copy_14 (lv_at hl 1 rfl) ?_
      refine lv_ifnull hx hb dX4_copy_16 ?_
      refine lv_aloadN hx hb dX4_copy_19 (lv_at hl 0 rfl) ?_
      refine lv_ifnonnullN hx hb dX4_copy_21 ?_
      refine lv_aload_n hx hb dX4_copy_24 rfl (lv_at hl 2 rfl) ?_
      refine lv_ldc hx hb cx.1.2.2.2.1 (cx.1.2.2.2.2 _ tw_1_202) dX4_copy_25 ?_
      obtain ⟨x31, d32, g33, h⟩ := bd2_ex h
      refine c_V (As := [.int (-1000000001 : Int32)]) (rest := []) (w' := (XC g q d32)) cx hw (c_X4_tell l g q N (-1000000001 : Int32) d x31 d32 g33) (cl_X4_45 cx.1.2.2.2.2 ⟨Nat.le_of_ble_eq_true rfl, Nat.le_of_ble_eq_true rfl⟩) (x_recv cx hw (ci := 4) rfl 0 rfl) (Ct.all (XC_ll ..)) hl.1 rfl rfl (Nat.le_of_ble_eq_true rfl) dX4_copy_27 ⟨Nat.le_of_ble_eq_true rfl, Nat.le_of_ble_eq_true rfl⟩ (st1 := [.int x31]) rfl (fun H locs hw => ?_)
      exact r_i cx hr hlocks hw (pr1 h) (congrArg (fun z0 => (XC g q z0)) (pr2 h)) dX4_copy_30
    · replace h := sel_s h
      refine c_V (As := [.int p3]) (rest := []) (w' := (XC g q d)) cx hw (c_X4_sheetAt l g q N p3 d (some 0) g28) (cl_X4_219 cx.1.2.2.2.2 ⟨Nat.le_of_ble_eq_true rfl, Nat.le_of_ble_eq_true rfl⟩) (x_recv cx hw (ci := 4) rfl 0 rfl) (Ct.all (XC_ll ..)) hl.1 rfl rfl (Nat.le_of_ble_eq_true rfl) dX4_copy_9 ⟨Nat.le_of_ble_eq_true rfl, Nat.le_of_ble_eq_true rfl⟩ (st1 := [.ref (qs 45 q 0)]) rfl (fun H locs hw => ?_)
      refine lv_astore (lv' := [(7, .ref (qs 45 q 0)), (6, .ref (qs 45 q 0)), (0, .ref (q 0)), (1, .int p1), (2, .int p2), (3, .int p3), (4, .int p4), (5, .int p5)]) hx hb dX4_copy_12 hl (by decide) rfl (fun ls hl => ?_)
      refine lv_aload hx hb dX4_copy_14 (lv_at hl 1 rfl) ?_
      refine lv_ifnull hx hb dX4_copy_16 ?_
      refine lv_aload hx hb dX4_copy_19 (lv_at hl 0 rfl) ?_
      refine lv_ifnonnull (tgt := 31) hx hb dX4_copy_21 (by decide) ?_
      refine lv_aload hx hb dX4_copy_31 (lv_at hl 1 rfl) ?_
      obtain ⟨x34, g35, h⟩ := bd_ex h
      refine c_V (As := []) (rest := []) (w' := (XC g q d)) cx hw (c_X0_isMissing l g (qs 45 q) N  (sAt (x_sheets d) 0) x34 g35) (cl_X4_227 cx.1.2.2.2.2 ⟨Nat.le_of_ble_eq_true rfl, Nat.le_of_ble_eq_true rfl⟩) (x_recv cx hw (ci := 0) rfl 45 rfl) (ct_X__45_46__S g q d ) hl.1 rfl rfl (Nat.le_of_ble_eq_true rfl) dX4_copy_33 ⟨Nat.le_of_ble_eq_true rfl, Nat.le_of_ble_eq_true rfl⟩ (st1 := [.int x34]) rfl (fun H locs hw => ?_)
      refine lv_if_ne (tgt := 47) hx hb dX4_copy_36 (by decide) (fun c36 => ?_) (fun c36 => ?_)
      · replace h := ite_f c36 h
        refine lv_aload_n hx hb dX4_copy_47 rfl (lv_at hl 2 rfl) ?_
        refine lv_ldc hx hb cx.1.2.2.2.1 (cx.1.2.2.2.2 _ tw_3_177) dX4_copy_48 ?_
        obtain ⟨x37, d38, g39, h⟩ := bd2_ex h
        refine c_V (As := [.int (-1000000006 : Int32)]) (rest := []) (w' := (XC g q d38)) cx hw (c_X4_tell l g q N (-1000000006 : Int32) d x37 d38 g39) (cl_X4_45 cx.1.2.2.2.2 ⟨Nat.le_of_ble_eq_true rfl, Nat.le_of_ble_eq_true rfl⟩) (x_recv cx hw (ci := 4) rfl 0 rfl) (Ct.all (XC_ll ..)) hl.1 rfl rfl (Nat.le_of_ble_eq_true rfl) dX4_copy_50 ⟨Nat.le_of_ble_eq_true rfl, Nat.le_of_ble_eq_true rfl⟩ (st1 := [.int x37]) rfl (fun H locs hw => ?_)
        exact r_i cx hr hlocks hw (pr1 h) (congrArg (fun z0 => (XC g q z0)) (pr2 h)) dX4_copy_53
      · replace h := ite_t c36 h
        refine lv_aload hx hb dX4_copy_39 (lv_at hl 0 rfl) ?_
        obtain ⟨x40, g41, h⟩ := bd_ex h
        refine c_V (As := []) (rest := []) (w' := (XC g q d)) cx hw (c_X0_isMissing l g (qs 45 q) N  (sAt (x_sheets d) 0) x40 g41) (cl_X4_227 cx.1.2.2.2.2 ⟨Nat.le_of_ble_eq_true rfl, Nat.le_of_ble_eq_true rfl⟩) (x_recv cx hw (ci := 0) rfl 45 rfl) (ct_X__45_46__S g q d ) hl.1 rfl rfl (Nat.le_of_ble_eq_true rfl) dX4_copy_41 ⟨Nat.le_of_ble_eq_true rfl, Nat.le_of_ble_eq_true rfl⟩ (st1 := [.int x40]) rfl (fun H locs hw => ?_)
        refine lv_if_eq (tgt := 54) hx hb dX4_copy_44 (by decide) (fun c42 => ?_) (fun c42 => ?_)
        · replace h := ite_t c42 h
          refine lv_aload hx hb dX4_copy_54 (lv_at hl 1 rfl) ?_
          refine gf_X4_239 cx hw 45 rfl rfl dX4_copy_56 ?_
          refine lv_aload hx hb dX4_copy_59 (lv_at hl 0 rfl) ?_
          refine gf_X4_239 cx hw 45 rfl rfl dX4_copy_61 ?_
          refine lv_icmp_eq (tgt := 74) hx hb dX4_copy_64 (by decide) (fun c43 => ?_) (fun c43 => ?_)
          · replace h := ite_t c43 h
            refine lv_aload hx hb dX4_copy_74 (lv_at hl 1 rfl) ?_
            refine lv_iload_n hx hb dX4_copy_76 rfl (lv_at hl 4 rfl) ?_
            refine lv_iload hx hb dX4_copy_77 (lv_at hl 7 rfl) ?_
            obtain ⟨x44, g45, h⟩ := bd_ex h
            refine c_V (As := [.int p2, .int p5]) (rest := []) (w' := (XC g q d)) cx hw (c_X0_hasRange l g (qs 45 q) N p2 p5 (sAt (x_sheets d) 0) x44 g45) (cl_X4_242 cx.1.2.2.2.2 ⟨Nat.le_of_ble_eq_true rfl, Nat.le_of_ble_eq_true rfl⟩) (x_recv cx hw (ci := 0) rfl 45 rfl) (ct_X__45_46__S g q d ) hl.1 rfl rfl (Nat.le_of_ble_eq_true rfl) dX4_copy_79 ⟨Nat.le_of_ble_eq_true rfl, Nat.le_of_ble_eq_true rfl⟩ (st1 := [.int x44]) rfl (fun H locs hw => ?_)
            refine lv_if_eq (tgt := 97) hx hb dX4_copy_82 (by decide) (fun c46 => ?_) (fun c46 => ?_)
            · replace h := ite_t c46 h
              refine lv_aload_n hx hb dX4_copy_97 rfl (lv_at hl 2 rfl) ?_
              refine lv_ldc hx hb cx.1.2.2.2.1 (cx.1.2.2.2.2 _ tw_1_202) dX4_copy_98 ?_
              obtain ⟨x47, d48, g49, h⟩ := bd2_ex h
              refine c_V (As := [.int (-1000000001 : Int32)]) (rest := []) (w' := (XC g q d48)) cx hw (c_X4_tell l g q N (-1000000001 : Int32) d x47 d48 g49) (cl_X4_45 cx.1.2.2.2.2 ⟨Nat.le_of_ble_eq_true rfl, Nat.le_of_ble_eq_true rfl⟩) (x_recv cx hw (ci := 4) rfl 0 rfl) (Ct.all (XC_ll ..)) hl.1 rfl rfl (Nat.le_of_ble_eq_true rfl) dX4_copy_100 ⟨Nat.le_of_ble_eq_true rfl, Nat.le_of_ble_eq_true rfl⟩ (st1 := [.int x47]) rfl (fun H locs hw => ?_)
              exact r_i cx hr hlocks hw (pr1 h) (congrArg (fun z0 => (XC g q z0)) (pr2 h)) dX4_copy_103
            · replace h := ite_f c46 h
              refine lv_aload hx hb dX4_copy_85 (lv_at hl 0 rfl) ?_
              refine lv_iload hx hb dX4_copy_87 (lv_at hl 6 rfl) ?_
              refine lv_iload hx hb dX4_copy_89 (lv_at hl 7 rfl) ?_
              obtain ⟨x50, g51, h⟩ := bd_ex h
              refine c_V (As := [.int p4, .int p5]) (rest := []) (w' := (XC g q d)) cx hw (c_X0_hasRange l g (qs 45 q) N p4 p5 (sAt (x_sheets d) 0) x50 g51) (cl_X4_242 cx.1.2.2.2.2 ⟨Nat.le_of_ble_eq_true rfl, Nat.le_of_ble_eq_true rfl⟩) (x_recv cx hw (ci := 0) rfl 45 rfl) (ct_X__45_46__S g q d ) hl.1 rfl rfl (Nat.le_of_ble_eq_true rfl) dX4_copy_91 ⟨Nat.le_of_ble_eq_true rfl, Nat.le_of_ble_eq_true rfl⟩ (st1 := [.int x50]) rfl (fun H locs hw => ?_)
              refine lv_if_ne (tgt := 104) hx hb dX4_copy_94 (by decide) (fun c52 => ?_) (fun c52 => ?_)
              · replace h := ite_f c52 h
                refine lv_aload hx hb dX4_copy_104 (lv_at hl 1 rfl) ?_
                refine gf_X4_245 cx hw 45 rfl rfl dX4_copy_106 ?_
                refine lv_iload_n hx hb dX4_copy_109 rfl (lv_at hl 4 rfl) ?_
                refine lv_aload hx hb dX4_copy_110 (lv_at hl 0 rfl) ?_
                refine gf_X4_245 cx hw 45 rfl rfl dX4_copy_112 ?_
                refine lv_iload hx hb dX4_copy_115 (lv_at hl 6 rfl) ?_
                refine lv_iload hx hb dX4_copy_117 (lv_at hl 7 rfl) ?_
                have i53 := ckr_in h
                replace h := ckr_nx h
                refine va_copyl hx hb (cx.1.2.2.1.trans hl.1.symm) cx.1.2.2.2.1 (cx.1.2.2.2.2 _ tw_3_191) (cx.1.2.2.2.2 _ tw_2_180) (cx.1.2.2.2.2 _ tw_2_179) (cx.1.2.2.2.2 _ tw_1_10) cx.2.1 hw.1 hw.2.1 hw.2.2 46 46 1 1 rfl rfl rfl rfl rfl i53.1 i53.2.1 i53.2.2.1 i53.2.2.2.1 i53.2.2.2.2 (fun _ _ => rfl) (Nat.le_of_ble_eq_true rfl) (Nat.le_of_ble_eq_true rfl) dX4_copy_119 (fun H locs hP hD hS => ?_)
                have hw : Wd g _ _ s H locs := ⟨hP, hD, hS⟩
                obtain ⟨d54, ed54, h⟩ := lt_ex h
                have hw : Wd g (va_A ((XC g q d)) s.heap.size) ((XC g q d54)) s H locs := by rw [ed54]; exact hw
                refine lv_iload hx hb dX4_copy_122 (lv_at hl 7 rfl) ?_
                exact r_i cx hr hlocks hw (pr1 h) (congrArg (fun z0 => (XC g q z0)) (pr2 h)) dX4_copy_124
              · replace h := ite_t c52 h
                refine lv_aload_n hx hb dX4_copy_97 rfl (lv_at hl 2 rfl) ?_
                refine lv_ldc hx hb cx.1.2.2.2.1 (cx.1.2.2.2.2 _ tw_1_202) dX4_copy_98 ?_
                obtain ⟨x55, d56, g57, h⟩ := bd2_ex h
                refine c_V (As := [.int (-1000000001 : Int32)]) (rest := []) (w' := (XC g q d56)) cx hw (c_X4_tell l g q N (-1000000001 : Int32) d x55 d56 g57) (cl_X4_45 cx.1.2.2.2.2 ⟨Nat.le_of_ble_eq_true rfl, Nat.le_of_ble_eq_true rfl⟩) (x_recv cx hw (ci := 4) rfl 0 rfl) (Ct.all (XC_ll ..)) hl.1 rfl rfl (Nat.le_of_ble_eq_true rfl) dX4_copy_100 ⟨Nat.le_of_ble_eq_true rfl, Nat.le_of_ble_eq_true rfl⟩ (st1 := [.int x55]) rfl (fun H locs hw => ?_)
                exact r_i cx hr hlocks hw (pr1 h) (congrArg (fun z0 => (XC g q z0)) (pr2 h)) dX4_copy_103
          · replace h := ite_f c43 h
            refine lv_aload_n hx hb dX4_copy_67 rfl (lv_at hl 2 rfl) ?_
            refine lv_ldc hx hb cx.1.2.2.2.1 (cx.1.2.2.2.2 _ tw_2_70) dX4_copy_68 ?_
            obtain ⟨x58, d59, g60, h⟩ := bd2_ex h
            refine c_V (As := [.int (-1000000003 : Int32)]) (rest := []) (w' := (XC g q d59)) cx hw (c_X4_tell l g q N (-1000000003 : Int32) d x58 d59 g60) (cl_X4_45 cx.1.2.2.2.2 ⟨Nat.le_of_ble_eq_true rfl, Nat.le_of_ble_eq_true rfl⟩) (x_recv cx hw (ci := 4) rfl 0 rfl) (Ct.all (XC_ll ..)) hl.1 rfl rfl (Nat.le_of_ble_eq_true rfl) dX4_copy_70 ⟨Nat.le_of_ble_eq_true rfl, Nat.le_of_ble_eq_true rfl⟩ (st1 := [.int x58]) rfl (fun H locs hw => ?_)
            exact r_i cx hr hlocks hw (pr1 h) (congrArg (fun z0 => (XC g q z0)) (pr2 h)) dX4_copy_73
        · replace h := ite_f c42 h
          refine lv_aload_n hx hb dX4_copy_47 rfl (lv_at hl 2 rfl) ?_
          refine lv_ldc hx hb cx.1.2.2.2.1 (cx.1.2.2.2.2 _ tw_3_177) dX4_copy_48 ?_
          obtain ⟨x61, d62, g63, h⟩ := bd2_ex h
          refine c_V (As := [.int (-1000000006 : Int32)]) (rest := []) (w' := (XC g q d62)) cx hw (c_X4_tell l g q N (-1000000006 : Int32) d x61 d62 g63) (cl_X4_45 cx.1.2.2.2.2 ⟨Nat.le_of_ble_eq_true rfl, Nat.le_of_ble_eq_true rfl⟩) (x_recv cx hw (ci := 4) rfl 0 rfl) (Ct.all (XC_ll ..)) hl.1 rfl rfl (Nat.le_of_ble_eq_true rfl) dX4_copy_50 ⟨Nat.le_of_ble_eq_true rfl, Nat.le_of_ble_eq_true rfl⟩ (st1 := [.int x61]) rfl (fun H locs hw => ?_)
          exact r_i cx hr hlocks hw (pr1 h) (congrArg (fun z0 => (XC g q z0)) (pr2 h)) dX4_copy_53
    · replace h := sel_s h
      refine c_V (As := [.int p3]) (rest := []) (w' := (XC g q d)) cx hw (c_X4_sheetAt l g q N p3 d (some 1) g28) (cl_X4_219 cx.1.2.2.2.2 ⟨Nat.le_of_ble_eq_true rfl, Nat.le_of_ble_eq_true rfl⟩) (x_recv cx hw (ci := 4) rfl 0 rfl) (Ct.all (XC_ll ..)) hl.1 rfl rfl (Nat.le_of_ble_eq_true rfl) dX4_copy_9 ⟨Nat.le_of_ble_eq_true rfl, Nat.le_of_ble_eq_true rfl⟩ (st1 := [.ref (qs 47 q 0)]) rfl (fun H locs hw => ?_)
      refine lv_astore (lv' := [(7, .ref (qs 47 q 0)), (6, .ref (qs 45 q 0)), (0, .ref (q 0)), (1, .int p1), (2, .int p2), (3, .int p3), (4, .int p4), (5, .int p5)]) hx hb dX4_copy_12 hl (by decide) rfl (fun ls hl => ?_)
      refine lv_aload hx hb dX4_copy_14 (lv_at hl 1 rfl) ?_
      refine lv_ifnull hx hb dX4_copy_16 ?_
      refine lv_aload hx hb dX4_copy_19 (lv_at hl 0 rfl) ?_
      refine lv_ifnonnull (tgt := 31) hx hb dX4_copy_21 (by decide) ?_
      refine lv_aload hx hb dX4_copy_31 (lv_at hl 1 rfl) ?_
      obtain ⟨x64, g65, h⟩ := bd_ex h
      refine c_V (As := []) (rest := []) (w' := (XC g q d)) cx hw (c_X0_isMissing l g (qs 45 q) N  (sAt (x_sheets d) 0) x64 g65) (cl_X4_227 cx.1.2.2.2.2 ⟨Nat.le_of_ble_eq_true rfl, Nat.le_of_ble_eq_true rfl⟩) (x_recv cx hw (ci := 0) rfl 45 rfl) (ct_X__45_46__S g q d ) hl.1 rfl rfl (Nat.le_of_ble_eq_true rfl) dX4_copy_33 ⟨Nat.le_of_ble_eq_true rfl, Nat.le_of_ble_eq_true rfl⟩ (st1 := [.int x64]) rfl (fun H locs hw => ?_)
      refine lv_if_ne (tgt := 47) hx hb dX4_copy_36 (by decide) (fun c66 => ?_) (fun c66 => ?_)
      · replace h := ite_f c66 h
        refine lv_aload_n hx hb dX4_copy_47 rfl (lv_at hl 2 rfl) ?_
        refine lv_ldc hx hb cx.1.2.2.2.1 (cx.1.2.2.2.2 _ tw_3_177) dX4_copy_48 ?_
        obtain ⟨x67, d68, g69, h⟩ := bd2_ex h
        refine c_V (As := [.int (-1000000006 : Int32)]) (rest := []) (w' := (XC g q d68)) cx hw (c_X4_tell l g q N (-1000000006 : Int32) d x67 d68 g69) (cl_X4_45 cx.1.2.2.2.2 ⟨Nat.le_of_ble_eq_true rfl, Nat.le_of_ble_eq_true rfl⟩) (x_recv cx hw (ci := 4) rfl 0 rfl) (Ct.all (XC_ll ..)) hl.1 rfl rfl (Nat.le_of_ble_eq_true rfl) dX4_copy_50 ⟨Nat.le_of_ble_eq_true rfl, Nat.le_of_ble_eq_true rfl⟩ (st1 := [.int x67]) rfl (fun H locs hw => ?_)
        exact r_i cx hr hlocks hw (pr1 h) (congrArg (fun z0 => (XC g q z0)) (pr2 h)) dX4_copy_53
      · replace h := ite_t c66 h
        refine lv_aload hx hb dX4_copy_39 (lv_at hl 0 rfl) ?_
        obtain ⟨x70, g71, h⟩ := bd_ex h
        refine c_V (As := []) (rest := []) (w' := (XC g q d)) cx hw (c_X0_isMissing l g (qs 47 q) N  (sAt (x_sheets d) 1) x70 g71) (cl_X4_227 cx.1.2.2.2.2 ⟨Nat.le_of_ble_eq_true rfl, Nat.le_of_ble_eq_true rfl⟩) (x_recv cx hw (ci := 0) rfl 47 rfl) (ct_X__47_48__S g q d ) hl.1 rfl rfl (Nat.le_of_ble_eq_true rfl) dX4_copy_41 ⟨Nat.le_of_ble_eq_true rfl, Nat.le_of_ble_eq_true rfl⟩ (st1 := [.int x70]) rfl (fun H locs hw => ?_)
        refine lv_if_eq (tgt := 54) hx hb dX4_copy_44 (by decide) (fun c72 => ?_) (fun c72 => ?_)
        · replace h := ite_t c72 h
          refine lv_aload hx hb dX4_copy_54 (lv_at hl 1 rfl) ?_
          refine gf_X4_239 cx hw 45 rfl rfl dX4_copy_56 ?_
          refine lv_aload hx hb dX4_copy_59 (lv_at hl 0 rfl) ?_
          refine gf_X4_239 cx hw 47 rfl rfl dX4_copy_61 ?_
          refine lv_icmp_eq (tgt := 74) hx hb dX4_copy_64 (by decide) (fun c73 => ?_) (fun c73 => ?_)
          · replace h := ite_t c73 h
            refine lv_aload hx hb dX4_copy_74 (lv_at hl 1 rfl) ?_
            refine lv_iload_n hx hb dX4_copy_76 rfl (lv_at hl 4 rfl) ?_
            refine lv_iload hx hb dX4_copy_77 (lv_at hl 7 rfl) ?_
            obtain ⟨x74, g75, h⟩ := bd_ex h
            refine c_V (As := [.int p2, .int p5]) (rest := []) (w' := (XC g q d)) cx hw (c_X0_hasRange l g (qs 45 q) N p2 p5 (sAt (x_sheets d) 0) x74 g75) (cl_X4_242 cx.1.2.2.2.2 ⟨Nat.le_of_ble_eq_true rfl, Nat.le_of_ble_eq_true rfl⟩) (x_recv cx hw (ci := 0) rfl 45 rfl) (ct_X__45_46__S g q d ) hl.1 rfl rfl (Nat.le_of_ble_eq_true rfl) dX4_copy_79 ⟨Nat.le_of_ble_eq_true rfl, Nat.le_of_ble_eq_true rfl⟩ (st1 := [.int x74]) rfl (fun H locs hw => ?_)
            refine lv_if_eq (tgt := 97) hx hb dX4_copy_82 (by decide) (fun c76 => ?_) (fun c76 => ?_)
            · replace h := ite_t c76 h
              refine lv_aload_n hx hb dX4_copy_97 rfl (lv_at hl 2 rfl) ?_
              refine lv_ldc hx hb cx.1.2.2.2.1 (cx.1.2.2.2.2 _ tw_1_202) dX4_copy_98 ?_
              obtain ⟨x77, d78, g79, h⟩ := bd2_ex h
              refine c_V (As := [.int (-1000000001 : Int32)]) (rest := []) (w' := (XC g q d78)) cx hw (c_X4_tell l g q N (-1000000001 : Int32) d x77 d78 g79) (cl_X4_45 cx.1.2.2.2.2 ⟨Nat.le_of_ble_eq_true rfl, Nat.le_of_ble_eq_true rfl⟩) (x_recv cx hw (ci := 4) rfl 0 rfl) (Ct.all (XC_ll ..)) hl.1 rfl rfl (Nat.le_of_ble_eq_true rfl) dX4_copy_100 ⟨Nat.le_of_ble_eq_true rfl, Nat.le_of_ble_eq_true rfl⟩ (st1 := [.int x77]) rfl (fun H locs hw => ?_)
              exact r_i cx hr hlocks hw (pr1 h) (congrArg (fun z0 => (XC g q z0)) (pr2 h)) dX4_copy_103
            · replace h := ite_f c76 h
              refine lv_aload hx hb dX4_copy_85 (lv_at hl 0 rfl) ?_
              refine lv_iload hx hb dX4_copy_87 (lv_at hl 6 rfl) ?_
              refine lv_iload hx hb dX4_copy_89 (lv_at hl 7 rfl) ?_
              obtain ⟨x80, g81, h⟩ := bd_ex h
              refine c_V (As := [.int p4, .int p5]) (rest := []) (w' := (XC g q d)) cx hw (c_X0_hasRange l g (qs 47 q) N p4 p5 (sAt (x_sheets d) 1) x80 g81) (cl_X4_242 cx.1.2.2.2.2 ⟨Nat.le_of_ble_eq_true rfl, Nat.le_of_ble_eq_true rfl⟩) (x_recv cx hw (ci := 0) rfl 47 rfl) (ct_X__47_48__S g q d ) hl.1 rfl rfl (Nat.le_of_ble_eq_true rfl) dX4_copy_91 ⟨Nat.le_of_ble_eq_true rfl, Nat.le_of_ble_eq_true rfl⟩ (st1 := [.int x80]) rfl (fun H locs hw => ?_)
              refine lv_if_ne (tgt := 104) hx hb dX4_copy_94 (by decide) (fun c82 => ?_) (fun c82 => ?_)
              · replace h := ite_f c82 h
                refine lv_aload hx hb dX4_copy_104 (lv_at hl 1 rfl) ?_
                refine gf_X4_245 cx hw 45 rfl rfl dX4_copy_106 ?_
                refine lv_iload_n hx hb dX4_copy_109 rfl (lv_at hl 4 rfl) ?_
                refine lv_aload hx hb dX4_copy_110 (lv_at hl 0 rfl) ?_
                refine gf_X4_245 cx hw 47 rfl rfl dX4_copy_112 ?_
                refine lv_iload hx hb dX4_copy_115 (lv_at hl 6 rfl) ?_
                refine lv_iload hx hb dX4_copy_117 (lv_at hl 7 rfl) ?_
                have i83 := ckr_in h
                replace h := ckr_nx h
                refine va_copyl hx hb (cx.1.2.2.1.trans hl.1.symm) cx.1.2.2.2.1 (cx.1.2.2.2.2 _ tw_3_191) (cx.1.2.2.2.2 _ tw_2_180) (cx.1.2.2.2.2 _ tw_2_179) (cx.1.2.2.2.2 _ tw_1_10) cx.2.1 hw.1 hw.2.1 hw.2.2 46 48 1 1 rfl rfl rfl rfl rfl i83.1 i83.2.1 i83.2.2.1 i83.2.2.2.1 i83.2.2.2.2 (fun _ _ => rfl) (Nat.le_of_ble_eq_true rfl) (Nat.le_of_ble_eq_true rfl) dX4_copy_119 (fun H locs hP hD hS => ?_)
                have hw : Wd g _ _ s H locs := ⟨hP, hD, hS⟩
                obtain ⟨d84, ed84, h⟩ := lt_ex h
                have hw : Wd g (va_A ((XC g q d)) s.heap.size) ((XC g q d84)) s H locs := by rw [ed84]; exact hw
                refine lv_iload hx hb dX4_copy_122 (lv_at hl 7 rfl) ?_
                exact r_i cx hr hlocks hw (pr1 h) (congrArg (fun z0 => (XC g q z0)) (pr2 h)) dX4_copy_124
              · replace h := ite_t c82 h
                refine lv_aload_n hx hb dX4_copy_97 rfl (lv_at hl 2 rfl) ?_
                refine lv_ldc hx hb cx.1.2.2.2.1 (cx.1.2.2.2.2 _ tw_1_202) dX4_copy_98 ?_
                obtain ⟨x85, d86, g87, h⟩ := bd2_ex h
                refine c_V (As := [.int (-1000000001 : Int32)]) (rest := []) (w' := (XC g q d86)) cx hw (c_X4_tell l g q N (-1000000001 : Int32) d x85 d86 g87) (cl_X4_45 cx.1.2.2.2.2 ⟨Nat.le_of_ble_eq_true rfl, Nat.le_of_ble_eq_true rfl⟩) (x_recv cx hw (ci := 4) rfl 0 rfl) (Ct.all (XC_ll ..)) hl.1 rfl rfl (Nat.le_of_ble_eq_true rfl) dX4_copy_100 ⟨Nat.le_of_ble_eq_true rfl, Nat.le_of_ble_eq_true rfl⟩ (st1 := [.int x85]) rfl (fun H locs hw => ?_)
                exact r_i cx hr hlocks hw (pr1 h) (congrArg (fun z0 => (XC g q z0)) (pr2 h)) dX4_copy_103
          · replace h := ite_f c73 h
            refine lv_aload_n hx hb dX4_copy_67 rfl (lv_at hl 2 rfl) ?_
            refine lv_ldc hx hb cx.1.2.2.2.1 (cx.1.2.2.2.2 _ tw_2_70) dX4_copy_68 ?_
            obtain ⟨x88, d89, g90, h⟩ := bd2_ex h
            refine c_V (As := [.int (-1000000003 : Int32)]) (rest := []) (w' := (XC g q d89)) cx hw (c_X4_tell l g q N (-1000000003 : Int32) d x88 d89 g90) (cl_X4_45 cx.1.2.2.2.2 ⟨Nat.le_of_ble_eq_true rfl, Nat.le_of_ble_eq_true rfl⟩) (x_recv cx hw (ci := 4) rfl 0 rfl) (Ct.all (XC_ll ..)) hl.1 rfl rfl (Nat.le_of_ble_eq_true rfl) dX4_copy_70 ⟨Nat.le_of_ble_eq_true rfl, Nat.le_of_ble_eq_true rfl⟩ (st1 := [.int x88]) rfl (fun H locs hw => ?_)
            exact r_i cx hr hlocks hw (pr1 h) (congrArg (fun z0 => (XC g q z0)) (pr2 h)) dX4_copy_73
        · replace h := ite_f c72 h
          refine lv_aload_n hx hb dX4_copy_47 rfl (lv_at hl 2 rfl) ?_
          refine lv_ldc hx hb cx.1.2.2.2.1 (cx.1.2.2.2.2 _ tw_3_177) dX4_copy_48 ?_
          obtain ⟨x91, d92, g93, h⟩ := bd2_ex h
          refine c_V (As := [.int (-1000000006 : Int32)]) (rest := []) (w' := (XC g q d92)) cx hw (c_X4_tell l g q N (-1000000006 : Int32) d x91 d92 g93) (cl_X4_45 cx.1.2.2.2.2 ⟨Nat.le_of_ble_eq_true rfl, Nat.le_of_ble_eq_true rfl⟩) (x_recv cx hw (ci := 4) rfl 0 rfl) (Ct.all (XC_ll ..)) hl.1 rfl rfl (Nat.le_of_ble_eq_true rfl) dX4_copy_50 ⟨Nat.le_of_ble_eq_true rfl, Nat.le_of_ble_eq_true rfl⟩ (st1 := [.int x91]) rfl (fun H locs hw => ?_)
          exact r_i cx hr hlocks hw (pr1 h) (congrArg (fun z0 => (XC g q z0)) (pr2 h)) dX4_copy_53
    · replace h := sel_s h
      refine c_V (As := [.int p3]) (rest := []) (w' := (XC g q d)) cx hw (c_X4_sheetAt l g q N p3 d (some 2) g28) (cl_X4_219 cx.1.2.2.2.2 ⟨Nat.le_of_ble_eq_true rfl, Nat.le_of_ble_eq_true rfl⟩) (x_recv cx hw (ci := 4) rfl 0 rfl) (Ct.all (XC_ll ..)) hl.1 rfl rfl (Nat.le_of_ble_eq_true rfl) dX4_copy_9 ⟨Nat.le_of_ble_eq_true rfl, Nat.le_of_ble_eq_true rfl⟩ (st1 := [.ref (qs 49 q 0)]) rfl (fun H locs hw => ?_)
      refine lv_astore (lv' := [(7, .ref (qs 49 q 0)), (6, .ref (qs 45 q 0)), (0, .ref (q 0)), (1, .int p1), (2, .int p2), (3, .int p3), (4, .int p4), (5, .int p5)]) hx hb dX4_copy_12 hl (by decide) rfl (fun ls hl => ?_)
      refine lv_aload hx hb dX4_copy_14 (lv_at hl 1 rfl) ?_
      refine lv_ifnull hx hb dX4_copy_16 ?_
      refine lv_aload hx hb dX4_copy_19 (lv_at hl 0 rfl) ?_
      refine lv_ifnonnull (tgt := 31) hx hb dX4_copy_21 (by decide) ?_
      refine lv_aload hx hb dX4_copy_31 (lv_at hl 1 rfl) ?_
      obtain ⟨x94, g95, h⟩ := bd_ex h
      refine c_V (As := []) (rest := []) (w' := (XC g q d)) cx hw (c_X0_isMissing l g (qs 45 q) N  (sAt (x_sheets d) 0) x94 g95) (cl_X4_227 cx.1.2.2.2.2 ⟨Nat.le_of_ble_eq_true rfl, Nat.le_of_ble_eq_true rfl⟩) (x_recv cx hw (ci := 0) rfl 45 rfl) (ct_X__45_46__S g q d ) hl.1 rfl rfl (Nat.le_of_ble_eq_true rfl) dX4_copy_33 ⟨Nat.le_of_ble_eq_true rfl, Nat.le_of_ble_eq_true rfl⟩ (st1 := [.int x94]) rfl (fun H locs hw => ?_)
      refine lv_if_ne (tgt := 47) hx hb dX4_copy_36 (by decide) (fun c96 => ?_) (fun c96 => ?_)
      · replace h := ite_f c96 h
        refine lv_aload_n hx hb dX4_copy_47 rfl (lv_at hl 2 rfl) ?_
        refine lv_ldc hx hb cx.1.2.2.2.1 (cx.1.2.2.2.2 _ tw_3_177) dX4_copy_48 ?_
        obtain ⟨x97, d98, g99, h⟩ := bd2_ex h
        refine c_V (As := [.int (-1000000006 : Int32)]) (rest := []) (w' := (XC g q d98)) cx hw (c_X4_tell l g q N (-1000000006 : Int32) d x97 d98 g99) (cl_X4_45 cx.1.2.2.2.2 ⟨Nat.le_of_ble_eq_true rfl, Nat.le_of_ble_eq_true rfl⟩) (x_recv cx hw (ci := 4) rfl 0 rfl) (Ct.all (XC_ll ..)) hl.1 rfl rfl (Nat.le_of_ble_eq_true rfl) dX4_copy_50 ⟨Nat.le_of_ble_eq_true rfl, Nat.le_of_ble_eq_true rfl⟩ (st1 := [.int x97]) rfl (fun H locs hw => ?_)
        exact r_i cx hr hlocks hw (pr1 h) (congrArg (fun z0 => (XC g q z0)) (pr2 h)) dX4_copy_53
      · replace h := ite_t c96 h
        refine lv_aload hx hb dX4_copy_39 (lv_at hl 0 rfl) ?_
        obtain ⟨x100, g101, h⟩ := bd_ex h
        refine c_V (As := []) (rest := []) (w' := (XC g q d)) cx hw (c_X0_isMissing l g (qs 49 q) N  (sAt (x_sheets d) 2) x100 g101) (cl_X4_227 cx.1.2.2.2.2 ⟨Nat.le_of_ble_eq_true rfl, Nat.le_of_ble_eq_true rfl⟩) (x_recv cx hw (ci := 0) rfl 49 rfl) (ct_X__49_50__S g q d ) hl.1 rfl rfl (Nat.le_of_ble_eq_true rfl) dX4_copy_41 ⟨Nat.le_of_ble_eq_true rfl, Nat.le_of_ble_eq_true rfl⟩ (st1 := [.int x100]) rfl (fun H locs hw => ?_)
        refine lv_if_eq (tgt := 54) hx hb dX4_copy_44 (by decide) (fun c102 => ?_) (fun c102 => ?_)
        · replace h := ite_t c102 h
          refine lv_aload hx hb dX4_copy_54 (lv_at hl 1 rfl) ?_
          refine gf_X4_239 cx hw 45 rfl rfl dX4_copy_56 ?_
          refine lv_aload hx hb dX4_copy_59 (lv_at hl 0 rfl) ?_
          refine gf_X4_239 cx hw 49 rfl rfl dX4_copy_61 ?_
          refine lv_icmp_eq (tgt := 74) hx hb dX4_copy_64 (by decide) (fun c103 => ?_) (fun c103 => ?_)
          · replace h := ite_t c103 h
            refine lv_aload hx hb dX4_copy_74 (lv_at hl 1 rfl) ?_
            refine lv_iload_n hx hb dX4_copy_76 rfl (lv_at hl 4 rfl) ?_
            refine lv_iload hx hb dX4_copy_77 (lv_at hl 7 rfl) ?_
            obtain ⟨x104, g105, h⟩ := bd_ex h
            refine c_V (As := [.int p2, .int p5]) (rest := []) (w' := (XC g q d)) cx hw (c_X0_hasRange l g (qs 45 q) N p2 p5 (sAt (x_sheets d) 0) x104 g105) (cl_X4_242 cx.1.2.2.2.2 ⟨Nat.le_of_ble_eq_true rfl, Nat.le_of_ble_eq_true rfl⟩) (x_recv cx hw (ci := 0) rfl 45 rfl) (ct_X__45_46__S g q d ) hl.1 rfl rfl (Nat.le_of_ble_eq_true rfl) dX4_copy_79 ⟨Nat.le_of_ble_eq_true rfl, Nat.le_of_ble_eq_true rfl⟩ (st1 := [.int x104]) rfl (fun H locs hw => ?_)
            refine lv_if_eq (tgt := 97) hx hb dX4_copy_82 (by decide) (fun c106 => ?_) (fun c106 => ?_)
            · replace h := ite_t c106 h
              refine lv_aload_n hx hb dX4_copy_97 rfl (lv_at hl 2 rfl) ?_
              refine lv_ldc hx hb cx.1.2.2.2.1 (cx.1.2.2.2.2 _ tw_1_202) dX4_copy_98 ?_
              obtain ⟨x107, d108, g109, h⟩ := bd2_ex h
              refine c_V (As := [.int (-1000000001 : Int32)]) (rest := []) (w' := (XC g q d108)) cx hw (c_X4_tell l g q N (-1000000001 : Int32) d x107 d108 g109) (cl_X4_45 cx.1.2.2.2.2 ⟨Nat.le_of_ble_eq_true rfl, Nat.le_of_ble_eq_true rfl⟩) (x_recv cx hw (ci := 4) rfl 0 rfl) (Ct.all (XC_ll ..)) hl.1 rfl rfl (Nat.le_of_ble_eq_true rfl) dX4_copy_100 ⟨Nat.le_of_ble_eq_true rfl, Nat.le_of_ble_eq_true rfl⟩ (st1 := [.int x107]) rfl (fun H locs hw => ?_)
              exact r_i cx hr hlocks hw (pr1 h) (congrArg (fun z0 => (XC g q z0)) (pr2 h)) dX4_copy_103
            · replace h := ite_f c106 h
              refine lv_aload hx hb dX4_copy_85 (lv_at hl 0 rfl) ?_
              refine lv_iload hx hb dX4_copy_87 (lv_at hl 6 rfl) ?_
              refine lv_iload hx hb dX4_copy_89 (lv_at hl 7 rfl) ?_
              obtain ⟨x110, g111, h⟩ := bd_ex h
              refine c_V (As := [.int p4, .int p5]) (rest := []) (w' := (XC g q d)) cx hw (c_X0_hasRange l g (qs 49 q) N p4 p5 (sAt (x_sheets d) 2) x110 g111) (cl_X4_242 cx.1.2.2.2.2 ⟨Nat.le_of_ble_eq_true rfl, Nat.le_of_ble_eq_true rfl⟩) (x_recv cx hw (ci := 0) rfl 49 rfl) (ct_X__49_50__S g q d ) hl.1 rfl rfl (Nat.le_of_ble_eq_true rfl) dX4_copy_91 ⟨Nat.le_of_ble_eq_true rfl, Nat.le_of_ble_eq_true rfl⟩ (st1 := [.int x110]) rfl (fun H locs hw => ?_)
              refine lv_if_ne (tgt := 104) hx hb dX4_copy_94 (by decide) (fun c112 => ?_) (fun c112 => ?_)
              · replace h := ite_f c112 h
                refine lv_aload hx hb dX4_copy_104 (lv_at hl 1 rfl) ?_
                refine gf_X4_245 cx hw 45 rfl rfl dX4_copy_106 ?_
                refine lv_iload_n hx hb dX4_copy_109 rfl (lv_at hl 4 rfl) ?_
                refine lv_aload hx hb dX4_copy_110 (lv_at hl 0 rfl) ?_
                refine gf_X4_245 cx hw 49 rfl rfl dX4_copy_112 ?_
                refine lv_iload hx hb dX4_copy_115 (lv_at hl 6 rfl) ?_
                refine lv_iload hx hb dX4_copy_117 (lv_at hl 7 rfl) ?_
                have i113 := ckr_in h
                replace h := ckr_nx h
                refine va_copyl hx hb (cx.1.2.2.1.trans hl.1.symm) cx.1.2.2.2.1 (cx.1.2.2.2.2 _ tw_3_191) (cx.1.2.2.2.2 _ tw_2_180) (cx.1.2.2.2.2 _ tw_2_179) (cx.1.2.2.2.2 _ tw_1_10) cx.2.1 hw.1 hw.2.1 hw.2.2 46 50 1 1 rfl rfl rfl rfl rfl i113.1 i113.2.1 i113.2.2.1 i113.2.2.2.1 i113.2.2.2.2 (fun _ _ => rfl) (Nat.le_of_ble_eq_true rfl) (Nat.le_of_ble_eq_true rfl) dX4_copy_119 (fun H locs hP hD hS => ?_)
                have hw : Wd g _ _ s H locs := ⟨hP, hD, hS⟩
                obtain ⟨d114, ed114, h⟩ := lt_ex h
                have hw : Wd g (va_A ((XC g q d)) s.heap.size) ((XC g q d114)) s H locs := by rw [ed114]; exact hw
                refine lv_iload hx hb dX4_copy_122 (lv_at hl 7 rfl) ?_
                exact r_i cx hr hlocks hw (pr1 h) (congrArg (fun z0 => (XC g q z0)) (pr2 h)) dX4_copy_124
              · replace h := ite_t c112 h
                refine lv_aload_n hx hb dX4_copy_97 rfl (lv_at hl 2 rfl) ?_
                refine lv_ldc hx hb cx.1.2.2.2.1 (cx.1.2.2.2.2 _ tw_1_202) dX4_copy_98 ?_
                obtain ⟨x115, d116, g117, h⟩ := bd2_ex h
                refine c_V (As := [.int (-1000000001 : Int32)]) (rest := []) (w' := (XC g q d116)) cx hw (c_X4_tell l g q N (-1000000001 : Int32) d x115 d116 g117) (cl_X4_45 cx.1.2.2.2.2 ⟨Nat.le_of_ble_eq_true rfl, Nat.le_of_ble_eq_true rfl⟩) (x_recv cx hw (ci := 4) rfl 0 rfl) (Ct.all (XC_ll ..)) hl.1 rfl rfl (Nat.le_of_ble_eq_true rfl) dX4_copy_100 ⟨Nat.le_of_ble_eq_true rfl, Nat.le_of_ble_eq_true rfl⟩ (st1 := [.int x115]) rfl (fun H locs hw => ?_)
                exact r_i cx hr hlocks hw (pr1 h) (congrArg (fun z0 => (XC g q z0)) (pr2 h)) dX4_copy_103
          · replace h := ite_f c103 h
            refine lv_aload_n hx hb dX4_copy_67 rfl (lv_at hl 2 rfl) ?_
            refine lv_ldc hx hb cx.1.2.2.2.1 (cx.1.2.2.2.2 _ tw_2_70) dX4_copy_68 ?_
            obtain ⟨x118, d119, g120, h⟩ := bd2_ex h
            refine c_V (As := [.int (-1000000003 : Int32)]) (rest := []) (w' := (XC g q d119)) cx hw (c_X4_tell l g q N (-1000000003 : Int32) d x118 d119 g120) (cl_X4_45 cx.1.2.2.2.2 ⟨Nat.le_of_ble_eq_true rfl, Nat.le_of_ble_eq_true rfl⟩) (x_recv cx hw (ci := 4) rfl 0 rfl) (Ct.all (XC_ll ..)) hl.1 rfl rfl (Nat.le_of_ble_eq_true rfl) dX4_copy_70 ⟨Nat.le_of_ble_eq_true rfl, Nat.le_of_ble_eq_true rfl⟩ (st1 := [.int x118]) rfl (fun H locs hw => ?_)
            exact r_i cx hr hlocks hw (pr1 h) (congrArg (fun z0 => (XC g q z0)) (pr2 h)) dX4_copy_73
        · replace h := ite_f c102 h
          refine lv_aload_n hx hb dX4_copy_47 rfl (lv_at hl 2 rfl) ?_
          refine lv_ldc hx hb cx.1.2.2.2.1 (cx.1.2.2.2.2 _ tw_3_177) dX4_copy_48 ?_
          obtain ⟨x121, d122, g123, h⟩ := bd2_ex h
          refine c_V (As := [.int (-1000000006 : Int32)]) (rest := []) (w' := (XC g q d122)) cx hw (c_X4_tell l g q N (-1000000006 : Int32) d x121 d122 g123) (cl_X4_45 cx.1.2.2.2.2 ⟨Nat.le_of_ble_eq_true rfl, Nat.le_of_ble_eq_true rfl⟩) (x_recv cx hw (ci := 4) rfl 0 rfl) (Ct.all (XC_ll ..)) hl.1 rfl rfl (Nat.le_of_ble_eq_true rfl) dX4_copy_50 ⟨Nat.le_of_ble_eq_true rfl, Nat.le_of_ble_eq_true rfl⟩ (st1 := [.int x121]) rfl (fun H locs hw => ?_)
          exact r_i cx hr hlocks hw (pr1 h) (congrArg (fun z0 => (XC g q z0)) (pr2 h)) dX4_copy_53
    · replace h := sel_s h
      refine c_V (As := [.int p3]) (rest := []) (w' := (XC g q d)) cx hw (c_X4_sheetAt l g q N p3 d (some 3) g28) (cl_X4_219 cx.1.2.2.2.2 ⟨Nat.le_of_ble_eq_true rfl, Nat.le_of_ble_eq_true rfl⟩) (x_recv cx hw (ci := 4) rfl 0 rfl) (Ct.all (XC_ll ..)) hl.1 rfl rfl (Nat.le_of_ble_eq_true rfl) dX4_copy_9 ⟨Nat.le_of_ble_eq_true rfl, Nat.le_of_ble_eq_true rfl⟩ (st1 := [.ref (qs 51 q 0)]) rfl (fun H locs hw => ?_)
      refine lv_astore (lv' := [(7, .ref (qs 51 q 0)), (6, .ref (qs 45 q 0)), (0, .ref (q 0)), (1, .int p1), (2, .int p2), (3, .int p3), (4, .int p4), (5, .int p5)]) hx hb dX4_copy_12 hl (by decide) rfl (fun ls hl => ?_)
      refine lv_aload hx hb dX4_copy_14 (lv_at hl 1 rfl) ?_
      refine lv_ifnull hx hb dX4_copy_16 ?_
      refine lv_aload hx hb dX4_copy_19 (lv_at hl 0 rfl) ?_
      refine lv_ifnonnull (tgt := 31) hx hb dX4_copy_21 (by decide) ?_
      refine lv_aload hx hb dX4_copy_31 (lv_at hl 1 rfl) ?_
      obtain ⟨x124, g125, h⟩ := bd_ex h
      refine c_V (As := []) (rest := []) (w' := (XC g q d)) cx hw (c_X0_isMissing l g (qs 45 q) N  (sAt (x_sheets d) 0) x124 g125) (cl_X4_227 cx.1.2.2.2.2 ⟨Nat.le_of_ble_eq_true rfl, Nat.le_of_ble_eq_true rfl⟩) (x_recv cx hw (ci := 0) rfl 45 rfl) (ct_X__45_46__S g q d ) hl.1 rfl rfl (Nat.le_of_ble_eq_true rfl) dX4_copy_33 ⟨Nat.le_of_ble_eq_true rfl, Nat.le_of_ble_eq_true rfl⟩ (st1 := [.int x124]) rfl (fun H locs hw => ?_)
      refine lv_if_ne (tgt := 47) hx hb dX4_copy_36 (by decide) (fun c126 => ?_) (fun c126 => ?_)
      · replace h := ite_f c126 h
        refine lv_aload_n hx hb dX4_copy_47 rfl (lv_at hl 2 rfl) ?_
        refine lv_ldc hx hb cx.1.2.2.2.1 (cx.1.2.2.2.2 _ tw_3_177) dX4_copy_48 ?_
        obtain ⟨x127, d128, g129, h⟩ := bd2_ex h
        refine c_V (As := [.int (-1000000006 : Int32)]) (rest := []) (w' := (XC g q d128)) cx hw (c_X4_tell l g q N (-1000000006 : Int32) d x127 d128 g129) (cl_X4_45 cx.1.2.2.2.2 ⟨Nat.le_of_ble_eq_true rfl, Nat.le_of_ble_eq_true rfl⟩) (x_recv cx hw (ci := 4) rfl 0 rfl) (Ct.all (XC_ll ..)) hl.1 rfl rfl (Nat.le_of_ble_eq_true rfl) dX4_copy_50 ⟨Nat.le_of_ble_eq_true rfl, Nat.le_of_ble_eq_true rfl⟩ (st1 := [.int x127]) rfl (fun H locs hw => ?_)
        exact r_i cx hr hlocks hw (pr1 h) (congrArg (fun z0 => (XC g q z0)) (pr2 h)) dX4_copy_53
      · replace h := ite_t c126 h
        refine lv_aload hx hb dX4_copy_39 (lv_at hl 0 rfl) ?_
        obtain ⟨x130, g131, h⟩ := bd_ex h
        refine c_V (As := []) (rest := []) (w' := (XC g q d)) cx hw (c_X0_isMissing l g (qs 51 q) N  (sAt (x_sheets d) 3) x130 g131) (cl_X4_227 cx.1.2.2.2.2 ⟨Nat.le_of_ble_eq_true rfl, Nat.le_of_ble_eq_true rfl⟩) (x_recv cx hw (ci := 0) rfl 51 rfl) (ct_X__51_52__S g q d ) hl.1 rfl rfl (Nat.le_of_ble_eq_true rfl) dX4_copy_41 ⟨Nat.le_of_ble_eq_true rfl, Nat.le_of_ble_eq_true rfl⟩ (st1 := [.int x130]) rfl (fun H locs hw => ?_)
        refine lv_if_eq (tgt := 54) hx hb dX4_copy_44 (by decide) (fun c132 => ?_) (fun c132 => ?_)
        · replace h := ite_t c132 h
          refine lv_aload hx hb dX4_copy_54 (lv_at hl 1 rfl) ?_
          refine gf_X4_239 cx hw 45 rfl rfl dX4_copy_56 ?_
          refine lv_aload hx hb dX4_copy_59 (lv_at hl 0 rfl) ?_
          refine gf_X4_239 cx hw 51 rfl rfl dX4_copy_61 ?_
          refine lv_icmp_eq (tgt := 74) hx hb dX4_copy_64 (by decide) (fun c133 => ?_) (fun c133 => ?_)
          · replace h := ite_t c133 h
            refine lv_aload hx hb dX4_copy_74 (lv_at hl 1 rfl) ?_
            refine lv_iload_n hx hb dX4_copy_76 rfl (lv_at hl 4 rfl) ?_
            refine lv_iload hx hb dX4_copy_77 (lv_at hl 7 rfl) ?_
            obtain ⟨x134, g135, h⟩ := bd_ex h
            refine c_V (As := [.int p2, .int p5]) (rest := []) (w' := (XC g q d)) cx hw (c_X0_hasRange l g (qs 45 q) N p2 p5 (sAt (x_sheets d) 0) x134 g135) (cl_X4_242 cx.1.2.2.2.2 ⟨Nat.le_of_ble_eq_true rfl, Nat.le_of_ble_eq_true rfl⟩) (x_recv cx hw (ci := 0) rfl 45 rfl) (ct_X__45_46__S g q d ) hl.1 rfl rfl (Nat.le_of_ble_eq_true rfl) dX4_copy_79 ⟨Nat.le_of_ble_eq_true rfl, Nat.le_of_ble_eq_true rfl⟩ (st1 := [.int x134]) rfl (fun H locs hw => ?_)
            refine lv_if_eq (tgt := 97) hx hb dX4_copy_82 (by decide) (fun c136 => ?_) (fun c136 => ?_)
            · replace h := ite_t c136 h
              refine lv_aload_n hx hb dX4_copy_97 rfl (lv_at hl 2 rfl) ?_
              refine lv_ldc hx hb cx.1.2.2.2.1 (cx.1.2.2.2.2 _ tw_1_202) dX4_copy_98 ?_
              obtain ⟨x137, d138, g139, h⟩ := bd2_ex h
              refine c_V (As := [.int (-1000000001 : Int32)]) (rest := []) (w' := (XC g q d138)) cx hw (c_X4_tell l g q N (-1000000001 : Int32) d x137 d138 g139) (cl_X4_45 cx.1.2.2.2.2 ⟨Nat.le_of_ble_eq_true rfl, Nat.le_of_ble_eq_true rfl⟩) (x_recv cx hw (ci := 4) rfl 0 rfl) (Ct.all (XC_ll ..)) hl.1 rfl rfl (Nat.le_of_ble_eq_true rfl) dX4_copy_100 ⟨Nat.le_of_ble_eq_true rfl, Nat.le_of_ble_eq_true rfl⟩ (st1 := [.int x137]) rfl (fun H locs hw => ?_)
              exact r_i cx hr hlocks hw (pr1 h) (congrArg (fun z0 => (XC g q z0)) (pr2 h)) dX4_copy_103
            · replace h := ite_f c136 h
              refine lv_aload hx hb dX4_copy_85 (lv_at hl 0 rfl) ?_
              refine lv_iload hx hb dX4_copy_87 (lv_at hl 6 rfl) ?_
              refine lv_iload hx hb dX4_copy_89 (lv_at hl 7 rfl) ?_
              obtain ⟨x140, g141, h⟩ := bd_ex h
              refine c_V (As := [.int p4, .int p5]) (rest := []) (w' := (XC g q d)) cx hw (c_X0_hasRange l g (qs 51 q) N p4 p5 (sAt (x_sheets d) 3) x140 g141) (cl_X4_242 cx.1.2.2.2.2 ⟨Nat.le_of_ble_eq_true rfl, Nat.le_of_ble_eq_true rfl⟩) (x_recv cx hw (ci := 0) rfl 51 rfl) (ct_X__51_52__S g q d ) hl.1 rfl rfl (Nat.le_of_ble_eq_true rfl) dX4_copy_91 ⟨Nat.le_of_ble_eq_true rfl, Nat.le_of_ble_eq_true rfl⟩ (st1 := [.int x140]) rfl (fun H locs hw => ?_)
              refine lv_if_ne (tgt := 104) hx hb dX4_copy_94 (by decide) (fun c142 => ?_) (fun c142 => ?_)
              · replace h := ite_f c142 h
                refine lv_aload hx hb dX4_copy_104 (lv_at hl 1 rfl) ?_
                refine gf_X4_245 cx hw 45 rfl rfl dX4_copy_106 ?_
                refine lv_iload_n hx hb dX4_copy_109 rfl (lv_at hl 4 rfl) ?_
                refine lv_aload hx hb dX4_copy_110 (lv_at hl 0 rfl) ?_
                refine gf_X4_245 cx hw 51 rfl rfl dX4_copy_112 ?_
                refine lv_iload hx hb dX4_copy_115 (lv_at hl 6 rfl) ?_
                refine lv_iload hx hb dX4_copy_117 (lv_at hl 7 rfl) ?_
                have i143 := ckr_in h
                replace h := ckr_nx h
                refine va_copyl hx hb (cx.1.2.2.1.trans hl.1.symm) cx.1.2.2.2.1 (cx.1.2.2.2.2 _ tw_3_191) (cx.1.2.2.2.2 _ tw_2_180) (cx.1.2.2.2.2 _ tw_2_179) (cx.1.2.2.2.2 _ tw_1_10) cx.2.1 hw.1 hw.2.1 hw.2.2 46 52 1 1 rfl rfl rfl rfl rfl i143.1 i143.2.1 i143.2.2.1 i143.2.2.2.1 i143.2.2.2.2 (fun _ _ => rfl) (Nat.le_of_ble_eq_true rfl) (Nat.le_of_ble_eq_true rfl) dX4_copy_119 (fun H locs hP hD hS => ?_)
                have hw : Wd g _ _ s H locs := ⟨hP, hD, hS⟩
                obtain ⟨d144, ed144, h⟩ := lt_ex h
                have hw : Wd g (va_A ((XC g q d)) s.heap.size) ((XC g q d144)) s H locs := by rw [ed144]; exact hw
                refine lv_iload hx hb dX4_copy_122 (lv_at hl 7 rfl) ?_
                exact r_i cx hr hlocks hw (pr1 h) (congrArg (fun z0 => (XC g q z0)) (pr2 h)) dX4_copy_124
              · replace h := ite_t c142 h
                refine lv_aload_n hx hb dX4_copy_97 rfl (lv_at hl 2 rfl) ?_
                refine lv_ldc hx hb cx.1.2.2.2.1 (cx.1.2.2.2.2 _ tw_1_202) dX4_copy_98 ?_
                obtain ⟨x145, d146, g147, h⟩ := bd2_ex h
                refine c_V (As := [.int (-1000000001 : Int32)]) (rest := []) (w' := (XC g q d146)) cx hw (c_X4_tell l g q N (-1000000001 : Int32) d x145 d146 g147) (cl_X4_45 cx.1.2.2.2.2 ⟨Nat.le_of_ble_eq_true rfl, Nat.le_of_ble_eq_true rfl⟩) (x_recv cx hw (ci := 4) rfl 0 rfl) (Ct.all (XC_ll ..)) hl.1 rfl rfl (Nat.le_of_ble_eq_true rfl) dX4_copy_100 ⟨Nat.le_of_ble_eq_true rfl, Nat.le_of_ble_eq_true rfl⟩ (st1 := [.int x145]) rfl (fun H locs hw => ?_)
                exact r_i cx hr hlocks hw (pr1 h) (congrArg (fun z0 => (XC g q z0)) (pr2 h)) dX4_copy_103
          · replace h := ite_f c133 h
            refine lv_aload_n hx hb dX4_copy_67 rfl (lv_at hl 2 rfl) ?_
            refine lv_ldc hx hb cx.1.2.2.2.1 (cx.1.2.2.2.2 _ tw_2_70) dX4_copy_68 ?_
            obtain ⟨x148, d149, g150, h⟩ := bd2_ex h
            refine c_V (As := [.int (-1000000003 : Int32)]) (rest := []) (w' := (XC g q d149)) cx hw (c_X4_tell l g q N (-1000000003 : Int32) d x148 d149 g150) (cl_X4_45 cx.1.2.2.2.2 ⟨Nat.le_of_ble_eq_true rfl, Nat.le_of_ble_eq_true rfl⟩) (x_recv cx hw (ci := 4) rfl 0 rfl) (Ct.all (XC_ll ..)) hl.1 rfl rfl (Nat.le_of_ble_eq_true rfl) dX4_copy_70 ⟨Nat.le_of_ble_eq_true rfl, Nat.le_of_ble_eq_true rfl⟩ (st1 := [.int x148]) rfl (fun H locs hw => ?_)
            exact r_i cx hr hlocks hw (pr1 h) (congrArg (fun z0 => (XC g q z0)) (pr2 h)) dX4_copy_73
        · replace h := ite_f c132 h
          refine lv_aload_n hx hb dX4_copy_47 rfl (lv_at hl 2 rfl) ?_
          refine lv_ldc hx hb cx.1.2.2.2.1 (cx.1.2.2.2.2 _ tw_3_177) dX4_copy_48 ?_
          obtain ⟨x151, d152, g153, h⟩ := bd2_ex h
          refine c_V (As := [.int (-1000000006 : Int32)]) (rest := []) (w' := (XC g q d152)) cx hw (c_X4_tell l g q N (-1000000006 : Int32) d x151 d152 g153) (cl_X4_45 cx.1.2.2.2.2 ⟨Nat.le_of_ble_eq_true rfl, Nat.le_of_ble_eq_true rfl⟩) (x_recv cx hw (ci := 4) rfl 0 rfl) (Ct.all (XC_ll ..)) hl.1 rfl rfl (Nat.le_of_ble_eq_true rfl) dX4_copy_50 ⟨Nat.le_of_ble_eq_true rfl, Nat.le_of_ble_eq_true rfl⟩ (st1 := [.int x151]) rfl (fun H locs hw => ?_)
          exact r_i cx hr hlocks hw (pr1 h) (congrArg (fun z0 => (XC g q z0)) (pr2 h)) dX4_copy_53
  · replace h := sel_s h
    refine c_V (As := [.int p1]) (rest := []) (w' := (XC g q d)) cx hw (c_X4_sheetAt l g q N p1 d (some 1) g2) (cl_X4_219 cx.1.2.2.2.2 ⟨Nat.le_of_ble_eq_true rfl, Nat.le_of_ble_eq_true rfl⟩) (x_recv cx hw (ci := 4) rfl 0 rfl) (Ct.all (XC_ll ..)) hl.1 rfl rfl (Nat.le_of_ble_eq_true rfl) dX4_copy_2 ⟨Nat.le_of_ble_eq_true rfl, Nat.le_of_ble_eq_true rfl⟩ (st1 := [.ref (qs 47 q 0)]) rfl (fun H locs hw => ?_)
    refine lv_astore (lv' := [(6, .ref (qs 47 q 0)), (0, .ref (q 0)), (1, .int p1), (2, .int p2), (3, .int p3), (4, .int p4), (5, .int p5)]) hx hb dX4_copy_5 hl (by decide) rfl (fun ls hl => ?_)
    refine lv_aload_n hx hb dX4_copy_7 rfl (lv_at hl 1 rfl) ?_
    refine lv_iload_n hx hb dX4_copy_8 rfl (lv_at hl 4 rfl) ?_
    obtain ⟨r184, g185, h⟩ := bd_ex h
    rcases sh_cases g185 with e187 | e187 | e187 | e187 | e187 <;> subst e187
    · replace h := sel_n h
      refine c_V (As := [.int p3]) (rest := []) (w' := (XC g q d)) cx hw (c_X4_sheetAt l g q N p3 d none g185) (cl_X4_219 cx.1.2.2.2.2 ⟨Nat.le_of_ble_eq_true rfl, Nat.le_of_ble_eq_true rfl⟩) (x_recv cx hw (ci := 4) rfl 0 rfl) (Ct.all (XC_ll ..)) hl.1 rfl rfl (Nat.le_of_ble_eq_true rfl) dX4_copy_9 ⟨Nat.le_of_ble_eq_true rfl, Nat.le_of_ble_eq_true rfl⟩ (st1 := [.null]) rfl (fun H locs hw => ?_)
      refine lv_astoreN (lv' := [(7, .null), (6, .ref (qs 47 q 0)), (0, .ref (q 0)), (1, .int p1), (2, .int p2), (3, .int p3), (4, .int p4), (5, .int p5)]) hx hb dX4_copy_12 hl (by decide) rfl (fun ls hl => ?_)
      refine lv_aload hx hb dX4_copy_14 (lv_at hl 1 rfl) ?_
      refine lv_ifnull hx hb dX4_copy_16 ?_
      refine lv_aloadN hx hb dX4_copy_19 (lv_at hl 0 rfl) ?_
      refine lv_ifnonnullN hx hb dX4_copy_21 ?_
      refine lv_aload_n hx hb dX4_copy_24 rfl (lv_at hl 2 rfl) ?_
      refine lv_ldc hx hb cx.1.2.2.2.1 (cx.1.2.2.2.2 _ tw_1_202) dX4_copy_25 ?_
      obtain ⟨x188, d189, g190, h⟩ := bd2_ex h
      refine c_V (As := [.int (-1000000001 : Int32)]) (rest := []) (w' := (XC g q d189)) cx hw (c_X4_tell l g q N (-1000000001 : Int32) d x188 d189 g190) (cl_X4_45 cx.1.2.2.2.2 ⟨Nat.le_of_ble_eq_true rfl, Nat.le_of_ble_eq_true rfl⟩) (x_recv cx hw (ci := 4) rfl 0 rfl) (Ct.all (XC_ll ..)) hl.1 rfl rfl (Nat.le_of_ble_eq_true rfl) dX4_copy_27 ⟨Nat.le_of_ble_eq_true rfl, Nat.le_of_ble_eq_true rfl⟩ (st1 := [.int x188]) rfl (fun H locs hw => ?_)
      exact r_i cx hr hlocks hw (pr1 h) (congrArg (fun z0 => (XC g q z0)) (pr2 h)) dX4_copy_30
    · replace h := sel_s h
      refine c_V (As := [.int p3]) (rest := []) (w' := (XC g q d)) cx hw (c_X4_sheetAt l g q N p3 d (some 0) g185) (cl_X4_219 cx.1.2.2.2.2 ⟨Nat.le_of_ble_eq_true rfl, Nat.le_of_ble_eq_true rfl⟩) (x_recv cx hw (ci := 4) rfl 0 rfl) (Ct.all (XC_ll ..)) hl.1 rfl rfl (Nat.le_of_ble_eq_true rfl) dX4_copy_9 ⟨Nat.le_of_ble_eq_true rfl, Nat.le_of_ble_eq_true rfl⟩ (st1 := [.ref (qs 45 q 0)]) rfl (fun H locs hw => ?_)
      refine lv_astore (lv' := [(7, .ref (qs 45 q 0)), (6, .ref (qs 47 q 0)), (0, .ref (q 0)), (1, .int p1), (2, .int p2), (3, .int p3), (4, .int p4), (5, .int p5)]) hx hb dX4_copy_12 hl (by decide) rfl (fun ls hl => ?_)
      refine lv_aload hx hb dX4_copy_14 (lv_at hl 1 rfl) ?_
      refine lv_ifnull hx hb dX4_copy_16 ?_
      refine lv_aload hx hb dX4_copy_19 (lv_at hl 0 rfl) ?_
      refine lv_ifnonnull (tgt := 31) hx hb dX4_copy_21 (by decide) ?_
      refine lv_aload hx hb dX4_copy_31 (lv_at hl 1 rfl) ?_
      obtain ⟨x191, g192, h⟩ := bd_ex h
      refine c_V (As := []) (rest := []) (w' := (XC g q d)) cx hw (c_X0_isMissing l g (qs 47 q) N  (sAt (x_sheets d) 1) x191 g192) (cl_X4_227 cx.1.2.2.2.2 ⟨Nat.le_of_ble_eq_true rfl, Nat.le_of_ble_eq_true rfl⟩) (x_recv cx hw (ci := 0) rfl 47 rfl) (ct_X__47_48__S g q d ) hl.1 rfl rfl (Nat.le_of_ble_eq_true rfl) dX4_copy_33 ⟨Nat.le_of_ble_eq_true rfl, Nat.le_of_ble_eq_true rfl⟩ (st1 := [.int x191]) rfl (fun H locs hw => ?_)
      refine lv_if_ne (tgt := 47) hx hb dX4_copy_36 (by decide) (fun c193 => ?_) (fun c193 => ?_)
      · replace h := ite_f c193 h
        refine lv_aload_n hx hb dX4_copy_47 rfl (lv_at hl 2 rfl) ?_
        refine lv_ldc hx hb cx.1.2.2.2.1 (cx.1.2.2.2.2 _ tw_3_177) dX4_copy_48 ?_
        obtain ⟨x194, d195, g196, h⟩ := bd2_ex h
        refine c_V (As := [.int (-1000000006 : Int32)]) (rest := []) (w' := (XC g q d195)) cx hw (c_X4_tell l g q N (-1000000006 : Int32) d x194 d195 g196) (cl_X4_45 cx.1.2.2.2.2 ⟨Nat.le_of_ble_eq_true rfl, Nat.le_of_ble_eq_true rfl⟩) (x_recv cx hw (ci := 4) rfl 0 rfl) (Ct.all (XC_ll ..)) hl.1 rfl rfl (Nat.le_of_ble_eq_true rfl) dX4_copy_50 ⟨Nat.le_of_ble_eq_true rfl, Nat.le_of_ble_eq_true rfl⟩ (st1 := [.int x194]) rfl (fun H locs hw => ?_)
        exact r_i cx hr hlocks hw (pr1 h) (congrArg (fun z0 => (XC g q z0)) (pr2 h)) dX4_copy_53
      · replace h := ite_t c193 h
        refine lv_aload hx hb dX4_copy_39 (lv_at hl 0 rfl) ?_
        obtain ⟨x197, g198, h⟩ := bd_ex h
        refine c_V (As := []) (rest := []) (w' := (XC g q d)) cx hw (c_X0_isMissing l g (qs 45 q) N  (sAt (x_sheets d) 0) x197 g198) (cl_X4_227 cx.1.2.2.2.2 ⟨Nat.le_of_ble_eq_true rfl, Nat.le_of_ble_eq_true rfl⟩) (x_recv cx hw (ci := 0) rfl 45 rfl) (ct_X__45_46__S g q d ) hl.1 rfl rfl (Nat.le_of_ble_eq_true rfl) dX4_copy_41 ⟨Nat.le_of_ble_eq_true rfl, Nat.le_of_ble_eq_true rfl⟩ (st1 := [.int x197]) rfl (fun H locs hw => ?_)
        refine lv_if_eq (tgt := 54) hx hb dX4_copy_44 (by decide) (fun c199 => ?_) (fun c199 => ?_)
        · replace h := ite_t c199 h
          refine lv_aload hx hb dX4_copy_54 (lv_at hl 1 rfl) ?_
          refine gf_X4_239 cx hw 47 rfl rfl dX4_copy_56 ?_
          refine lv_aload hx hb dX4_copy_59 (lv_at hl 0 rfl) ?_
          refine gf_X4_239 cx hw 45 rfl rfl dX4_copy_61 ?_
          refine lv_icmp_eq (tgt := 74) hx hb dX4_copy_64 (by decide) (fun c200 => ?_) (fun c200 => ?_)
          · replace h := ite_t c200 h
            refine lv_aload hx hb dX4_copy_74 (lv_at hl 1 rfl) ?_
            refine lv_iload_n hx hb dX4_copy_76 rfl (lv_at hl 4 rfl) ?_
            refine lv_iload hx hb dX4_copy_77 (lv_at hl 7 rfl) ?_
            obtain ⟨x201, g202, h⟩ := bd_ex h
            refine c_V (As := [.int p2, .int p5]) (rest := []) (w' := (XC g q d)) cx hw (c_X0_hasRange l g (qs 47 q) N p2 p5 (sAt (x_sheets d) 1) x201 g202) (cl_X4_242 cx.1.2.2.2.2 ⟨Nat.le_of_ble_eq_true rfl, Nat.le_of_ble_eq_true rfl⟩) (x_recv cx hw (ci := 0) rfl 47 rfl) (ct_X__47_48__S g q d ) hl.1 rfl rfl (Nat.le_of_ble_eq_true rfl) dX4_copy_79 ⟨Nat.le_of_ble_eq_true rfl, Nat.le_of_ble_eq_true rfl⟩ (st1 := [.int x201]) rfl (fun H locs hw => ?_)
            refine lv_if_eq (tgt := 97) hx hb dX4_copy_82 (by decide) (fun c203 => ?_) (fun c203 => ?_)
            · replace h := ite_t c203 h
              refine lv_aload_n hx hb dX4_copy_97 rfl (lv_at hl 2 rfl) ?_
              refine lv_ldc hx hb cx.1.2.2.2.1 (cx.1.2.2.2.2 _ tw_1_202) dX4_copy_98 ?_
              obtain ⟨x204, d205, g206, h⟩ := bd2_ex h
              refine c_V (As := [.int (-1000000001 : Int32)]) (rest := []) (w' := (XC g q d205)) cx hw (c_X4_tell l g q N (-1000000001 : Int32) d x204 d205 g206) (cl_X4_45 cx.1.2.2.2.2 ⟨Nat.le_of_ble_eq_true rfl, Nat.le_of_ble_eq_true rfl⟩) (x_recv cx hw (ci := 4) rfl 0 rfl) (Ct.all (XC_ll ..)) hl.1 rfl rfl (Nat.le_of_ble_eq_true rfl) dX4_copy_100 ⟨Nat.le_of_ble_eq_true rfl, Nat.le_of_ble_eq_true rfl⟩ (st1 := [.int x204]) rfl (fun H locs hw => ?_)
              exact r_i cx hr hlocks hw (pr1 h) (congrArg (fun z0 => (XC g q z0)) (pr2 h)) dX4_copy_103
            · replace h := ite_f c203 h
              refine lv_aload hx hb dX4_copy_85 (lv_at hl 0 rfl) ?_
              refine lv_iload hx hb dX4_copy_87 (lv_at hl 6 rfl) ?_
              refine lv_iload hx hb dX4_copy_89 (lv_at hl 7 rfl) ?_
              obtain ⟨x207, g208, h⟩ := bd_ex h
              refine c_V (As := [.int p4, .int p5]) (rest := []) (w' := (XC g q d)) cx hw (c_X0_hasRange l g (qs 45 q) N p4 p5 (sAt (x_sheets d) 0) x207 g208) (cl_X4_242 cx.1.2.2.2.2 ⟨Nat.le_of_ble_eq_true rfl, Nat.le_of_ble_eq_true rfl⟩) (x_recv cx hw (ci := 0) rfl 45 rfl) (ct_X__45_46__S g q d ) hl.1 rfl rfl (Nat.le_of_ble_eq_true rfl) dX4_copy_91 ⟨Nat.le_of_ble_eq_true rfl, Nat.le_of_ble_eq_true rfl⟩ (st1 := [.int x207]) rfl (fun H locs hw => ?_)
              refine lv_if_ne (tgt := 104) hx hb dX4_copy_94 (by decide) (fun c209 => ?_) (fun c209 => ?_)
              · replace h := ite_f c209 h
                refine lv_aload hx hb dX4_copy_104 (lv_at hl 1 rfl) ?_
                refine gf_X4_245 cx hw 47 rfl rfl dX4_copy_106 ?_
                refine lv_iload_n hx hb dX4_copy_109 rfl (lv_at hl 4 rfl) ?_
                refine lv_aload hx hb dX4_copy_110 (lv_at hl 0 rfl) ?_
                refine gf_X4_245 cx hw 45 rfl rfl dX4_copy_112 ?_
                refine lv_iload hx hb dX4_copy_115 (lv_at hl 6 rfl) ?_
                refine lv_iload hx hb dX4_copy_117 (lv_at hl 7 rfl) ?_
                have i210 := ckr_in h
                replace h := ckr_nx h
                refine va_copyl hx hb (cx.1.2.2.1.trans hl.1.symm) cx.1.2.2.2.1 (cx.1.2.2.2.2 _ tw_3_191) (cx.1.2.2.2.2 _ tw_2_180) (cx.1.2.2.2.2 _ tw_2_179) (cx.1.2.2.2.2 _ tw_1_10) cx.2.1 hw.1 hw.2.1 hw.2.2 48 46 1 1 rfl rfl rfl rfl rfl i210.1 i210.2.1 i210.2.2.1 i210.2.2.2.1 i210.2.2.2.2 (fun _ _ => rfl) (Nat.le_of_ble_eq_true rfl) (Nat.le_of_ble_eq_true rfl) dX4_copy_119 (fun H locs hP hD hS => ?_)
                have hw : Wd g _ _ s H locs := ⟨hP, hD, hS⟩
                obtain ⟨d211, ed211, h⟩ := lt_ex h
                have hw : Wd g (va_A ((XC g q d)) s.heap.size) ((XC g q d211)) s H locs := by rw [ed211]; exact hw
                refine lv_iload hx hb dX4_copy_122 (lv_at hl 7 rfl) ?_
                exact r_i cx hr hlocks hw (pr1 h) (congrArg (fun z0 => (XC g q z0)) (pr2 h)) dX4_copy_124
              · replace h := ite_t c209 h
                refine lv_aload_n hx hb dX4_copy_97 rfl (lv_at hl 2 rfl) ?_
                refine lv_ldc hx hb cx.1.2.2.2.1 (cx.1.2.2.2.2 _ tw_1_202) dX4_copy_98 ?_
                obtain ⟨x212, d213, g214, h⟩ := bd2_ex h
                refine c_V (As := [.int (-1000000001 : Int32)]) (rest := []) (w' := (XC g q d213)) cx hw (c_X4_tell l g q N (-1000000001 : Int32) d x212 d213 g214) (cl_X4_45 cx.1.2.2.2.2 ⟨Nat.le_of_ble_eq_true rfl, Nat.le_of_ble_eq_true rfl⟩) (x_recv cx hw (ci := 4) rfl 0 rfl) (Ct.all (XC_ll ..)) hl.1 rfl rfl (Nat.le_of_ble_eq_true rfl) dX4_copy_100 ⟨Nat.le_of_ble_eq_true rfl, Nat.le_of_ble_eq_true rfl⟩ (st1 := [.int x212]) rfl (fun H locs hw => ?_)
                exact r_i cx hr hlocks hw (pr1 h) (congrArg (fun z0 => (XC g q z0)) (pr2 h)) dX4_copy_103
          · replace h := ite_f c200 h
            refine lv_aload_n hx hb dX4_copy_67 rfl (lv_at hl 2 rfl) ?_
            refine lv_ldc hx hb cx.1.2.2.2.1 (cx.1.2.2.2.2 _ tw_2_70) dX4_copy_68 ?_
            obtain ⟨x215, d216, g217, h⟩ := bd2_ex h
            refine c_V (As := [.int (-1000000003 : Int32)]) (rest := []) (w' := (XC g q d216)) cx hw (c_X4_tell l g q N (-1000000003 : Int32) d x215 d216 g217) (cl_X4_45 cx.1.2.2.2.2 ⟨Nat.le_of_ble_eq_true rfl, Nat.le_of_ble_eq_true rfl⟩) (x_recv cx hw (ci := 4) rfl 0 rfl) (Ct.all (XC_ll ..)) hl.1 rfl rfl (Nat.le_of_ble_eq_true rfl) dX4_copy_70 ⟨Nat.le_of_ble_eq_true rfl, Nat.le_of_ble_eq_true rfl⟩ (st1 := [.int x215]) rfl (fun H locs hw => ?_)
            exact r_i cx hr hlocks hw (pr1 h) (congrArg (fun z0 => (XC g q z0)) (pr2 h)) dX4_copy_73
        · replace h := ite_f c199 h
          refine lv_aload_n hx hb dX4_copy_47 rfl (lv_at hl 2 rfl) ?_
          refine lv_ldc hx hb cx.1.2.2.2.1 (cx.1.2.2.2.2 _ tw_3_177) dX4_copy_48 ?_
          obtain ⟨x218, d219, g220, h⟩ := bd2_ex h
          refine c_V (As := [.int (-1000000006 : Int32)]) (rest := []) (w' := (XC g q d219)) cx hw (c_X4_tell l g q N (-1000000006 : Int32) d x218 d219 g220) (cl_X4_45 cx.1.2.2.2.2 ⟨Nat.le_of_ble_eq_true rfl, Nat.le_of_ble_eq_true rfl⟩) (x_recv cx hw (ci := 4) rfl 0 rfl) (Ct.all (XC_ll ..)) hl.1 rfl rfl (Nat.le_of_ble_eq_true rfl) dX4_copy_50 ⟨Nat.le_of_ble_eq_true rfl, Nat.le_of_ble_eq_true rfl⟩ (st1 := [.int x218]) rfl (fun H locs hw => ?_)
          exact r_i cx hr hlocks hw (pr1 h) (congrArg (fun z0 => (XC g q z0)) (pr2 h)) dX4_copy_53
    · replace h := sel_s h
      refine c_V (As := [.int p3]) (rest := []) (w' := (XC g q d)) cx hw (c_X4_sheetAt l g q N p3 d (some 1) g185) (cl_X4_219 cx.1.2.2.2.2 ⟨Nat.le_of_ble_eq_true rfl, Nat.le_of_ble_eq_true rfl⟩) (x_recv cx hw (ci := 4) rfl 0 rfl) (Ct.all (XC_ll ..)) hl.1 rfl rfl (Nat.le_of_ble_eq_true rfl) dX4_copy_9 ⟨Nat.le_of_ble_eq_true rfl, Nat.le_of_ble_eq_true rfl⟩ (st1 := [.ref (qs 47 q 0)]) rfl (fun H locs hw => ?_)
      refine lv_astore (lv' := [(7, .ref (qs 47 q 0)), (6, .ref (qs 47 q 0)), (0, .ref (q 0)), (1, .int p1), (2, .int p2), (3, .int p3), (4, .int p4), (5, .int p5)]) hx hb dX4_copy_12 hl (by decide) rfl (fun ls hl => ?_)
      refine lv_aload hx hb dX4_copy_14 (lv_at hl 1 rfl) ?_
      refine lv_ifnull hx hb dX4_copy_16 ?_
      refine lv_aload hx hb dX4_copy_19 (lv_at hl 0 rfl) ?_
      refine lv_ifnonnull (tgt := 31) hx hb dX4_copy_21 (by decide) ?_
      refine lv_aload hx hb dX4_copy_31 (lv_at hl 1 rfl) ?_
      obtain ⟨x221, g222, h⟩ := bd_ex h
      refine c_V (As := []) (rest := []) (w' := (XC g q d)) cx hw (c_X0_isMissing l g (qs 47 q) N  (sAt (x_sheets d) 1) x221 g222) (cl_X4_227 cx.1.2.2.2.2 ⟨Nat.le_of_ble_eq_true rfl, Nat.le_of_ble_eq_true rfl⟩) (x_recv cx hw (ci := 0) rfl 47 rfl) (ct_X__47_48__S g q d ) hl.1 rfl rfl (Nat.le_of_ble_eq_true rfl) dX4_copy_33 ⟨Nat.le_of_ble_eq_true rfl, Nat.le_of_ble_eq_true rfl⟩ (st1 := [.int x221]) rfl (fun H locs hw => ?_)
      refine lv_if_ne (tgt := 47) hx hb dX4_copy_36 (by decide) (fun c223 => ?_) (fun c223 => ?_)
      · replace h := ite_f c223 h
        refine lv_aload_n hx hb dX4_copy_47 rfl (lv_at hl 2 rfl) ?_
        refine lv_ldc hx hb cx.1.2.2.2.1 (cx.1.2.2.2.2 _ tw_3_177) dX4_copy_48 ?_
        obtain ⟨x224, d225, g226, h⟩ := bd2_ex h
        refine c_V (As := [.int (-1000000006 : Int32)]) (rest := []) (w' := (XC g q d225)) cx hw (c_X4_tell l g q N (-1000000006 : Int32) d x224 d225 g226) (cl_X4_45 cx.1.2.2.2.2 ⟨Nat.le_of_ble_eq_true rfl, Nat.le_of_ble_eq_true rfl⟩) (x_recv cx hw (ci := 4) rfl 0 rfl) (Ct.all (XC_ll ..)) hl.1 rfl rfl (Nat.le_of_ble_eq_true rfl) dX4_copy_50 ⟨Nat.le_of_ble_eq_true rfl, Nat.le_of_ble_eq_true rfl⟩ (st1 := [.int x224]) rfl (fun H locs hw => ?_)
        exact r_i cx hr hlocks hw (pr1 h) (congrArg (fun z0 => (XC g q z0)) (pr2 h)) dX4_copy_53
      · replace h := ite_t c223 h
        refine lv_aload hx hb dX4_copy_39 (lv_at hl 0 rfl) ?_
        obtain ⟨x227, g228, h⟩ := bd_ex h
        refine c_V (As := []) (rest := []) (w' := (XC g q d)) cx hw (c_X0_isMissing l g (qs 47 q) N  (sAt (x_sheets d) 1) x227 g228) (cl_X4_227 cx.1.2.2.2.2 ⟨Nat.le_of_ble_eq_true rfl, Nat.le_of_ble_eq_true rfl⟩) (x_recv cx hw (ci := 0) rfl 47 rfl) (ct_X__47_48__S g q d ) hl.1 rfl rfl (Nat.le_of_ble_eq_true rfl) dX4_copy_41 ⟨Nat.le_of_ble_eq_true rfl, Nat.le_of_ble_eq_true rfl⟩ (st1 := [.int x227]) rfl (fun H locs hw => ?_)
        refine lv_if_eq (tgt := 54) hx hb dX4_copy_44 (by decide) (fun c229 => ?_) (fun c229 => ?_)
        · replace h := ite_t c229 h
          refine lv_aload hx hb dX4_copy_54 (lv_at hl 1 rfl) ?_
          refine gf_X4_239 cx hw 47 rfl rfl dX4_copy_56 ?_
          refine lv_aload hx hb dX4_copy_59 (lv_at hl 0 rfl) ?_
          refine gf_X4_239 cx hw 47 rfl rfl dX4_copy_61 ?_
          refine lv_icmp_eq (tgt := 74) hx hb dX4_copy_64 (by decide) (fun c230 => ?_) (fun c230 => ?_)
          · replace h := ite_t c230 h
            refine lv_aload hx hb dX4_copy_74 (lv_at hl 1 rfl) ?_
            refine lv_iload_n hx hb dX4_copy_76 rfl (lv_at hl 4 rfl) ?_
            refine lv_iload hx hb dX4_copy_77 (lv_at hl 7 rfl) ?_
            obtain ⟨x231, g232, h⟩ := bd_ex h
            refine c_V (As := [.int p2, .int p5]) (rest := []) (w' := (XC g q d)) cx hw (c_X0_hasRange l g (qs 47 q) N p2 p5 (sAt (x_sheets d) 1) x231 g232) (cl_X4_242 cx.1.2.2.2.2 ⟨Nat.le_of_ble_eq_true rfl, Nat.le_of_ble_eq_true rfl⟩) (x_recv cx hw (ci := 0) rfl 47 rfl) (ct_X__47_48__S g q d ) hl.1 rfl rfl (Nat.le_of_ble_eq_true rfl) dX4_copy_79 ⟨Nat.le_of_ble_eq_true rfl, Nat.le_of_ble_eq_true rfl⟩ (st1 := [.int x231]) rfl (fun H locs hw => ?_)
            refine lv_if_eq (tgt := 97) hx hb dX4_copy_82 (by decide) (fun c233 => ?_) (fun c233 => ?_)
            · replace h := ite_t c233 h
              refine lv_aload_n hx hb dX4_copy_97 rfl (lv_at hl 2 rfl) ?_
              refine lv_ldc hx hb cx.1.2.2.2.1 (cx.1.2.2.2.2 _ tw_1_202) dX4_copy_98 ?_
              obtain ⟨x234, d235, g236, h⟩ := bd2_ex h
              refine c_V (As := [.int (-1000000001 : Int32)]) (rest := []) (w' := (XC g q d235)) cx hw (c_X4_tell l g q N (-1000000001 : Int32) d x234 d235 g236) (cl_X4_45 cx.1.2.2.2.2 ⟨Nat.le_of_ble_eq_true rfl, Nat.le_of_ble_eq_true rfl⟩) (x_recv cx hw (ci := 4) rfl 0 rfl) (Ct.all (XC_ll ..)) hl.1 rfl rfl (Nat.le_of_ble_eq_true rfl) dX4_copy_100 ⟨Nat.le_of_ble_eq_true rfl, Nat.le_of_ble_eq_true rfl⟩ (st1 := [.int x234]) rfl (fun H locs hw => ?_)
              exact r_i cx hr hlocks hw (pr1 h) (congrArg (fun z0 => (XC g q z0)) (pr2 h)) dX4_copy_103
            · replace h := ite_f c233 h
              refine lv_aload hx hb dX4_copy_85 (lv_at hl 0 rfl) ?_
              refine lv_iload hx hb dX4_copy_87 (lv_at hl 6 rfl) ?_
              refine lv_iload hx hb dX4_copy_89 (lv_at hl 7 rfl) ?_
              obtain ⟨x237, g238, h⟩ := bd_ex h
              refine c_V (As := [.int p4, .int p5]) (rest := []) (w' := (XC g q d)) cx hw (c_X0_hasRange l g (qs 47 q) N p4 p5 (sAt (x_sheets d) 1) x237 g238) (cl_X4_242 cx.1.2.2.2.2 ⟨Nat.le_of_ble_eq_true rfl, Nat.le_of_ble_eq_true rfl⟩) (x_recv cx hw (ci := 0) rfl 47 rfl) (ct_X__47_48__S g q d ) hl.1 rfl rfl (Nat.le_of_ble_eq_true rfl) dX4_copy_91 ⟨Nat.le_of_ble_eq_true rfl, Nat.le_of_ble_eq_true rfl⟩ (st1 := [.int x237]) rfl (fun H locs hw => ?_)
              refine lv_if_ne (tgt := 104) hx hb dX4_copy_94 (by decide) (fun c239 => ?_) (fun c239 => ?_)
              · replace h := ite_f c239 h
                refine lv_aload hx hb dX4_copy_104 (lv_at hl 1 rfl) ?_
                refine gf_X4_245 cx hw 47 rfl rfl dX4_copy_106 ?_
                refine lv_iload_n hx hb dX4_copy_109 rfl (lv_at hl 4 rfl) ?_
                refine lv_aload hx hb dX4_copy_110 (lv_at hl 0 rfl) ?_
                refine gf_X4_245 cx hw 47 rfl rfl dX4_copy_112 ?_
                refine lv_iload hx hb dX4_copy_115 (lv_at hl 6 rfl) ?_
                refine lv_iload hx hb dX4_copy_117 (lv_at hl 7 rfl) ?_
                have i240 := ckr_in h
                replace h := ckr_nx h
                refine va_copyl hx hb (cx.1.2.2.1.trans hl.1.symm) cx.1.2.2.2.1 (cx.1.2.2.2.2 _ tw_3_191) (cx.1.2.2.2.2 _ tw_2_180) (cx.1.2.2.2.2 _ tw_2_179) (cx.1.2.2.2.2 _ tw_1_10) cx.2.1 hw.1 hw.2.1 hw.2.2 48 48 1 1 rfl rfl rfl rfl rfl i240.1 i240.2.1 i240.2.2.1 i240.2.2.2.1 i240.2.2.2.2 (fun _ _ => rfl) (Nat.le_of_ble_eq_true rfl) (Nat.le_of_ble_eq_true rfl) dX4_copy_119 (fun H locs hP hD hS => ?_)
                have hw : Wd g _ _ s H locs := ⟨hP, hD, hS⟩
                obtain ⟨d241, ed241, h⟩ := lt_ex h
                have hw : Wd g (va_A ((XC g q d)) s.heap.size) ((XC g q d241)) s H locs := by rw [ed241]; exact hw
                refine lv_iload hx hb dX4_copy_122 (lv_at hl 7 rfl) ?_
                exact r_i cx hr hlocks hw (pr1 h) (congrArg (fun z0 => (XC g q z0)) (pr2 h)) dX4_copy_124
              · replace h := ite_t c239 h
                refine lv_aload_n hx hb dX4_copy_97 rfl (lv_at hl 2 rfl) ?_
                refine lv_ldc hx hb cx.1.2.2.2.1 (cx.1.2.2.2.2 _ tw_1_202) dX4_copy_98 ?_
                obtain ⟨x242, d243, g244, h⟩ := bd2_ex h
                refine c_V (As := [.int (-1000000001 : Int32)]) (rest := []) (w' := (XC g q d243)) cx hw (c_X4_tell l g q N (-1000000001 : Int32) d x242 d243 g244) (cl_X4_45 cx.1.2.2.2.2 ⟨Nat.le_of_ble_eq_true rfl, Nat.le_of_ble_eq_true rfl⟩) (x_recv cx hw (ci := 4) rfl 0 rfl) (Ct.all (XC_ll ..)) hl.1 rfl rfl (Nat.le_of_ble_eq_true rfl) dX4_copy_100 ⟨Nat.le_of_ble_eq_true rfl, Nat.le_of_ble_eq_true rfl⟩ (st1 := [.int x242]) rfl (fun H locs hw => ?_)
                exact r_i cx hr hlocks hw (pr1 h) (congrArg (fun z0 => (XC g q z0)) (pr2 h)) dX4_copy_103
          · replace h := ite_f c230 h
            refine lv_aload_n hx hb dX4_copy_67 rfl (lv_at hl 2 rfl) ?_
            refine lv_ldc hx hb cx.1.2.2.2.1 (cx.1.2.2.2.2 _ tw_2_70) dX4_copy_68 ?_
            obtain ⟨x245, d246, g247, h⟩ := bd2_ex h
            refine c_V (As := [.int (-1000000003 : Int32)]) (rest := []) (w' := (XC g q d246)) cx hw (c_X4_tell l g q N (-1000000003 : Int32) d x245 d246 g247) (cl_X4_45 cx.1.2.2.2.2 ⟨Nat.le_of_ble_eq_true rfl, Nat.le_of_ble_eq_true rfl⟩) (x_recv cx hw (ci := 4) rfl 0 rfl) (Ct.all (XC_ll ..)) hl.1 rfl rfl (Nat.le_of_ble_eq_true rfl) dX4_copy_70 ⟨Nat.le_of_ble_eq_true rfl, Nat.le_of_ble_eq_true rfl⟩ (st1 := [.int x245]) rfl (fun H locs hw => ?_)
            exact r_i cx hr hlocks hw (pr1 h) (congrArg (fun z0 => (XC g q z0)) (pr2 h)) dX4_copy_73
        · replace h := ite_f c229 h
          refine lv_aload_n hx hb dX4_copy_47 rfl (lv_at hl 2 rfl) ?_
          refine lv_ldc hx hb cx.1.2.2.2.1 (cx.1.2.2.2.2 _ tw_3_177) dX4_copy_48 ?_
          obtain ⟨x248, d249, g250, h⟩ := bd2_ex h
          refine c_V (As := [.int (-1000000006 : Int32)]) (rest := []) (w' := (XC g q d249)) cx hw (c_X4_tell l g q N (-1000000006 : Int32) d x248 d249 g250) (cl_X4_45 cx.1.2.2.2.2 ⟨Nat.le_of_ble_eq_true rfl, Nat.le_of_ble_eq_true rfl⟩) (x_recv cx hw (ci := 4) rfl 0 rfl) (Ct.all (XC_ll ..)) hl.1 rfl rfl (Nat.le_of_ble_eq_true rfl) dX4_copy_50 ⟨Nat.le_of_ble_eq_true rfl, Nat.le_of_ble_eq_true rfl⟩ (st1 := [.int x248]) rfl (fun H locs hw => ?_)
          exact r_i cx hr hlocks hw (pr1 h) (congrArg (fun z0 => (XC g q z0)) (pr2 h)) dX4_copy_53
    · replace h := sel_s h
      refine c_V (As := [.int p3]) (rest := []) (w' := (XC g q d)) cx hw (c_X4_sheetAt l g q N p3 d (some 2) g185) (cl_X4_219 cx.1.2.2.2.2 ⟨Nat.le_of_ble_eq_true rfl, Nat.le_of_ble_eq_true rfl⟩) (x_recv cx hw (ci := 4) rfl 0 rfl) (Ct.all (XC_ll ..)) hl.1 rfl rfl (Nat.le_of_ble_eq_true rfl) dX4_copy_9 ⟨Nat.le_of_ble_eq_true rfl, Nat.le_of_ble_eq_true rfl⟩ (st1 := [.ref (qs 49 q 0)]) rfl (fun H locs hw => ?_)
      refine lv_astore (lv' := [(7, .ref (qs 49 q 0)), (6, .ref (qs 47 q 0)), (0, .ref (q 0)), (1, .int p1), (2, .int p2), (3, .int p3), (4, .int p4), (5, .int p5)]) hx hb dX4_copy_12 hl (by decide) rfl (fun ls hl => ?_)
      refine lv_aload hx hb dX4_copy_14 (lv_at hl 1 rfl) ?_
      refine lv_ifnull hx hb dX4_copy_16 ?_
      refine lv_aload hx hb dX4_copy_19 (lv_at hl 0 rfl) ?_
      refine lv_ifnonnull (tgt := 31) hx hb dX4_copy_21 (by decide) ?_
      refine lv_aload hx hb dX4_copy_31 (lv_at hl 1 rfl) ?_
      obtain ⟨x251, g252, h⟩ := bd_ex h
      refine c_V (As := []) (rest := []) (w' := (XC g q d)) cx hw (c_X0_isMissing l g (qs 47 q) N  (sAt (x_sheets d) 1) x251 g252) (cl_X4_227 cx.1.2.2.2.2 ⟨Nat.le_of_ble_eq_true rfl, Nat.le_of_ble_eq_true rfl⟩) (x_recv cx hw (ci := 0) rfl 47 rfl) (ct_X__47_48__S g q d ) hl.1 rfl rfl (Nat.le_of_ble_eq_true rfl) dX4_copy_33 ⟨Nat.le_of_ble_eq_true rfl, Nat.le_of_ble_eq_true rfl⟩ (st1 := [.int x251]) rfl (fun H locs hw => ?_)
      refine lv_if_ne (tgt := 47) hx hb dX4_copy_36 (by decide) (fun c253 => ?_) (fun c253 => ?_)
      · replace h := ite_f c253 h
        refine lv_aload_n hx hb dX4_copy_47 rfl (lv_at hl 2 rfl) ?_
        refine lv_ldc hx hb cx.1.2.2.2.1 (cx.1.2.2.2.2 _ tw_3_177) dX4_copy_48 ?_
        obtain ⟨x254, d255, g256, h⟩ := bd2_ex h
        refine c_V (As := [.int (-1000000006 : Int32)]) (rest := []) (w' := (XC g q d255)) cx hw (c_X4_tell l g q N (-1000000006 : Int32) d x254 d255 g256) (cl_X4_45 cx.1.2.2.2.2 ⟨Nat.le_of_ble_eq_true rfl, Nat.le_of_ble_eq_true rfl⟩) (x_recv cx hw (ci := 4) rfl 0 rfl) (Ct.all (XC_ll ..)) hl.1 rfl rfl (Nat.le_of_ble_eq_true rfl) dX4_copy_50 ⟨Nat.le_of_ble_eq_true rfl, Nat.le_of_ble_eq_true rfl⟩ (st1 := [.int x254]) rfl (fun H locs hw => ?_)
        exact r_i cx hr hlocks hw (pr1 h) (congrArg (fun z0 => (XC g q z0)) (pr2 h)) dX4_copy_53
      · replace h := ite_t c253 h
        refine lv_aload hx hb dX4_copy_39 (lv_at hl 0 rfl) ?_
        obtain ⟨x257, g258, h⟩ := bd_ex h
        refine c_V (As := []) (rest := []) (w' := (XC g q d)) cx hw (c_X0_isMissing l g (qs 49 q) N  (sAt (x_sheets d) 2) x257 g258) (cl_X4_227 cx.1.2.2.2.2 ⟨Nat.le_of_ble_eq_true rfl, Nat.le_of_ble_eq_true rfl⟩) (x_recv cx hw (ci := 0) rfl 49 rfl) (ct_X__49_50__S g q d ) hl.1 rfl rfl (Nat.le_of_ble_eq_true rfl) dX4_copy_41 ⟨Nat.le_of_ble_eq_true rfl, Nat.le_of_ble_eq_true rfl⟩ (st1 := [.int x257]) rfl (fun H locs hw => ?_)
        refine lv_if_eq (tgt := 54) hx hb dX4_copy_44 (by decide) (fun c259 => ?_) (fun c259 => ?_)
        · replace h := ite_t c259 h
          refine lv_aload hx hb dX4_copy_54 (lv_at hl 1 rfl) ?_
          refine gf_X4_239 cx hw 47 rfl rfl dX4_copy_56 ?_
          refine lv_aload hx hb dX4_copy_59 (lv_at hl 0 rfl) ?_
          refine gf_X4_239 cx hw 49 rfl rfl dX4_copy_61 ?_
          refine lv_icmp_eq (tgt := 74) hx hb dX4_copy_64 (by decide) (fun c260 => ?_) (fun c260 => ?_)
          · replace h := ite_t c260 h
            refine lv_aload hx hb dX4_copy_74 (lv_at hl 1 rfl) ?_
            refine lv_iload_n hx hb dX4_copy_76 rfl (lv_at hl 4 rfl) ?_
            refine lv_iload hx hb dX4_copy_77 (lv_at hl 7 rfl) ?_
            obtain ⟨x261, g262, h⟩ := bd_ex h
            refine c_V (As := [.int p2, .int p5]) (rest := []) (w' := (XC g q d)) cx hw (c_X0_hasRange l g (qs 47 q) N p2 p5 (sAt (x_sheets d) 1) x261 g262) (cl_X4_242 cx.1.2.2.2.2 ⟨Nat.le_of_ble_eq_true rfl, Nat.le_of_ble_eq_true rfl⟩) (x_recv cx hw (ci := 0) rfl 47 rfl) (ct_X__47_48__S g q d ) hl.1 rfl rfl (Nat.le_of_ble_eq_true rfl) dX4_copy_79 ⟨Nat.le_of_ble_eq_true rfl, Nat.le_of_ble_eq_true rfl⟩ (st1 := [.int x261]) rfl (fun H locs hw => ?_)
            refine lv_if_eq (tgt := 97) hx hb dX4_copy_82 (by decide) (fun c263 => ?_) (fun c263 => ?_)
            · replace h := ite_t c263 h
              refine lv_aload_n hx hb dX4_copy_97 rfl (lv_at hl 2 rfl) ?_
              refine lv_ldc hx hb cx.1.2.2.2.1 (cx.1.2.2.2.2 _ tw_1_202) dX4_copy_98 ?_
              obtain ⟨x264, d265, g266, h⟩ := bd2_ex h
              refine c_V (As := [.int (-1000000001 : Int32)]) (rest := []) (w' := (XC g q d265)) cx hw (c_X4_tell l g q N (-1000000001 : Int32) d x264 d265 g266) (cl_X4_45 cx.1.2.2.2.2 ⟨Nat.le_of_ble_eq_true rfl, Nat.le_of_ble_eq_true rfl⟩) (x_recv cx hw (ci := 4) rfl 0 rfl) (Ct.all (XC_ll ..)) hl.1 rfl rfl (Nat.le_of_ble_eq_true rfl) dX4_copy_100 ⟨Nat.le_of_ble_eq_true rfl, Nat.le_of_ble_eq_true rfl⟩ (st1 := [.int x264]) rfl (fun H locs hw => ?_)
              exact r_i cx hr hlocks hw (pr1 h) (congrArg (fun z0 => (XC g q z0)) (pr2 h)) dX4_copy_103
            · replace h := ite_f c263 h
              refine lv_aload hx hb dX4_copy_85 (lv_at hl 0 rfl) ?_
              refine lv_iload hx hb dX4_copy_87 (lv_at hl 6 rfl) ?_
              refine lv_iload hx hb dX4_copy_89 (lv_at hl 7 rfl) ?_
              obtain ⟨x267, g268, h⟩ := bd_ex h
              refine c_V (As := [.int p4, .int p5]) (rest := []) (w' := (XC g q d)) cx hw (c_X0_hasRange l g (qs 49 q) N p4 p5 (sAt (x_sheets d) 2) x267 g268) (cl_X4_242 cx.1.2.2.2.2 ⟨Nat.le_of_ble_eq_true rfl, Nat.le_of_ble_eq_true rfl⟩) (x_recv cx hw (ci := 0) rfl 49 rfl) (ct_X__49_50__S g q d ) hl.1 rfl rfl (Nat.le_of_ble_eq_true rfl) dX4_copy_91 ⟨Nat.le_of_ble_eq_true rfl, Nat.le_of_ble_eq_true rfl⟩ (st1 := [.int x267]) rfl (fun H locs hw => ?_)
              refine lv_if_ne (tgt := 104) hx hb dX4_copy_94 (by decide) (fun c269 => ?_) (fun c269 => ?_)
              · replace h := ite_f c269 h
                refine lv_aload hx hb dX4_copy_104 (lv_at hl 1 rfl) ?_
                refine gf_X4_245 cx hw 47 rfl rfl dX4_copy_106 ?_
                refine lv_iload_n hx hb dX4_copy_109 rfl (lv_at hl 4 rfl) ?_
                refine lv_aload hx hb dX4_copy_110 (lv_at hl 0 rfl) ?_
                refine gf_X4_245 cx hw 49 rfl rfl dX4_copy_112 ?_
                refine lv_iload hx hb dX4_copy_115 (lv_at hl 6 rfl) ?_
                refine lv_iload hx hb dX4_copy_117 (lv_at hl 7 rfl) ?_
                have i270 := ckr_in h
                replace h := ckr_nx h
                refine va_copyl hx hb (cx.1.2.2.1.trans hl.1.symm) cx.1.2.2.2.1 (cx.1.2.2.2.2 _ tw_3_191) (cx.1.2.2.2.2 _ tw_2_180) (cx.1.2.2.2.2 _ tw_2_179) (cx.1.2.2.2.2 _ tw_1_10) cx.2.1 hw.1 hw.2.1 hw.2.2 48 50 1 1 rfl rfl rfl rfl rfl i270.1 i270.2.1 i270.2.2.1 i270.2.2.2.1 i270.2.2.2.2 (fun _ _ => rfl) (Nat.le_of_ble_eq_true rfl) (Nat.le_of_ble_eq_true rfl) dX4_copy_119 (fun H locs hP hD hS => ?_)
                have hw : Wd g _ _ s H locs := ⟨hP, hD, hS⟩
                obtain ⟨d271, ed271, h⟩ := lt_ex h
                have hw : Wd g (va_A ((XC g q d)) s.heap.size) ((XC g q d271)) s H locs := by rw [ed271]; exact hw
                refine lv_iload hx hb dX4_copy_122 (lv_at hl 7 rfl) ?_
                exact r_i cx hr hlocks hw (pr1 h) (congrArg (fun z0 => (XC g q z0)) (pr2 h)) dX4_copy_124
              · replace h := ite_t c269 h
                refine lv_aload_n hx hb dX4_copy_97 rfl (lv_at hl 2 rfl) ?_
                refine lv_ldc hx hb cx.1.2.2.2.1 (cx.1.2.2.2.2 _ tw_1_202) dX4_copy_98 ?_
                obtain ⟨x272, d273, g274, h⟩ := bd2_ex h
                refine c_V (As := [.int (-1000000001 : Int32)]) (rest := []) (w' := (XC g q d273)) cx hw (c_X4_tell l g q N (-1000000001 : Int32) d x272 d273 g274) (cl_X4_45 cx.1.2.2.2.2 ⟨Nat.le_of_ble_eq_true rfl, Nat.le_of_ble_eq_true rfl⟩) (x_recv cx hw (ci := 4) rfl 0 rfl) (Ct.all (XC_ll ..)) hl.1 rfl rfl (Nat.le_of_ble_eq_true rfl) dX4_copy_100 ⟨Nat.le_of_ble_eq_true rfl, Nat.le_of_ble_eq_true rfl⟩ (st1 := [.int x272]) rfl (fun H locs hw => ?_)
                exact r_i cx hr hlocks hw (pr1 h) (congrArg (fun z0 => (XC g q z0)) (pr2 h)) dX4_copy_103
          · replace h := ite_f c260 h
            refine lv_aload_n hx hb dX4_copy_67 rfl (lv_at hl 2 rfl) ?_
            refine lv_ldc hx hb cx.1.2.2.2.1 (cx.1.2.2.2.2 _ tw_2_70) dX4_copy_68 ?_
            obtain ⟨x275, d276, g277, h⟩ := bd2_ex h
            refine c_V (As := [.int (-1000000003 : Int32)]) (rest := []) (w' := (XC g q d276)) cx hw (c_X4_tell l g q N (-1000000003 : Int32) d x275 d276 g277) (cl_X4_45 cx.1.2.2.2.2 ⟨Nat.le_of_ble_eq_true rfl, Nat.le_of_ble_eq_true rfl⟩) (x_recv cx hw (ci := 4) rfl 0 rfl) (Ct.all (XC_ll ..)) hl.1 rfl rfl (Nat.le_of_ble_eq_true rfl) dX4_copy_70 ⟨Nat.le_of_ble_eq_true rfl, Nat.le_of_ble_eq_true rfl⟩ (st1 := [.int x275]) rfl (fun H locs hw => ?_)
            exact r_i cx hr hlocks hw (pr1 h) (congrArg (fun z0 => (XC g q z0)) (pr2 h)) dX4_copy_73
        · replace h := ite_f c259 h
          refine lv_aload_n hx hb dX4_copy_47 rfl (lv_at hl 2 rfl) ?_
          refine lv_ldc hx hb cx.1.2.2.2.1 (cx.1.2.2.2.2 _ tw_3_177) dX4_copy_48 ?_
          obtain ⟨x278, d279, g280, h⟩ := bd2_ex h
          refine c_V (As := [.int (-1000000006 : Int32)]) (rest := []) (w' := (XC g q d279)) cx hw (c_X4_tell l g q N (-1000000006 : Int32) d x278 d279 g280) (cl_X4_45 cx.1.2.2.2.2 ⟨Nat.le_of_ble_eq_true rfl, Nat.le_of_ble_eq_true rfl⟩) (x_recv cx hw (ci := 4) rfl 0 rfl) (Ct.all (XC_ll ..)) hl.1 rfl rfl (Nat.le_of_ble_eq_true rfl) dX4_copy_50 ⟨Nat.le_of_ble_eq_true rfl, Nat.le_of_ble_eq_true rfl⟩ (st1 := [.int x278]) rfl (fun H locs hw => ?_)
          exact r_i cx hr hlocks hw (pr1 h) (congrArg (fun z0 => (XC g q z0)) (pr2 h)) dX4_copy_53
    · replace h := sel_s h
      refine c_V (As := [.int p3]) (rest := []) (w' := (XC g q d)) cx hw (c_X4_sheetAt l g q N p3 d (some 3) g185) (cl_X4_219 cx.1.2.2.2.2 ⟨Nat.le_of_ble_eq_true rfl, Nat.le_of_ble_eq_true rfl⟩) (x_recv cx hw (ci := 4) rfl 0 rfl) (Ct.all (XC_ll ..)) hl.1 rfl rfl (Nat.le_of_ble_eq_true rfl) dX4_copy_9 ⟨Nat.le_of_ble_eq_true rfl, Nat.le_of_ble_eq_true rfl⟩ (st1 := [.ref (qs 51 q 0)]) rfl (fun H locs hw => ?_)
      refine lv_astore (lv' := [(7, .ref (qs 51 q 0)), (6, .ref (qs 47 q 0)), (0, .ref (q 0)), (1, .int p1), (2, .int p2), (3, .int p3), (4, .int p4), (5, .int p5)]) hx hb dX4_copy_12 hl (by decide) rfl (fun ls hl => ?_)
      refine lv_aload hx hb dX4_copy_14 (lv_at hl 1 rfl) ?_
      refine lv_ifnull hx hb dX4_copy_16 ?_
      refine lv_aload hx hb dX4_copy_19 (lv_at hl 0 rfl) ?_
      refine lv_ifnonnull (tgt := 31) hx hb dX4_copy_21 (by decide) ?_
      refine lv_aload hx hb dX4_copy_31 (lv_at hl 1 rfl) ?_
      obtain ⟨x281, g282, h⟩ := bd_ex h
      refine c_V (As := []) (rest := []) (w' := (XC g q d)) cx hw (c_X0_isMissing l g (qs 47 q) N  (sAt (x_sheets d) 1) x281 g282) (cl_X4_227 cx.1.2.2.2.2 ⟨Nat.le_of_ble_eq_true rfl, Nat.le_of_ble_eq_true rfl⟩) (x_recv cx hw (ci := 0) rfl 47 rfl) (ct_X__47_48__S g q d ) hl.1 rfl rfl (Nat.le_of_ble_eq_true rfl) dX4_copy_33 ⟨Nat.le_of_ble_eq_true rfl, Nat.le_of_ble_eq_true rfl⟩ (st1 := [.int x281]) rfl (fun H locs hw => ?_)
      refine lv_if_ne (tgt := 47) hx hb dX4_copy_36 (by decide) (fun c283 => ?_) (fun c283 => ?_)
      · replace h := ite_f c283 h
        refine lv_aload_n hx hb dX4_copy_47 rfl (lv_at hl 2 rfl) ?_
        refine lv_ldc hx hb cx.1.2.2.2.1 (cx.1.2.2.2.2 _ tw_3_177) dX4_copy_48 ?_
        obtain ⟨x284, d285, g286, h⟩ := bd2_ex h
        refine c_V (As := [.int (-1000000006 : Int32)]) (rest := []) (w' := (XC g q d285)) cx hw (c_X4_tell l g q N (-1000000006 : Int32) d x284 d285 g286) (cl_X4_45 cx.1.2.2.2.2 ⟨Nat.le_of_ble_eq_true rfl, Nat.le_of_ble_eq_true rfl⟩) (x_recv cx hw (ci := 4) rfl 0 rfl) (Ct.all (XC_ll ..)) hl.1 rfl rfl (Nat.le_of_ble_eq_true rfl) dX4_copy_50 ⟨Nat.le_of_ble_eq_true rfl, Nat.le_of_ble_eq_true rfl⟩ (st1 := [.int x284]) rfl (fun H locs hw => ?_)
        exact r_i cx hr hlocks hw (pr1 h) (congrArg (fun z0 => (XC g q z0)) (pr2 h)) dX4_copy_53
      · replace h := ite_t c283 h
        refine lv_aload hx hb dX4_copy_39 (lv_at hl 0 rfl) ?_
        obtain ⟨x287, g288, h⟩ := bd_ex h
        refine c_V (As := []) (rest := []) (w' := (XC g q d)) cx hw (c_X0_isMissing l g (qs 51 q) N  (sAt (x_sheets d) 3) x287 g288) (cl_X4_227 cx.1.2.2.2.2 ⟨Nat.le_of_ble_eq_true rfl, Nat.le_of_ble_eq_true rfl⟩) (x_recv cx hw (ci := 0) rfl 51 rfl) (ct_X__51_52__S g q d ) hl.1 rfl rfl (Nat.le_of_ble_eq_true rfl) dX4_copy_41 ⟨Nat.le_of_ble_eq_true rfl, Nat.le_of_ble_eq_true rfl⟩ (st1 := [.int x287]) rfl (fun H locs hw => ?_)
        refine lv_if_eq (tgt := 54) hx hb dX4_copy_44 (by decide) (fun c289 => ?_) (fun c289 => ?_)
        · replace h := ite_t c289 h
          refine lv_aload hx hb dX4_copy_54 (lv_at hl 1 rfl) ?_
          refine gf_X4_239 cx hw 47 rfl rfl dX4_copy_56 ?_
          refine lv_aload hx hb dX4_copy_59 (lv_at hl 0 rfl) ?_
          refine gf_X4_239 cx hw 51 rfl rfl dX4_copy_61 ?_
          refine lv_icmp_eq (tgt := 74) hx hb dX4_copy_64 (by decide) (fun c290 => ?_) (fun c290 => ?_)
          · replace h := ite_t c290 h
            refine lv_aload hx hb dX4_copy_74 (lv_at hl 1 rfl) ?_
            refine lv_iload_n hx hb dX4_copy_76 rfl (lv_at hl 4 rfl) ?_
            refine lv_iload hx hb dX4_copy_77 (lv_at hl 7 rfl) ?_
            obtain ⟨x291, g292, h⟩ := bd_ex h
            refine c_V (As := [.int p2, .int p5]) (rest := []) (w' := (XC g q d)) cx hw (c_X0_hasRange l g (qs 47 q) N p2 p5 (sAt (x_sheets d) 1) x291 g292) (cl_X4_242 cx.1.2.2.2.2 ⟨Nat.le_of_ble_eq_true rfl, Nat.le_of_ble_eq_true rfl⟩) (x_recv cx hw (ci := 0) rfl 47 rfl) (ct_X__47_48__S g q d ) hl.1 rfl rfl (Nat.le_of_ble_eq_true rfl) dX4_copy_79 ⟨Nat.le_of_ble_eq_true rfl, Nat.le_of_ble_eq_true rfl⟩ (st1 := [.int x291]) rfl (fun H locs hw => ?_)
            refine lv_if_eq (tgt := 97) hx hb dX4_copy_82 (by decide) (fun c293 => ?_) (fun c293 => ?_)
            · replace h := ite_t c293 h
              refine lv_aload_n hx hb dX4_copy_97 rfl (lv_at hl 2 rfl) ?_
              refine lv_ldc hx hb cx.1.2.2.2.1 (cx.1.2.2.2.2 _ tw_1_202) dX4_copy_98 ?_
              obtain ⟨x294, d295, g296, h⟩ := bd2_ex h
              refine c_V (As := [.int (-1000000001 : Int32)]) (rest := []) (w' := (XC g q d295)) cx hw (c_X4_tell l g q N (-1000000001 : Int32) d x294 d295 g296) (cl_X4_45 cx.1.2.2.2.2 ⟨Nat.le_of_ble_eq_true rfl, Nat.le_of_ble_eq_true rfl⟩) (x_recv cx hw (ci := 4) rfl 0 rfl) (Ct.all (XC_ll ..)) hl.1 rfl rfl (Nat.le_of_ble_eq_true rfl) dX4_copy_100 ⟨Nat.le_of_ble_eq_true rfl, Nat.le_of_ble_eq_true rfl⟩ (st1 := [.int x294]) rfl (fun H locs hw => ?_)
              exact r_i cx hr hlocks hw (pr1 h) (congrArg (fun z0 => (XC g q z0)) (pr2 h)) dX4_copy_103
            · replace h := ite_f c293 h
              refine lv_aload hx hb dX4_copy_85 (lv_at hl 0 rfl) ?_
              refine lv_iload hx hb dX4_copy_87 (lv_at hl 6 rfl) ?_
              refine lv_iload hx hb dX4_copy_89 (lv_at hl 7 rfl) ?_
              obtain ⟨x297, g298, h⟩ := bd_ex h
              refine c_V (As := [.int p4, .int p5]) (rest := []) (w' := (XC g q d)) cx hw (c_X0_hasRange l g (qs 51 q) N p4 p5 (sAt (x_sheets d) 3) x297 g298) (cl_X4_242 cx.1.2.2.2.2 ⟨Nat.le_of_ble_eq_true rfl, Nat.le_of_ble_eq_true rfl⟩) (x_recv cx hw (ci := 0) rfl 51 rfl) (ct_X__51_52__S g q d ) hl.1 rfl rfl (Nat.le_of_ble_eq_true rfl) dX4_copy_91 ⟨Nat.le_of_ble_eq_true rfl, Nat.le_of_ble_eq_true rfl⟩ (st1 := [.int x297]) rfl (fun H locs hw => ?_)
              refine lv_if_ne (tgt := 104) hx hb dX4_copy_94 (by decide) (fun c299 => ?_) (fun c299 => ?_)
              · replace h := ite_f c299 h
                refine lv_aload hx hb dX4_copy_104 (lv_at hl 1 rfl) ?_
                refine gf_X4_245 cx hw 47 rfl rfl dX4_copy_106 ?_
                refine lv_iload_n hx hb dX4_copy_109 rfl (lv_at hl 4 rfl) ?_
                refine lv_aload hx hb dX4_copy_110 (lv_at hl 0 rfl) ?_
                refine gf_X4_245 cx hw 51 rfl rfl dX4_copy_112 ?_
                refine lv_iload hx hb dX4_copy_115 (lv_at hl 6 rfl) ?_
                refine lv_iload hx hb dX4_copy_117 (lv_at hl 7 rfl) ?_
                have i300 := ckr_in h
                replace h := ckr_nx h
                refine va_copyl hx hb (cx.1.2.2.1.trans hl.1.symm) cx.1.2.2.2.1 (cx.1.2.2.2.2 _ tw_3_191) (cx.1.2.2.2.2 _ tw_2_180) (cx.1.2.2.2.2 _ tw_2_179) (cx.1.2.2.2.2 _ tw_1_10) cx.2.1 hw.1 hw.2.1 hw.2.2 48 52 1 1 rfl rfl rfl rfl rfl i300.1 i300.2.1 i300.2.2.1 i300.2.2.2.1 i300.2.2.2.2 (fun _ _ => rfl) (Nat.le_of_ble_eq_true rfl) (Nat.le_of_ble_eq_true rfl) dX4_copy_119 (fun H locs hP hD hS => ?_)
                have hw : Wd g _ _ s H locs := ⟨hP, hD, hS⟩
                obtain ⟨d301, ed301, h⟩ := lt_ex h
                have hw : Wd g (va_A ((XC g q d)) s.heap.size) ((XC g q d301)) s H locs := by rw [ed301]; exact hw
                refine lv_iload hx hb dX4_copy_122 (lv_at hl 7 rfl) ?_
                exact r_i cx hr hlocks hw (pr1 h) (congrArg (fun z0 => (XC g q z0)) (pr2 h)) dX4_copy_124
              · replace h := ite_t c299 h
                refine lv_aload_n hx hb dX4_copy_97 rfl (lv_at hl 2 rfl) ?_
                refine lv_ldc hx hb cx.1.2.2.2.1 (cx.1.2.2.2.2 _ tw_1_202) dX4_copy_98 ?_
                obtain ⟨x302, d303, g304, h⟩ := bd2_ex h
                refine c_V (As := [.int (-1000000001 : Int32)]) (rest := []) (w' := (XC g q d303)) cx hw (c_X4_tell l g q N (-1000000001 : Int32) d x302 d303 g304) (cl_X4_45 cx.1.2.2.2.2 ⟨Nat.le_of_ble_eq_true rfl, Nat.le_of_ble_eq_true rfl⟩) (x_recv cx hw (ci := 4) rfl 0 rfl) (Ct.all (XC_ll ..)) hl.1 rfl rfl (Nat.le_of_ble_eq_true rfl) dX4_copy_100 ⟨Nat.le_of_ble_eq_true rfl, Nat.le_of_ble_eq_true rfl⟩ (st1 := [.int x302]) rfl (fun H locs hw => ?_)
                exact r_i cx hr hlocks hw (pr1 h) (congrArg (fun z0 => (XC g q z0)) (pr2 h)) dX4_copy_103
          · replace h := ite_f c290 h
            refine lv_aload_n hx hb dX4_copy_67 rfl (lv_at hl 2 rfl) ?_
            refine lv_ldc hx hb cx.1.2.2.2.1 (cx.1.2.2.2.2 _ tw_2_70) dX4_copy_68 ?_
            obtain ⟨x305, d306, g307, h⟩ := bd2_ex h
            refine c_V (As := [.int (-1000000003 : Int32)]) (rest := []) (w' := (XC g q d306)) cx hw (c_X4_tell l g q N (-1000000003 : Int32) d x305 d306 g307) (cl_X4_45 cx.1.2.2.2.2 ⟨Nat.le_of_ble_eq_true rfl, Nat.le_of_ble_eq_true rfl⟩) (x_recv cx hw (ci := 4) rfl 0 rfl) (Ct.all (XC_ll ..)) hl.1 rfl rfl (Nat.le_of_ble_eq_true rfl) dX4_copy_70 ⟨Nat.le_of_ble_eq_true rfl, Nat.le_of_ble_eq_true rfl⟩ (st1 := [.int x305]) rfl (fun H locs hw => ?_)
            exact r_i cx hr hlocks hw (pr1 h) (congrArg (fun z0 => (XC g q z0)) (pr2 h)) dX4_copy_73
        · replace h := ite_f c289 h
          refine lv_aload_n hx hb dX4_copy_47 rfl (lv_at hl 2 rfl) ?_
          refine lv_ldc hx hb cx.1.2.2.2.1 (cx.1.2.2.2.2 _ tw_3_177) dX4_copy_48 ?_
          obtain ⟨x308, d309, g310, h⟩ := bd2_ex h
          refine c_V (As := [.int (-1000000006 : Int32)]) (rest := []) (w' := (XC g q d309)) cx hw (c_X4_tell l g q N (-1000000006 : Int32) d x308 d309 g310) (cl_X4_45 cx.1.2.2.2.2 ⟨Nat.le_of_ble_eq_true rfl, Nat.le_of_ble_eq_true rfl⟩) (x_recv cx hw (ci := 4) rfl 0 rfl) (Ct.all (XC_ll ..)) hl.1 rfl rfl (Nat.le_of_ble_eq_true rfl) dX4_copy_50 ⟨Nat.le_of_ble_eq_true rfl, Nat.le_of_ble_eq_true rfl⟩ (st1 := [.int x308]) rfl (fun H locs hw => ?_)
          exact r_i cx hr hlocks hw (pr1 h) (congrArg (fun z0 => (XC g q z0)) (pr2 h)) dX4_copy_53
  · replace h := sel_s h
    refine c_V (As := [.int p1]) (rest := []) (w' := (XC g q d)) cx hw (c_X4_sheetAt l g q N p1 d (some 2) g2) (cl_X4_219 cx.1.2.2.2.2 ⟨Nat.le_of_ble_eq_true rfl, Nat.le_of_ble_eq_true rfl⟩) (x_recv cx hw (ci := 4) rfl 0 rfl) (Ct.all (XC_ll ..)) hl.1 rfl rfl (Nat.le_of_ble_eq_true rfl) dX4_copy_2 ⟨Nat.le_of_ble_eq_true rfl, Nat.le_of_ble_eq_true rfl⟩ (st1 := [.ref (qs 49 q 0)]) rfl (fun H locs hw => ?_)
    refine lv_astore (lv' := [(6, .ref (qs 49 q 0)), (0, .ref (q 0)), (1, .int p1), (2, .int p2), (3, .int p3), (4, .int p4), (5, .int p5)]) hx hb dX4_copy_5 hl (by decide) rfl (fun ls hl => ?_)
    refine lv_aload_n hx hb dX4_copy_7 rfl (lv_at hl 1 rfl) ?_
    refine lv_iload_n hx hb dX4_copy_8 rfl (lv_at hl 4 rfl) ?_
    obtain ⟨r341, g342, h⟩ := bd_ex h
    rcases sh_cases g342 with e344 | e344 | e344 | e344 | e344 <;> subst e344
    · replace h := sel_n h
      refine c_V (As := [.int p3]) (rest := []) (w' := (XC g q d)) cx hw (c_X4_sheetAt l g q N p3 d none g342) (cl_X4_219 cx.1.2.2.2.2 ⟨Nat.le_of_ble_eq_true rfl, Nat.le_of_ble_eq_true rfl⟩) (x_recv cx hw (ci := 4) rfl 0 rfl) (Ct.all (XC_ll ..)) hl.1 rfl rfl (Nat.le_of_ble_eq_true rfl) dX4_copy_9 ⟨Nat.le_of_ble_eq_true rfl, Nat.le_of_ble_eq_true rfl⟩ (st1 := [.null]) rfl (fun H locs hw => ?_)
      refine lv_astoreN (lv' := [(7, .null), (6, .ref (qs 49 q 0)), (0, .ref (q 0)), (1, .int p1), (2, .int p2), (3, .int p3), (4, .int p4), (5, .int p5)]) hx hb dX4_copy_12 hl (by decide) rfl (fun ls hl => ?_)
      refine lv_aload hx hb dX4_copy_14 (lv_at hl 1 rfl) ?_
      refine lv_ifnull hx hb dX4_copy_16 ?_
      refine lv_aloadN hx hb dX4_copy_19 (lv_at hl 0 rfl) ?_
      refine lv_ifnonnullN hx hb dX4_copy_21 ?_
      refine lv_aload_n hx hb dX4_copy_24 rfl (lv_at hl 2 rfl) ?_
      refine lv_ldc hx hb cx.1.2.2.2.1 (cx.1.2.2.2.2 _ tw_1_202) dX4_copy_25 ?_
      obtain ⟨x345, d346, g347, h⟩ := bd2_ex h
      refine c_V (As := [.int (-1000000001 : Int32)]) (rest := []) (w' := (XC g q d346)) cx hw (c_X4_tell l g q N (-1000000001 : Int32) d x345 d346 g347) (cl_X4_45 cx.1.2.2.2.2 ⟨Nat.le_of_ble_eq_true rfl, Nat.le_of_ble_eq_true rfl⟩) (x_recv cx hw (ci := 4) rfl 0 rfl) (Ct.all (XC_ll ..)) hl.1 rfl rfl (Nat.le_of_ble_eq_true rfl) dX4_copy_27 ⟨Nat.le_of_ble_eq_true rfl, Nat.le_of_ble_eq_true rfl⟩ (st1 := [.int x345]) rfl (fun H locs hw => ?_)
      exact r_i cx hr hlocks hw (pr1 h) (congrArg (fun z0 => (XC g q z0)) (pr2 h)) dX4_copy_30
    · replace h := sel_s h
      refine c_V (As := [.int p3]) (rest := []) (w' := (XC g q d)) cx hw (c_X4_sheetAt l g q N p3 d (some 0) g342) (cl_X4_219 cx.1.2.2.2.2 ⟨Nat.le_of_ble_eq_true rfl, Nat.le_of_ble_eq_true rfl⟩) (x_recv cx hw (ci := 4) rfl 0 rfl) (Ct.all (XC_ll ..)) hl.1 rfl rfl (Nat.le_of_ble_eq_true rfl) dX4_copy_9 ⟨Nat.le_of_ble_eq_true rfl, Nat.le_of_ble_eq_true rfl⟩ (st1 := [.ref (qs 45 q 0)]) rfl (fun H locs hw => ?_)
      refine lv_astore (lv' := [(7, .ref (qs 45 q 0)), (6, .ref (qs 49 q 0)), (0, .ref (q 0)), (1, .int p1), (2, .int p2), (3, .int p3), (4, .int p4), (5, .int p5)]) hx hb dX4_copy_12 hl (by decide) rfl (fun ls hl => ?_)
      refine lv_aload hx hb dX4_copy_14 (lv_at hl 1 rfl) ?_
      refine lv_ifnull hx hb dX4_copy_16 ?_
      refine lv_aload hx hb dX4_copy_19 (lv_at hl 0 rfl) ?_
      refine lv_ifnonnull (tgt := 31) hx hb dX4_copy_21 (by decide) ?_
      refine lv_aload hx hb dX4_copy_31 (lv_at hl 1 rfl) ?_
      obtain ⟨x348, g349, h⟩ := bd_ex h
      refine c_V (As := []) (rest := []) (w' := (XC g q d)) cx hw (c_X0_isMissing l g (qs 49 q) N  (sAt (x_sheets d) 2) x348 g349) (cl_X4_227 cx.1.2.2.2.2 ⟨Nat.le_of_ble_eq_true rfl, Nat.le_of_ble_eq_true rfl⟩) (x_recv cx hw (ci := 0) rfl 49 rfl) (ct_X__49_50__S g q d ) hl.1 rfl rfl (Nat.le_of_ble_eq_true rfl) dX4_copy_33 ⟨Nat.le_of_ble_eq_true rfl, Nat.le_of_ble_eq_true rfl⟩ (st1 := [.int x348]) rfl (fun H locs hw => ?_)
      refine lv_if_ne (tgt := 47) hx hb dX4_copy_36 (by decide) (fun c350 => ?_) (fun c350 => ?_)
      · replace h := ite_f c350 h
        refine lv_aload_n hx hb dX4_copy_47 rfl (lv_at hl 2 rfl) ?_
        refine lv_ldc hx hb cx.1.2.2.2.1 (cx.1.2.2.2.2 _ tw_3_177) dX4_copy_48 ?_
        obtain ⟨x351, d352, g353, h⟩ := bd2_ex h
        refine c_V (As := [.int (-1000000006 : Int32)]) (rest := []) (w' := (XC g q d352)) cx hw (c_X4_tell l g q N (-1000000006 : Int32) d x351 d352 g353) (cl_X4_45 cx.1.2.2.2.2 ⟨Nat.le_of_ble_eq_true rfl, Nat.le_of_ble_eq_true rfl⟩) (x_recv cx hw (ci := 4) rfl 0 rfl) (Ct.all (XC_ll ..)) hl.1 rfl rfl (Nat.le_of_ble_eq_true rfl) dX4_copy_50 ⟨Nat.le_of_ble_eq_true rfl, Nat.le_of_ble_eq_true rfl⟩ (st1 := [.int x351]) rfl (fun H locs hw => ?_)
        exact r_i cx hr hlocks hw (pr1 h) (congrArg (fun z0 => (XC g q z0)) (pr2 h)) dX4_copy_53
      · replace h := ite_t c350 h
        refine lv_aload hx hb dX4_copy_39 (lv_at hl 0 rfl) ?_
        obtain ⟨x354, g355, h⟩ := bd_ex h
        refine c_V (As := []) (rest := []) (w' := (XC g q d)) cx hw (c_X0_isMissing l g (qs 45 q) N  (sAt (x_sheets d) 0) x354 g355) (cl_X4_227 cx.1.2.2.2.2 ⟨Nat.le_of_ble_eq_true rfl, Nat.le_of_ble_eq_true rfl⟩) (x_recv cx hw (ci := 0) rfl 45 rfl) (ct_X__45_46__S g q d ) hl.1 rfl rfl (Nat.le_of_ble_eq_true rfl) dX4_copy_41 ⟨Nat.le_of_ble_eq_true rfl, Nat.le_of_ble_eq_true rfl⟩ (st1 := [.int x354]) rfl (fun H locs hw => ?_)
        refine lv_if_eq (tgt := 54) hx hb dX4_copy_44 (by decide) (fun c356 => ?_) (fun c356 => ?_)
        · replace h := ite_t c356 h
          refine lv_aload hx hb dX4_copy_54 (lv_at hl 1 rfl) ?_
          refine gf_X4_239 cx hw 49 rfl rfl dX4_copy_56 ?_
          refine lv_aload hx hb dX4_copy_59 (lv_at hl 0 rfl) ?_
          refine gf_X4_239 cx hw 45 rfl rfl dX4_copy_61 ?_
          refine lv_icmp_eq (tgt := 74) hx hb dX4_copy_64 (by decide) (fun c357 => ?_) (fun c357 => ?_)
          · replace h := ite_t c357 h
            refine lv_aload hx hb dX4_copy_74 (lv_at hl 1 rfl) ?_
            refine lv_iload_n hx hb dX4_copy_76 rfl (lv_at hl 4 rfl) ?_
            refine lv_iload hx hb dX4_copy_77 (lv_at hl 7 rfl) ?_
            obtain ⟨x358, g359, h⟩ := bd_ex h
            refine c_V (As := [.int p2, .int p5]) (rest := []) (w' := (XC g q d)) cx hw (c_X0_hasRange l g (qs 49 q) N p2 p5 (sAt (x_sheets d) 2) x358 g359) (cl_X4_242 cx.1.2.2.2.2 ⟨Nat.le_of_ble_eq_true rfl, Nat.le_of_ble_eq_true rfl⟩) (x_recv cx hw (ci := 0) rfl 49 rfl) (ct_X__49_50__S g q d ) hl.1 rfl rfl (Nat.le_of_ble_eq_true rfl) dX4_copy_79 ⟨Nat.le_of_ble_eq_true rfl, Nat.le_of_ble_eq_true rfl⟩ (st1 := [.int x358]) rfl (fun H locs hw => ?_)
            refine lv_if_eq (tgt := 97) hx hb dX4_copy_82 (by decide) (fun c360 => ?_) (fun c360 => ?_)
            · replace h := ite_t c360 h
              refine lv_aload_n hx hb dX4_copy_97 rfl (lv_at hl 2 rfl) ?_
              refine lv_ldc hx hb cx.1.2.2.2.1 (cx.1.2.2.2.2 _ tw_1_202) dX4_copy_98 ?_
              obtain ⟨x361, d362, g363, h⟩ := bd2_ex h
              refine c_V (As := [.int (-1000000001 : Int32)]) (rest := []) (w' := (XC g q d362)) cx hw (c_X4_tell l g q N (-1000000001 : Int32) d x361 d362 g363) (cl_X4_45 cx.1.2.2.2.2 ⟨Nat.le_of_ble_eq_true rfl, Nat.le_of_ble_eq_true rfl⟩) (x_recv cx hw (ci := 4) rfl 0 rfl) (Ct.all (XC_ll ..)) hl.1 rfl rfl (Nat.le_of_ble_eq_true rfl) dX4_copy_100 ⟨Nat.le_of_ble_eq_true rfl, Nat.le_of_ble_eq_true rfl⟩ (st1 := [.int x361]) rfl (fun H locs hw => ?_)
              exact r_i cx hr hlocks hw (pr1 h) (congrArg (fun z0 => (XC g q z0)) (pr2 h)) dX4_copy_103
            · replace h := ite_f c360 h
              refine lv_aload hx hb dX4_copy_85 (lv_at hl 0 rfl) ?_
              refine lv_iload hx hb dX4_copy_87 (lv_at hl 6 rfl) ?_
              refine lv_iload hx hb dX4_copy_89 (lv_at hl 7 rfl) ?_
              obtain ⟨x364, g365, h⟩ := bd_ex h
              refine c_V (As := [.int p4, .int p5]) (rest := []) (w' := (XC g q d)) cx hw (c_X0_hasRange l g (qs 45 q) N p4 p5 (sAt (x_sheets d) 0) x364 g365) (cl_X4_242 cx.1.2.2.2.2 ⟨Nat.le_of_ble_eq_true rfl, Nat.le_of_ble_eq_true rfl⟩) (x_recv cx hw (ci := 0) rfl 45 rfl) (ct_X__45_46__S g q d ) hl.1 rfl rfl (Nat.le_of_ble_eq_true rfl) dX4_copy_91 ⟨Nat.le_of_ble_eq_true rfl, Nat.le_of_ble_eq_true rfl⟩ (st1 := [.int x364]) rfl (fun H locs hw => ?_)
              refine lv_if_ne (tgt := 104) hx hb dX4_copy_94 (by decide) (fun c366 => ?_) (fun c366 => ?_)
              · replace h := ite_f c366 h
                refine lv_aload hx hb dX4_copy_104 (lv_at hl 1 rfl) ?_
                refine gf_X4_245 cx hw 49 rfl rfl dX4_copy_106 ?_
                refine lv_iload_n hx hb dX4_copy_109 rfl (lv_at hl 4 rfl) ?_
                refine lv_aload hx hb dX4_copy_110 (lv_at hl 0 rfl) ?_
                refine gf_X4_245 cx hw 45 rfl rfl dX4_copy_112 ?_
                refine lv_iload hx hb dX4_copy_115 (lv_at hl 6 rfl) ?_
                refine lv_iload hx hb dX4_copy_117 (lv_at hl 7 rfl) ?_
                have i367 := ckr_in h
                replace h := ckr_nx h
                refine va_copyl hx hb (cx.1.2.2.1.trans hl.1.symm) cx.1.2.2.2.1 (cx.1.2.2.2.2 _ tw_3_191) (cx.1.2.2.2.2 _ tw_2_180) (cx.1.2.2.2.2 _ tw_2_179) (cx.1.2.2.2.2 _ tw_1_10) cx.2.1 hw.1 hw.2.1 hw.2.2 50 46 1 1 rfl rfl rfl rfl rfl i367.1 i367.2.1 i367.2.2.1 i367.2.2.2.1 i367.2.2.2.2 (fun _ _ => rfl) (Nat.le_of_ble_eq_true rfl) (Nat.le_of_ble_eq_true rfl) dX4_copy_119 (fun H locs hP hD hS => ?_)
                have hw : Wd g _ _ s H locs := ⟨hP, hD, hS⟩
                obtain ⟨d368, ed368, h⟩ := lt_ex h
                have hw : Wd g (va_A ((XC g q d)) s.heap.size) ((XC g q d368)) s H locs := by rw [ed368]; exact hw
                refine lv_iload hx hb dX4_copy_122 (lv_at hl 7 rfl) ?_
                exact r_i cx hr hlocks hw (pr1 h) (congrArg (fun z0 => (XC g q z0)) (pr2 h)) dX4_copy_124
              · replace h := ite_t c366 h
                refine lv_aload_n hx hb dX4_copy_97 rfl (lv_at hl 2 rfl) ?_
                refine lv_ldc hx hb cx.1.2.2.2.1 (cx.1.2.2.2.2 _ tw_1_202) dX4_copy_98 ?_
                obtain ⟨x369, d370, g371, h⟩ := bd2_ex h
                refine c_V (As := [.int (-1000000001 : Int32)]) (rest := []) (w' := (XC g q d370)) cx hw (c_X4_tell l g q N (-1000000001 : Int32) d x369 d370 g371) (cl_X4_45 cx.1.2.2.2.2 ⟨Nat.le_of_ble_eq_true rfl, Nat.le_of_ble_eq_true rfl⟩) (x_recv cx hw (ci := 4) rfl 0 rfl) (Ct.all (XC_ll ..)) hl.1 rfl rfl (Nat.le_of_ble_eq_true rfl) dX4_copy_100 ⟨Nat.le_of_ble_eq_true rfl, Nat.le_of_ble_eq_true rfl⟩ (st1 := [.int x369]) rfl (fun H locs hw => ?_)
                exact r_i cx hr hlocks hw (pr1 h) (congrArg (fun z0 => (XC g q z0)) (pr2 h)) dX4_copy_103
          · replace h := ite_f c357 h
            refine lv_aload_n hx hb dX4_copy_67 rfl (lv_at hl 2 rfl) ?_
            refine lv_ldc hx hb cx.1.2.2.2.1 (cx.1.2.2.2.2 _ tw_2_70) dX4_copy_68 ?_
            obtain ⟨x372, d373, g374, h⟩ := bd2_ex h
            refine c_V (As := [.int (-1000000003 : Int32)]) (rest := []) (w' := (XC g q d373)) cx hw (c_X4_tell l g q N (-1000000003 : Int32) d x372 d373 g374) (cl_X4_45 cx.1.2.2.2.2 ⟨Nat.le_of_ble_eq_true rfl, Nat.le_of_ble_eq_true rfl⟩) (x_recv cx hw (ci := 4) rfl 0 rfl) (Ct.all (XC_ll ..)) hl.1 rfl rfl (Nat.le_of_ble_eq_true rfl) dX4_copy_70 ⟨Nat.le_of_ble_eq_true rfl, Nat.le_of_ble_eq_true rfl⟩ (st1 := [.int x372]) rfl (fun H locs hw => ?_)
            exact r_i cx hr hlocks hw (pr1 h) (congrArg (fun z0 => (XC g q z0)) (pr2 h)) dX4_copy_73
        · replace h := ite_f c356 h
          refine lv_aload_n hx hb dX4_copy_47 rfl (lv_at hl 2 rfl) ?_
          refine lv_ldc hx hb cx.1.2.2.2.1 (cx.1.2.2.2.2 _ tw_3_177) dX4_copy_48 ?_
          obtain ⟨x375, d376, g377, h⟩ := bd2_ex h
          refine c_V (As := [.int (-1000000006 : Int32)]) (rest := []) (w' := (XC g q d376)) cx hw (c_X4_tell l g q N (-1000000006 : Int32) d x375 d376 g377) (cl_X4_45 cx.1.2.2.2.2 ⟨Nat.le_of_ble_eq_true rfl, Nat.le_of_ble_eq_true rfl⟩) (x_recv cx hw (ci := 4) rfl 0 rfl) (Ct.all (XC_ll ..)) hl.1 rfl rfl (Nat.le_of_ble_eq_true rfl) dX4_copy_50 ⟨Nat.le_of_ble_eq_true rfl, Nat.le_of_ble_eq_true rfl⟩ (st1 := [.int x375]) rfl (fun H locs hw => ?_)
          exact r_i cx hr hlocks hw (pr1 h) (congrArg (fun z0 => (XC g q z0)) (pr2 h)) dX4_copy_53
    · replace h := sel_s h
      refine c_V (As := [.int p3]) (rest := []) (w' := (XC g q d)) cx hw (c_X4_sheetAt l g q N p3 d (some 1) g342) (cl_X4_219 cx.1.2.2.2.2 ⟨Nat.le_of_ble_eq_true rfl, Nat.le_of_ble_eq_true rfl⟩) (x_recv cx hw (ci := 4) rfl 0 rfl) (Ct.all (XC_ll ..)) hl.1 rfl rfl (Nat.le_of_ble_eq_true rfl) dX4_copy_9 ⟨Nat.le_of_ble_eq_true rfl, Nat.le_of_ble_eq_true rfl⟩ (st1 := [.ref (qs 47 q 0)]) rfl (fun H locs hw => ?_)
      refine lv_astore (lv' := [(7, .ref (qs 47 q 0)), (6, .ref (qs 49 q 0)), (0, .ref (q 0)), (1, .int p1), (2, .int p2), (3, .int p3), (4, .int p4), (5, .int p5)]) hx hb dX4_copy_12 hl (by decide) rfl (fun ls hl => ?_)
      refine lv_aload hx hb dX4_copy_14 (lv_at hl 1 rfl) ?_
      refine lv_ifnull hx hb dX4_copy_16 ?_
      refine lv_aload hx hb dX4_copy_19 (lv_at hl 0 rfl) ?_
      refine lv_ifnonnull (tgt := 31) hx hb dX4_copy_21 (by decide) ?_
      refine lv_aload hx hb dX4_copy_31 (lv_at hl 1 rfl) ?_
      obtain ⟨x378, g379, h⟩ := bd_ex h
      refine c_V (As := []) (rest := []) (w' := (XC g q d)) cx hw (c_X0_isMissing l g (qs 49 q) N  (sAt (x_sheets d) 2) x378 g379) (cl_X4_227 cx.1.2.2.2.2 ⟨Nat.le_of_ble_eq_true rfl, Nat.le_of_ble_eq_true rfl⟩) (x_recv cx hw (ci := 0) rfl 49 rfl) (ct_X__49_50__S g q d ) hl.1 rfl rfl (Nat.le_of_ble_eq_true rfl) dX4_copy_33 ⟨Nat.le_of_ble_eq_true rfl, Nat.le_of_ble_eq_true rfl⟩ (st1 := [.int x378]) rfl (fun H locs hw => ?_)
      refine lv_if_ne (tgt := 47) hx hb dX4_copy_36 (by decide) (fun c380 => ?_) (fun c380 => ?_)
      · replace h := ite_f c380 h
        refine lv_aload_n hx hb dX4_copy_47 rfl (lv_at hl 2 rfl) ?_
        refine lv_ldc hx hb cx.1.2.2.2.1 (cx.1.2.2.2.2 _ tw_3_177) dX4_copy_48 ?_
        obtain ⟨x381, d382, g383, h⟩ := bd2_ex h
        refine c_V (As := [.int (-1000000006 : Int32)]) (rest := []) (w' := (XC g q d382)) cx hw (c_X4_tell l g q N (-1000000006 : Int32) d x381 d382 g383) (cl_X4_45 cx.1.2.2.2.2 ⟨Nat.le_of_ble_eq_true rfl, Nat.le_of_ble_eq_true rfl⟩) (x_recv cx hw (ci := 4) rfl 0 rfl) (Ct.all (XC_ll ..)) hl.1 rfl rfl (Nat.le_of_ble_eq_true rfl) dX4_copy_50 ⟨Nat.le_of_ble_eq_true rfl, Nat.le_of_ble_eq_true rfl⟩ (st1 := [.int x381]) rfl (fun H locs hw => ?_)
        exact r_i cx hr hlocks hw (pr1 h) (congrArg (fun z0 => (XC g q z0)) (pr2 h)) dX4_copy_53
      · replace h := ite_t c380 h
        refine lv_aload hx hb dX4_copy_39 (lv_at hl 0 rfl) ?_
        obtain ⟨x384, g385, h⟩ := bd_ex h
        refine c_V (As := []) (rest := []) (w' := (XC g q d)) cx hw (c_X0_isMissing l g (qs 47 q) N  (sAt (x_sheets d) 1) x384 g385) (cl_X4_227 cx.1.2.2.2.2 ⟨Nat.le_of_ble_eq_true rfl, Nat.le_of_ble_eq_true rfl⟩) (x_recv cx hw (ci := 0) rfl 47 rfl) (ct_X__47_48__S g q d ) hl.1 rfl rfl (Nat.le_of_ble_eq_true rfl) dX4_copy_41 ⟨Nat.le_of_ble_eq_true rfl, Nat.le_of_ble_eq_true rfl⟩ (st1 := [.int x384]) rfl (fun H locs hw => ?_)
        refine lv_if_eq (tgt := 54) hx hb dX4_copy_44 (by decide) (fun c386 => ?_) (fun c386 => ?_)
        · replace h := ite_t c386 h
          refine lv_aload hx hb dX4_copy_54 (lv_at hl 1 rfl) ?_
          refine gf_X4_239 cx hw 49 rfl rfl dX4_copy_56 ?_
          refine lv_aload hx hb dX4_copy_59 (lv_at hl 0 rfl) ?_
          refine gf_X4_239 cx hw 47 rfl rfl dX4_copy_61 ?_
          refine lv_icmp_eq (tgt := 74) hx hb dX4_copy_64 (by decide) (fun c387 => ?_) (fun c387 => ?_)
          · replace h := ite_t c387 h
            refine lv_aload hx hb dX4_copy_74 (lv_at hl 1 rfl) ?_
            refine lv_iload_n hx hb dX4_copy_76 rfl (lv_at hl 4 rfl) ?_
            refine lv_iload hx hb dX4_copy_77 (lv_at hl 7 rfl) ?_
            obtain ⟨x388, g389, h⟩ := bd_ex h
            refine c_V (As := [.int p2, .int p5]) (rest := []) (w' := (XC g q d)) cx hw (c_X0_hasRange l g (qs 49 q) N p2 p5 (sAt (x_sheets d) 2) x388 g389) (cl_X4_242 cx.1.2.2.2.2 ⟨Nat.le_of_ble_eq_true rfl, Nat.le_of_ble_eq_true rfl⟩) (x_recv cx hw (ci := 0) rfl 49 rfl) (ct_X__49_50__S g q d ) hl.1 rfl rfl (Nat.le_of_ble_eq_true rfl) dX4_copy_79 ⟨Nat.le_of_ble_eq_true rfl, Nat.le_of_ble_eq_true rfl⟩ (st1 := [.int x388]) rfl (fun H locs hw => ?_)
            refine lv_if_eq (tgt := 97) hx hb dX4_copy_82 (by decide) (fun c390 => ?_) (fun c390 => ?_)
            · replace h := ite_t c390 h
              refine lv_aload_n hx hb dX4_copy_97 rfl (lv_at hl 2 rfl) ?_
              refine lv_ldc hx hb cx.1.2.2.2.1 (cx.1.2.2.2.2 _ tw_1_202) dX4_copy_98 ?_
              obtain ⟨x391, d392, g393, h⟩ := bd2_ex h
              refine c_V (As := [.int (-1000000001 : Int32)]) (rest := []) (w' := (XC g q d392)) cx hw (c_X4_tell l g q N (-1000000001 : Int32) d x391 d392 g393) (cl_X4_45 cx.1.2.2.2.2 ⟨Nat.le_of_ble_eq_true rfl, Nat.le_of_ble_eq_true rfl⟩) (x_recv cx hw (ci := 4) rfl 0 rfl) (Ct.all (XC_ll ..)) hl.1 rfl rfl (Nat.le_of_ble_eq_true rfl) dX4_copy_100 ⟨Nat.le_of_ble_eq_true rfl, Nat.le_of_ble_eq_true rfl⟩ (st1 := [.int x391]) rfl (fun H locs hw => ?_)
              exact r_i cx hr hlocks hw (pr1 h) (congrArg (fun z0 => (XC g q z0)) (pr2 h)) dX4_copy_103
            · replace h := ite_f c390 h
              refine lv_aload hx hb dX4_copy_85 (lv_at hl 0 rfl) ?_
              refine lv_iload hx hb dX4_copy_87 (lv_at hl 6 rfl) ?_
              refine lv_iload hx hb dX4_copy_89 (lv_at hl 7 rfl) ?_
              obtain ⟨x394, g395, h⟩ := bd_ex h
              refine c_V (As := [.int p4, .int p5]) (rest := []) (w' := (XC g q d)) cx hw (c_X0_hasRange l g (qs 47 q) N p4 p5 (sAt (x_sheets d) 1) x394 g395) (cl_X4_242 cx.1.2.2.2.2 ⟨Nat.le_of_ble_eq_true rfl, Nat.le_of_ble_eq_true rfl⟩) (x_recv cx hw (ci := 0) rfl 47 rfl) (ct_X__47_48__S g q d ) hl.1 rfl rfl (Nat.le_of_ble_eq_true rfl) dX4_copy_91 ⟨Nat.le_of_ble_eq_true rfl, Nat.le_of_ble_eq_true rfl⟩ (st1 := [.int x394]) rfl (fun H locs hw => ?_)
              refine lv_if_ne (tgt := 104) hx hb dX4_copy_94 (by decide) (fun c396 => ?_) (fun c396 => ?_)
              · replace h := ite_f c396 h
                refine lv_aload hx hb dX4_copy_104 (lv_at hl 1 rfl) ?_
                refine gf_X4_245 cx hw 49 rfl rfl dX4_copy_106 ?_
                refine lv_iload_n hx hb dX4_copy_109 rfl (lv_at hl 4 rfl) ?_
                refine lv_aload hx hb dX4_copy_110 (lv_at hl 0 rfl) ?_
                refine gf_X4_245 cx hw 47 rfl rfl dX4_copy_112 ?_
                refine lv_iload hx hb dX4_copy_115 (lv_at hl 6 rfl) ?_
                refine lv_iload hx hb dX4_copy_117 (lv_at hl 7 rfl) ?_
                have i397 := ckr_in h
                replace h := ckr_nx h
                refine va_copyl hx hb (cx.1.2.2.1.trans hl.1.symm) cx.1.2.2.2.1 (cx.1.2.2.2.2 _ tw_3_191) (cx.1.2.2.2.2 _ tw_2_180) (cx.1.2.2.2.2 _ tw_2_179) (cx.1.2.2.2.2 _ tw_1_10) cx.2.1 hw.1 hw.2.1 hw.2.2 50 48 1 1 rfl rfl rfl rfl rfl i397.1 i397.2.1 i397.2.2.1 i397.2.2.2.1 i397.2.2.2.2 (fun _ _ => rfl) (Nat.le_of_ble_eq_true rfl) (Nat.le_of_ble_eq_true rfl) dX4_copy_119 (fun H locs hP hD hS => ?_)
                have hw : Wd g _ _ s H locs := ⟨hP, hD, hS⟩
                obtain ⟨d398, ed398, h⟩ := lt_ex h
                have hw : Wd g (va_A ((XC g q d)) s.heap.size) ((XC g q d398)) s H locs := by rw [ed398]; exact hw
                refine lv_iload hx hb dX4_copy_122 (lv_at hl 7 rfl) ?_
                exact r_i cx hr hlocks hw (pr1 h) (congrArg (fun z0 => (XC g q z0)) (pr2 h)) dX4_copy_124
              · replace h := ite_t c396 h
                refine lv_aload_n hx hb dX4_copy_97 rfl (lv_at hl 2 rfl) ?_
                refine lv_ldc hx hb cx.1.2.2.2.1 (cx.1.2.2.2.2 _ tw_1_202) dX4_copy_98 ?_
                obtain ⟨x399, d400, g401, h⟩ := bd2_ex h
                refine c_V (As := [.int (-1000000001 : Int32)]) (rest := []) (w' := (XC g q d400)) cx hw (c_X4_tell l g q N (-1000000001 : Int32) d x399 d400 g401) (cl_X4_45 cx.1.2.2.2.2 ⟨Nat.le_of_ble_eq_true rfl, Nat.le_of_ble_eq_true rfl⟩) (x_recv cx hw (ci := 4) rfl 0 rfl) (Ct.all (XC_ll ..)) hl.1 rfl rfl (Nat.le_of_ble_eq_true rfl) dX4_copy_100 ⟨Nat.le_of_ble_eq_true rfl, Nat.le_of_ble_eq_true rfl⟩ (st1 := [.int x399]) rfl (fun H locs hw => ?_)
                exact r_i cx hr hlocks hw (pr1 h) (congrArg (fun z0 => (XC g q z0)) (pr2 h)) dX4_copy_103
          · replace h := ite_f c387 h
            refine lv_aload_n hx hb dX4_copy_67 rfl (lv_at hl 2 rfl) ?_
            refine lv_ldc hx hb cx.1.2.2.2.1 (cx.1.2.2.2.2 _ tw_2_70) dX4_copy_68 ?_
            obtain ⟨x402, d403, g404, h⟩ := bd2_ex h
            refine c_V (As := [.int (-1000000003 : Int32)]) (rest := []) (w' := (XC g q d403)) cx hw (c_X4_tell l g q N (-1000000003 : Int32) d x402 d403 g404) (cl_X4_45 cx.1.2.2.2.2 ⟨Nat.le_of_ble_eq_true rfl, Nat.le_of_ble_eq_true rfl⟩) (x_recv cx hw (ci := 4) rfl 0 rfl) (Ct.all (XC_ll ..)) hl.1 rfl rfl (Nat.le_of_ble_eq_true rfl) dX4_copy_70 ⟨Nat.le_of_ble_eq_true rfl, Nat.le_of_ble_eq_true rfl⟩ (st1 := [.int x402]) rfl (fun H locs hw => ?_)
            exact r_i cx hr hlocks hw (pr1 h) (congrArg (fun z0 => (XC g q z0)) (pr2 h)) dX4_copy_73
        · replace h := ite_f c386 h
          refine lv_aload_n hx hb dX4_copy_47 rfl (lv_at hl 2 rfl) ?_
          refine lv_ldc hx hb cx.1.2.2.2.1 (cx.1.2.2.2.2 _ tw_3_177) dX4_copy_48 ?_
          obtain ⟨x405, d406, g407, h⟩ := bd2_ex h
          refine c_V (As := [.int (-1000000006 : Int32)]) (rest := []) (w' := (XC g q d406)) cx hw (c_X4_tell l g q N (-1000000006 : Int32) d x405 d406 g407) (cl_X4_45 cx.1.2.2.2.2 ⟨Nat.le_of_ble_eq_true rfl, Nat.le_of_ble_eq_true rfl⟩) (x_recv cx hw (ci := 4) rfl 0 rfl) (Ct.all (XC_ll ..)) hl.1 rfl rfl (Nat.le_of_ble_eq_true rfl) dX4_copy_50 ⟨Nat.le_of_ble_eq_true rfl, Nat.le_of_ble_eq_true rfl⟩ (st1 := [.int x405]) rfl (fun H locs hw => ?_)
          exact r_i cx hr hlocks hw (pr1 h) (congrArg (fun z0 => (XC g q z0)) (pr2 h)) dX4_copy_53
    · replace h := sel_s h
      refine c_V (As := [.int p3]) (rest := []) (w' := (XC g q d)) cx hw (c_X4_sheetAt l g q N p3 d (some 2) g342) (cl_X4_219 cx.1.2.2.2.2 ⟨Nat.le_of_ble_eq_true rfl, Nat.le_of_ble_eq_true rfl⟩) (x_recv cx hw (ci := 4) rfl 0 rfl) (Ct.all (XC_ll ..)) hl.1 rfl rfl (Nat.le_of_ble_eq_true rfl) dX4_copy_9 ⟨Nat.le_of_ble_eq_true rfl, Nat.le_of_ble_eq_true rfl⟩ (st1 := [.ref (qs 49 q 0)]) rfl (fun H locs hw => ?_)
      refine lv_astore (lv' := [(7, .ref (qs 49 q 0)), (6, .ref (qs 49 q 0)), (0, .ref (q 0)), (1, .int p1), (2, .int p2), (3, .int p3), (4, .int p4), (5, .int p5)]) hx hb dX4_copy_12 hl (by decide) rfl (fun ls hl => ?_)
      refine lv_aload hx hb dX4_copy_14 (lv_at hl 1 rfl) ?_
      refine lv_ifnull hx hb dX4_copy_16 ?_
      refine lv_aload hx hb dX4_copy_19 (lv_at hl 0 rfl) ?_
      refine lv_ifnonnull (tgt := 31) hx hb dX4_copy_21 (by decide) ?_
      refine lv_aload hx hb dX4_copy_31 (lv_at hl 1 rfl) ?_
      obtain ⟨x408, g409, h⟩ := bd_ex h
      refine c_V (As := []) (rest := []) (w' := (XC g q d)) cx hw (c_X0_isMissing l g (qs 49 q) N  (sAt (x_sheets d) 2) x408 g409) (cl_X4_227 cx.1.2.2.2.2 ⟨Nat.le_of_ble_eq_true rfl, Nat.le_of_ble_eq_true rfl⟩) (x_recv cx hw (ci := 0) rfl 49 rfl) (ct_X__49_50__S g q d ) hl.1 rfl rfl (Nat.le_of_ble_eq_true rfl) dX4_copy_33 ⟨Nat.le_of_ble_eq_true rfl, Nat.le_of_ble_eq_true rfl⟩ (st1 := [.int x408]) rfl (fun H locs hw => ?_)
      refine lv_if_ne (tgt := 47) hx hb dX4_copy_36 (by decide) (fun c410 => ?_) (fun c410 => ?_)
      · replace h := ite_f c410 h
        refine lv_aload_n hx hb dX4_copy_47 rfl (lv_at hl 2 rfl) ?_
        refine lv_ldc hx hb cx.1.2.2.2.1 (cx.1.2.2.2.2 _ tw_3_177) dX4_copy_48 ?_
        obtain ⟨x411, d412, g413, h⟩ := bd2_ex h
        refine c_V (As := [.int (-1000000006 : Int32)]) (rest := []) (w' := (XC g q d412)) cx hw (c_X4_tell l g q N (-1000000006 : Int32) d x411 d412 g413) (cl_X4_45 cx.1.2.2.2.2 ⟨Nat.le_of_ble_eq_true rfl, Nat.le_of_ble_eq_true rfl⟩) (x_recv cx hw (ci := 4) rfl 0 rfl) (Ct.all (XC_ll ..)) hl.1 rfl rfl (Nat.le_of_ble_eq_true rfl) dX4_copy_50 ⟨Nat.le_of_ble_eq_true rfl, Nat.le_of_ble_eq_true rfl⟩ (st1 := [.int x411]) rfl (fun H locs hw => ?_)
        exact r_i cx hr hlocks hw (pr1 h) (congrArg (fun z0 => (XC g q z0)) (pr2 h)) dX4_copy_53
      · replace h := ite_t c410 h
        refine lv_aload hx hb dX4_copy_39 (lv_at hl 0 rfl) ?_
        obtain ⟨x414, g415, h⟩ := bd_ex h
        refine c_V (As := []) (rest := []) (w' := (XC g q d)) cx hw (c_X0_isMissing l g (qs 49 q) N  (sAt (x_sheets d) 2) x414 g415) (cl_X4_227 cx.1.2.2.2.2 ⟨Nat.le_of_ble_eq_true rfl, Nat.le_of_ble_eq_true rfl⟩) (x_recv cx hw (ci := 0) rfl 49 rfl) (ct_X__49_50__S g q d ) hl.1 rfl rfl (Nat.le_of_ble_eq_true rfl) dX4_copy_41 ⟨Nat.le_of_ble_eq_true rfl, Nat.le_of_ble_eq_true rfl⟩ (st1 := [.int x414]) rfl (fun H locs hw => ?_)
        refine lv_if_eq (tgt := 54) hx hb dX4_copy_44 (by decide) (fun c416 => ?_) (fun c416 => ?_)
        · replace h := ite_t c416 h
          refine lv_aload hx hb dX4_copy_54 (lv_at hl 1 rfl) ?_
          refine gf_X4_239 cx hw 49 rfl rfl dX4_copy_56 ?_
          refine lv_aload hx hb dX4_copy_59 (lv_at hl 0 rfl) ?_
          refine gf_X4_239 cx hw 49 rfl rfl dX4_copy_61 ?_
          refine lv_icmp_eq (tgt := 74) hx hb dX4_copy_64 (by decide) (fun c417 => ?_) (fun c417 => ?_)
          · replace h := ite_t c417 h
            refine lv_aload hx hb dX4_copy_74 (lv_at hl 1 rfl) ?_
            refine lv_iload_n hx hb dX4_copy_76 rfl (lv_at hl 4 rfl) ?_
            refine lv_iload hx hb dX4_copy_77 (lv_at hl 7 rfl) ?_
            obtain ⟨x418, g419, h⟩ := bd_ex h
            refine c_V (As := [.int p2, .int p5]) (rest := []) (w' := (XC g q d)) cx hw (c_X0_hasRange l g (qs 49 q) N p2 p5 (sAt (x_sheets d) 2) x418 g419) (cl_X4_242 cx.1.2.2.2.2 ⟨Nat.le_of_ble_eq_true rfl, Nat.le_of_ble_eq_true rfl⟩) (x_recv cx hw (ci := 0) rfl 49 rfl) (ct_X__49_50__S g q d ) hl.1 rfl rfl (Nat.le_of_ble_eq_true rfl) dX4_copy_79 ⟨Nat.le_of_ble_eq_true rfl, Nat.le_of_ble_eq_true rfl⟩ (st1 := [.int x418]) rfl (fun H locs hw => ?_)
            refine lv_if_eq (tgt := 97) hx hb dX4_copy_82 (by decide) (fun c420 => ?_) (fun c420 => ?_)
            · replace h := ite_t c420 h
              refine lv_aload_n hx hb dX4_copy_97 rfl (lv_at hl 2 rfl) ?_
              refine lv_ldc hx hb cx.1.2.2.2.1 (cx.1.2.2.2.2 _ tw_1_202) dX4_copy_98 ?_
              obtain ⟨x421, d422, g423, h⟩ := bd2_ex h
              refine c_V (As := [.int (-1000000001 : Int32)]) (rest := []) (w' := (XC g q d422)) cx hw (c_X4_tell l g q N (-1000000001 : Int32) d x421 d422 g423) (cl_X4_45 cx.1.2.2.2.2 ⟨Nat.le_of_ble_eq_true rfl, Nat.le_of_ble_eq_true rfl⟩) (x_recv cx hw (ci := 4) rfl 0 rfl) (Ct.all (XC_ll ..)) hl.1 rfl rfl (Nat.le_of_ble_eq_true rfl) dX4_copy_100 ⟨Nat.le_of_ble_eq_true rfl, Nat.le_of_ble_eq_true rfl⟩ (st1 := [.int x421]) rfl (fun H locs hw => ?_)
              exact r_i cx hr hlocks hw (pr1 h) (congrArg (fun z0 => (XC g q z0)) (pr2 h)) dX4_copy_103
            · replace h := ite_f c420 h
              refine lv_aload hx hb dX4_copy_85 (lv_at hl 0 rfl) ?_
              refine lv_iload hx hb dX4_copy_87 (lv_at hl 6 rfl) ?_
              refine lv_iload hx hb dX4_copy_89 (lv_at hl 7 rfl) ?_
              obtain ⟨x424, g425, h⟩ := bd_ex h
              refine c_V (As := [.int p4, .int p5]) (rest := []) (w' := (XC g q d)) cx hw (c_X0_hasRange l g (qs 49 q) N p4 p5 (sAt (x_sheets d) 2) x424 g425) (cl_X4_242 cx.1.2.2.2.2 ⟨Nat.le_of_ble_eq_true rfl, Nat.le_of_ble_eq_true rfl⟩) (x_recv cx hw (ci := 0) rfl 49 rfl) (ct_X__49_50__S g q d ) hl.1 rfl rfl (Nat.le_of_ble_eq_true rfl) dX4_copy_91 ⟨Nat.le_of_ble_eq_true rfl, Nat.le_of_ble_eq_true rfl⟩ (st1 := [.int x424]) rfl (fun H locs hw => ?_)
              refine lv_if_ne (tgt := 104) hx hb dX4_copy_94 (by decide) (fun c426 => ?_) (fun c426 => ?_)
              · replace h := ite_f c426 h
                refine lv_aload hx hb dX4_copy_104 (lv_at hl 1 rfl) ?_
                refine gf_X4_245 cx hw 49 rfl rfl dX4_copy_106 ?_
                refine lv_iload_n hx hb dX4_copy_109 rfl (lv_at hl 4 rfl) ?_
                refine lv_aload hx hb dX4_copy_110 (lv_at hl 0 rfl) ?_
                refine gf_X4_245 cx hw 49 rfl rfl dX4_copy_112 ?_
                refine lv_iload hx hb dX4_copy_115 (lv_at hl 6 rfl) ?_
                refine lv_iload hx hb dX4_copy_117 (lv_at hl 7 rfl) ?_
                have i427 := ckr_in h
                replace h := ckr_nx h
                refine va_copyl hx hb (cx.1.2.2.1.trans hl.1.symm) cx.1.2.2.2.1 (cx.1.2.2.2.2 _ tw_3_191) (cx.1.2.2.2.2 _ tw_2_180) (cx.1.2.2.2.2 _ tw_2_179) (cx.1.2.2.2.2 _ tw_1_10) cx.2.1 hw.1 hw.2.1 hw.2.2 50 50 1 1 rfl rfl rfl rfl rfl i427.1 i427.2.1 i427.2.2.1 i427.2.2.2.1 i427.2.2.2.2 (fun _ _ => rfl) (Nat.le_of_ble_eq_true rfl) (Nat.le_of_ble_eq_true rfl) dX4_copy_119 (fun H locs hP hD hS => ?_)
                have hw : Wd g _ _ s H locs := ⟨hP, hD, hS⟩
                obtain ⟨d428, ed428, h⟩ := lt_ex h
                have hw : Wd g (va_A ((XC g q d)) s.heap.size) ((XC g q d428)) s H locs := by rw [ed428]; exact hw
                refine lv_iload hx hb dX4_copy_122 (lv_at hl 7 rfl) ?_
                exact r_i cx hr hlocks hw (pr1 h) (congrArg (fun z0 => (XC g q z0)) (pr2 h)) dX4_copy_124
              · replace h := ite_t c426 h
                refine lv_aload_n hx hb dX4_copy_97 rfl (lv_at hl 2 rfl) ?_
                refine lv_ldc hx hb cx.1.2.2.2.1 (cx.1.2.2.2.2 _ tw_1_202) dX4_copy_98 ?_
                obtain ⟨x429, d430, g431, h⟩ := bd2_ex h
                refine c_V (As := [.int (-1000000001 : Int32)]) (rest := []) (w' := (XC g q d430)) cx hw (c_X4_tell l g q N (-1000000001 : Int32) d x429 d430 g431) (cl_X4_45 cx.1.2.2.2.2 ⟨Nat.le_of_ble_eq_true rfl, Nat.le_of_ble_eq_true rfl⟩) (x_recv cx hw (ci := 4) rfl 0 rfl) (Ct.all (XC_ll ..)) hl.1 rfl rfl (Nat.le_of_ble_eq_true rfl) dX4_copy_100 ⟨Nat.le_of_ble_eq_true rfl, Nat.le_of_ble_eq_true rfl⟩ (st1 := [.int x429]) rfl (fun H locs hw => ?_)
                exact r_i cx hr hlocks hw (pr1 h) (congrArg (fun z0 => (XC g q z0)) (pr2 h)) dX4_copy_103
          · replace h := ite_f c417 h
            refine lv_aload_n hx hb dX4_copy_67 rfl (lv_at hl 2 rfl) ?_
            refine lv_ldc hx hb cx.1.2.2.2.1 (cx.1.2.2.2.2 _ tw_2_70) dX4_copy_68 ?_
            obtain ⟨x432, d433, g434, h⟩ := bd2_ex h
            refine c_V (As := [.int (-1000000003 : Int32)]) (rest := []) (w' := (XC g q d433)) cx hw (c_X4_tell l g q N (-1000000003 : Int32) d x432 d433 g434) (cl_X4_45 cx.1.2.2.2.2 ⟨Nat.le_of_ble_eq_true rfl, Nat.le_of_ble_eq_true rfl⟩) (x_recv cx hw (ci := 4) rfl 0 rfl) (Ct.all (XC_ll ..)) hl.1 rfl rfl (Nat.le_of_ble_eq_true rfl) dX4_copy_70 ⟨Nat.le_of_ble_eq_true rfl, Nat.le_of_ble_eq_true rfl⟩ (st1 := [.int x432]) rfl (fun H locs hw => ?_)
            exact r_i cx hr hlocks hw (pr1 h) (congrArg (fun z0 => (XC g q z0)) (pr2 h)) dX4_copy_73
        · replace h := ite_f c416 h
          refine lv_aload_n hx hb dX4_copy_47 rfl (lv_at hl 2 rfl) ?_
          refine lv_ldc hx hb cx.1.2.2.2.1 (cx.1.2.2.2.2 _ tw_3_177) dX4_copy_48 ?_
          obtain ⟨x435, d436, g437, h⟩ := bd2_ex h
          refine c_V (As := [.int (-1000000006 : Int32)]) (rest := []) (w' := (XC g q d436)) cx hw (c_X4_tell l g q N (-1000000006 : Int32) d x435 d436 g437) (cl_X4_45 cx.1.2.2.2.2 ⟨Nat.le_of_ble_eq_true rfl, Nat.le_of_ble_eq_true rfl⟩) (x_recv cx hw (ci := 4) rfl 0 rfl) (Ct.all (XC_ll ..)) hl.1 rfl rfl (Nat.le_of_ble_eq_true rfl) dX4_copy_50 ⟨Nat.le_of_ble_eq_true rfl, Nat.le_of_ble_eq_true rfl⟩ (st1 := [.int x435]) rfl (fun H locs hw => ?_)
          exact r_i cx hr hlocks hw (pr1 h) (congrArg (fun z0 => (XC g q z0)) (pr2 h)) dX4_copy_53
    · replace h := sel_s h
      refine c_V (As := [.int p3]) (rest := []) (w' := (XC g q d)) cx hw (c_X4_sheetAt l g q N p3 d (some 3) g342) (cl_X4_219 cx.1.2.2.2.2 ⟨Nat.le_of_ble_eq_true rfl, Nat.le_of_ble_eq_true rfl⟩) (x_recv cx hw (ci := 4) rfl 0 rfl) (Ct.all (XC_ll ..)) hl.1 rfl rfl (Nat.le_of_ble_eq_true rfl) dX4_copy_9 ⟨Nat.le_of_ble_eq_true rfl, Nat.le_of_ble_eq_true rfl⟩ (st1 := [.ref (qs 51 q 0)]) rfl (fun H locs hw => ?_)
      refine lv_astore (lv' := [(7, .ref (qs 51 q 0)), (6, .ref (qs 49 q 0)), (0, .ref (q 0)), (1, .int p1), (2, .int p2), (3, .int p3), (4, .int p4), (5, .int p5)]) hx hb dX4_copy_12 hl (by decide) rfl (fun ls hl => ?_)
      refine lv_aload hx hb dX4_copy_14 (lv_at hl 1 rfl) ?_
      refine lv_ifnull hx hb dX4_copy_16 ?_
      refine lv_aload hx hb dX4_copy_19 (lv_at hl 0 rfl) ?_
      refine lv_ifnonnull (tgt := 31) hx hb dX4_copy_21 (by decide) ?_
      refine lv_aload hx hb dX4_copy_31 (lv_at hl 1 rfl) ?_
      obtain ⟨x438, g439, h⟩ := bd_ex h
      refine c_V (As := []) (rest := []) (w' := (XC g q d)) cx hw (c_X0_isMissing l g (qs 49 q) N  (sAt (x_sheets d) 2) x438 g439) (cl_X4_227 cx.1.2.2.2.2 ⟨Nat.le_of_ble_eq_true rfl, Nat.le_of_ble_eq_true rfl⟩) (x_recv cx hw (ci := 0) rfl 49 rfl) (ct_X__49_50__S g q d ) hl.1 rfl rfl (Nat.le_of_ble_eq_true rfl) dX4_copy_33 ⟨Nat.le_of_ble_eq_true rfl, Nat.le_of_ble_eq_true rfl⟩ (st1 := [.int x438]) rfl (fun H locs hw => ?_)
      refine lv_if_ne (tgt := 47) hx hb dX4_copy_36 (by decide) (fun c440 => ?_) (fun c440 => ?_)
      · replace h := ite_f c440 h
        refine lv_aload_n hx hb dX4_copy_47 rfl (lv_at hl 2 rfl) ?_
        refine lv_ldc hx hb cx.1.2.2.2.1 (cx.1.2.2.2.2 _ tw_3_177) dX4_copy_48 ?_
        obtain ⟨x441, d442, g443, h⟩ := bd2_ex h
        refine c_V (As := [.int (-1000000006 : Int32)]) (rest := []) (w' := (XC g q d442)) cx hw (c_X4_tell l g q N (-1000000006 : Int32) d x441 d442 g443) (cl_X4_45 cx.1.2.2.2.2 ⟨Nat.le_of_ble_eq_true rfl, Nat.le_of_ble_eq_true rfl⟩) (x_recv cx hw (ci := 4) rfl 0 rfl) (Ct.all (XC_ll ..)) hl.1 rfl rfl (Nat.le_of_ble_eq_true rfl) dX4_copy_50 ⟨Nat.le_of_ble_eq_true rfl, Nat.le_of_ble_eq_true rfl⟩ (st1 := [.int x441]) rfl (fun H locs hw => ?_)
        exact r_i cx hr hlocks hw (pr1 h) (congrArg (fun z0 => (XC g q z0)) (pr2 h)) dX4_copy_53
      · replace h := ite_t c440 h
        refine lv_aload hx hb dX4_copy_39 (lv_at hl 0 rfl) ?_
        obtain ⟨x444, g445, h⟩ := bd_ex h
        refine c_V (As := []) (rest := []) (w' := (XC g q d)) cx hw (c_X0_isMissing l g (qs 51 q) N  (sAt (x_sheets d) 3) x444 g445) (cl_X4_227 cx.1.2.2.2.2 ⟨Nat.le_of_ble_eq_true rfl, Nat.le_of_ble_eq_true rfl⟩) (x_recv cx hw (ci := 0) rfl 51 rfl) (ct_X__51_52__S g q d ) hl.1 rfl rfl (Nat.le_of_ble_eq_true rfl) dX4_copy_41 ⟨Nat.le_of_ble_eq_true rfl, Nat.le_of_ble_eq_true rfl⟩ (st1 := [.int x444]) rfl (fun H locs hw => ?_)
        refine lv_if_eq (tgt := 54) hx hb dX4_copy_44 (by decide) (fun c446 => ?_) (fun c446 => ?_)
        · replace h := ite_t c446 h
          refine lv_aload hx hb dX4_copy_54 (lv_at hl 1 rfl) ?_
          refine gf_X4_239 cx hw 49 rfl rfl dX4_copy_56 ?_
          refine lv_aload hx hb dX4_copy_59 (lv_at hl 0 rfl) ?_
          refine gf_X4_239 cx hw 51 rfl rfl dX4_copy_61 ?_
          refine lv_icmp_eq (tgt := 74) hx hb dX4_copy_64 (by decide) (fun c447 => ?_) (fun c447 => ?_)
          · replace h := ite_t c447 h
            refine lv_aload hx hb dX4_copy_74 (lv_at hl 1 rfl) ?_
            refine lv_iload_n hx hb dX4_copy_76 rfl (lv_at hl 4 rfl) ?_
            refine lv_iload hx hb dX4_copy_77 (lv_at hl 7 rfl) ?_
            obtain ⟨x448, g449, h⟩ := bd_ex h
            refine c_V (As := [.int p2, .int p5]) (rest := []) (w' := (XC g q d)) cx hw (c_X0_hasRange l g (qs 49 q) N p2 p5 (sAt (x_sheets d) 2) x448 g449) (cl_X4_242 cx.1.2.2.2.2 ⟨Nat.le_of_ble_eq_true rfl, Nat.le_of_ble_eq_true rfl⟩) (x_recv cx hw (ci := 0) rfl 49 rfl) (ct_X__49_50__S g q d ) hl.1 rfl rfl (Nat.le_of_ble_eq_true rfl) dX4_copy_79 ⟨Nat.le_of_ble_eq_true rfl, Nat.le_of_ble_eq_true rfl⟩ (st1 := [.int x448]) rfl (fun H locs hw => ?_)
            refine lv_if_eq (tgt := 97) hx hb dX4_copy_82 (by decide) (fun c450 => ?_) (fun c450 => ?_)
            · replace h := ite_t c450 h
              refine lv_aload_n hx hb dX4_copy_97 rfl (lv_at hl 2 rfl) ?_
              refine lv_ldc hx hb cx.1.2.2.2.1 (cx.1.2.2.2.2 _ tw_1_202) dX4_copy_98 ?_
              obtain ⟨x451, d452, g453, h⟩ := bd2_ex h
              refine c_V (As := [.int (-1000000001 : Int32)]) (rest := []) (w' := (XC g q d452)) cx hw (c_X4_tell l g q N (-1000000001 : Int32) d x451 d452 g453) (cl_X4_45 cx.1.2.2.2.2 ⟨Nat.le_of_ble_eq_true rfl, Nat.le_of_ble_eq_true rfl⟩) (x_recv cx hw (ci := 4) rfl 0 rfl) (Ct.all (XC_ll ..)) hl.1 rfl rfl (Nat.le_of_ble_eq_true rfl) dX4_copy_100 ⟨Nat.le_of_ble_eq_true rfl, Nat.le_of_ble_eq_true rfl⟩ (st1 := [.int x451]) rfl (fun H locs hw => ?_)
              exact r_i cx hr hlocks hw (pr1 h) (congrArg (fun z0 => (XC g q z0)) (pr2 h)) dX4_copy_103
            · replace h := ite_f c450 h
              refine lv_aload hx hb dX4_copy_85 (lv_at hl 0 rfl) ?_
              refine lv_iload hx hb dX4_copy_87 (lv_at hl 6 rfl) ?_
              refine lv_iload hx hb dX4_copy_89 (lv_at hl 7 rfl) ?_
              obtain ⟨x454, g455, h⟩ := bd_ex h
              refine c_V (As := [.int p4, .int p5]) (rest := []) (w' := (XC g q d)) cx hw (c_X0_hasRange l g (qs 51 q) N p4 p5 (sAt (x_sheets d) 3) x454 g455) (cl_X4_242 cx.1.2.2.2.2 ⟨Nat.le_of_ble_eq_true rfl, Nat.le_of_ble_eq_true rfl⟩) (x_recv cx hw (ci := 0) rfl 51 rfl) (ct_X__51_52__S g q d ) hl.1 rfl rfl (Nat.le_of_ble_eq_true rfl) dX4_copy_91 ⟨Nat.le_of_ble_eq_true rfl, Nat.le_of_ble_eq_true rfl⟩ (st1 := [.int x454]) rfl (fun H locs hw => ?_)
              refine lv_if_ne (tgt := 104) hx hb dX4_copy_94 (by decide) (fun c456 => ?_) (fun c456 => ?_)
              · replace h := ite_f c456 h
                refine lv_aload hx hb dX4_copy_104 (lv_at hl 1 rfl) ?_
                refine gf_X4_245 cx hw 49 rfl rfl dX4_copy_106 ?_
                refine lv_iload_n hx hb dX4_copy_109 rfl (lv_at hl 4 rfl) ?_
                refine lv_aload hx hb dX4_copy_110 (lv_at hl 0 rfl) ?_
                refine gf_X4_245 cx hw 51 rfl rfl dX4_copy_112 ?_
                refine lv_iload hx hb dX4_copy_115 (lv_at hl 6 rfl) ?_
                refine lv_iload hx hb dX4_copy_117 (lv_at hl 7 rfl) ?_
                have i457 := ckr_in h
                replace h := ckr_nx h
                refine va_copyl hx hb (cx.1.2.2.1.trans hl.1.symm) cx.1.2.2.2.1 (cx.1.2.2.2.2 _ tw_3_191) (cx.1.2.2.2.2 _ tw_2_180) (cx.1.2.2.2.2 _ tw_2_179) (cx.1.2.2.2.2 _ tw_1_10) cx.2.1 hw.1 hw.2.1 hw.2.2 50 52 1 1 rfl rfl rfl rfl rfl i457.1 i457.2.1 i457.2.2.1 i457.2.2.2.1 i457.2.2.2.2 (fun _ _ => rfl) (Nat.le_of_ble_eq_true rfl) (Nat.le_of_ble_eq_true rfl) dX4_copy_119 (fun H locs hP hD hS => ?_)
                have hw : Wd g _ _ s H locs := ⟨hP, hD, hS⟩
                obtain ⟨d458, ed458, h⟩ := lt_ex h
                have hw : Wd g (va_A ((XC g q d)) s.heap.size) ((XC g q d458)) s H locs := by rw [ed458]; exact hw
                refine lv_iload hx hb dX4_copy_122 (lv_at hl 7 rfl) ?_
                exact r_i cx hr hlocks hw (pr1 h) (congrArg (fun z0 => (XC g q z0)) (pr2 h)) dX4_copy_124
              · replace h := ite_t c456 h
                refine lv_aload_n hx hb dX4_copy_97 rfl (lv_at hl 2 rfl) ?_
                refine lv_ldc hx hb cx.1.2.2.2.1 (cx.1.2.2.2.2 _ tw_1_202) dX4_copy_98 ?_
                obtain ⟨x459, d460, g461, h⟩ := bd2_ex h
                refine c_V (As := [.int (-1000000001 : Int32)]) (rest := []) (w' := (XC g q d460)) cx hw (c_X4_tell l g q N (-1000000001 : Int32) d x459 d460 g461) (cl_X4_45 cx.1.2.2.2.2 ⟨Nat.le_of_ble_eq_true rfl, Nat.le_of_ble_eq_true rfl⟩) (x_recv cx hw (ci := 4) rfl 0 rfl) (Ct.all (XC_ll ..)) hl.1 rfl rfl (Nat.le_of_ble_eq_true rfl) dX4_copy_100 ⟨Nat.le_of_ble_eq_true rfl, Nat.le_of_ble_eq_true rfl⟩ (st1 := [.int x459]) rfl (fun H locs hw => ?_)
                exact r_i cx hr hlocks hw (pr1 h) (congrArg (fun z0 => (XC g q z0)) (pr2 h)) dX4_copy_103
          · replace h := ite_f c447 h
            refine lv_aload_n hx hb dX4_copy_67 rfl (lv_at hl 2 rfl) ?_
            refine lv_ldc hx hb cx.1.2.2.2.1 (cx.1.2.2.2.2 _ tw_2_70) dX4_copy_68 ?_
            obtain ⟨x462, d463, g464, h⟩ := bd2_ex h
            refine c_V (As := [.int (-1000000003 : Int32)]) (rest := []) (w' := (XC g q d463)) cx hw (c_X4_tell l g q N (-1000000003 : Int32) d x462 d463 g464) (cl_X4_45 cx.1.2.2.2.2 ⟨Nat.le_of_ble_eq_true rfl, Nat.le_of_ble_eq_true rfl⟩) (x_recv cx hw (ci := 4) rfl 0 rfl) (Ct.all (XC_ll ..)) hl.1 rfl rfl (Nat.le_of_ble_eq_true rfl) dX4_copy_70 ⟨Nat.le_of_ble_eq_true rfl, Nat.le_of_ble_eq_true rfl⟩ (st1 := [.int x462]) rfl (fun H locs hw => ?_)
            exact r_i cx hr hlocks hw (pr1 h) (congrArg (fun z0 => (XC g q z0)) (pr2 h)) dX4_copy_73
        · replace h := ite_f c446 h
          refine lv_aload_n hx hb dX4_copy_47 rfl (lv_at hl 2 rfl) ?_
          refine lv_ldc hx hb cx.1.2.2.2.1 (cx.1.2.2.2.2 _ tw_3_177) dX4_copy_48 ?_
          obtain ⟨x465, d466, g467, h⟩ := bd2_ex h
          refine c_V (As := [.int (-1000000006 : Int32)]) (rest := []) (w' := (XC g q d466)) cx hw (c_X4_tell l g q N (-1000000006 : Int32) d x465 d466 g467) (cl_X4_45 cx.1.2.2.2.2 ⟨Nat.le_of_ble_eq_true rfl, Nat.le_of_ble_eq_true rfl⟩) (x_recv cx hw (ci := 4) rfl 0 rfl) (Ct.all (XC_ll ..)) hl.1 rfl rfl (Nat.le_of_ble_eq_true rfl) dX4_copy_50 ⟨Nat.le_of_ble_eq_true rfl, Nat.le_of_ble_eq_true rfl⟩ (st1 := [.int x465]) rfl (fun H locs hw => ?_)
          exact r_i cx hr hlocks hw (pr1 h) (congrArg (fun z0 => (XC g q z0)) (pr2 h)) dX4_copy_53
  · replace h := sel_s h
    refine c_V (As := [.int p1]) (rest := []) (w' := (XC g q d)) cx hw (c_X4_sheetAt l g q N p1 d (some 3) g2) (cl_X4_219 cx.1.2.2.2.2 ⟨Nat.le_of_ble_eq_true rfl, Nat.le_of_ble_eq_true rfl⟩) (x_recv cx hw (ci := 4) rfl 0 rfl) (Ct.all (XC_ll ..)) hl.1 rfl rfl (Nat.le_of_ble_eq_true rfl) dX4_copy_2 ⟨Nat.le_of_ble_eq_true rfl, Nat.le_of_ble_eq_true rfl⟩ (st1 := [.ref (qs 51 q 0)]) rfl (fun H locs hw => ?_)
    refine lv_astore (lv' := [(6, .ref (qs 51 q 0)), (0, .ref (q 0)), (1, .int p1), (2, .int p2), (3, .int p3), (4, .int p4), (5, .int p5)]) hx hb dX4_copy_5 hl (by decide) rfl (fun ls hl => ?_)
    refine lv_aload_n hx hb dX4_copy_7 rfl (lv_at hl 1 rfl) ?_
    refine lv_iload_n hx hb dX4_copy_8 rfl (lv_at hl 4 rfl) ?_
    obtain ⟨r498, g499, h⟩ := bd_ex h
    rcases sh_cases g499 with e501 | e501 | e501 | e501 | e501 <;> subst e501
    · replace h := sel_n h
      refine c_V (As := [.int p3]) (rest := []) (w' := (XC g q d)) cx hw (c_X4_sheetAt l g q N p3 d none g499) (cl_X4_219 cx.1.2.2.2.2 ⟨Nat.le_of_ble_eq_true rfl, Nat.le_of_ble_eq_true rfl⟩) (x_recv cx hw (ci := 4) rfl 0 rfl) (Ct.all (XC_ll ..)) hl.1 rfl rfl (Nat.le_of_ble_eq_true rfl) dX4_copy_9 ⟨Nat.le_of_ble_eq_true rfl, Nat.le_of_ble_eq_true rfl⟩ (st1 := [.null]) rfl (fun H locs hw => ?_)
      refine lv_astoreN (lv' := [(7, .null), (6, .ref (qs 51 q 0)), (0, .ref (q 0)), (1, .int p1), (2, .int p2), (3, .int p3), (4, .int p4), (5, .int p5)]) hx hb dX4_copy_12 hl (by decide) rfl (fun ls hl => ?_)
      refine lv_aload hx hb dX4_copy_14 (lv_at hl 1 rfl) ?_
      refine lv_ifnull hx hb dX4_copy_16 ?_
      refine lv_aloadN hx hb dX4_copy_19 (lv_at hl 0 rfl) ?_
      refine lv_ifnonnullN hx hb dX4_copy_21 ?_
      refine lv_aload_n hx hb dX4_copy_24 rfl (lv_at hl 2 rfl) ?_
      refine lv_ldc hx hb cx.1.2.2.2.1 (cx.1.2.2.2.2 _ tw_1_202) dX4_copy_25 ?_
      obtain ⟨x502, d503, g504, h⟩ := bd2_ex h
      refine c_V (As := [.int (-1000000001 : Int32)]) (rest := []) (w' := (XC g q d503)) cx hw (c_X4_tell l g q N (-1000000001 : Int32) d x502 d503 g504) (cl_X4_45 cx.1.2.2.2.2 ⟨Nat.le_of_ble_eq_true rfl, Nat.le_of_ble_eq_true rfl⟩) (x_recv cx hw (ci := 4) rfl 0 rfl) (Ct.all (XC_ll ..)) hl.1 rfl rfl (Nat.le_of_ble_eq_true rfl) dX4_copy_27 ⟨Nat.le_of_ble_eq_true rfl, Nat.le_of_ble_eq_true rfl⟩ (st1 := [.int x502]) rfl (fun H locs hw => ?_)
      exact r_i cx hr hlocks hw (pr1 h) (congrArg (fun z0 => (XC g q z0)) (pr2 h)) dX4_copy_30
    · replace h := sel_s h
      refine c_V (As := [.int p3]) (rest := []) (w' := (XC g q d)) cx hw (c_X4_sheetAt l g q N p3 d (some 0) g499) (cl_X4_219 cx.1.2.2.2.2 ⟨Nat.le_of_ble_eq_true rfl, Nat.le_of_ble_eq_true rfl⟩) (x_recv cx hw (ci := 4) rfl 0 rfl) (Ct.all (XC_ll ..)) hl.1 rfl rfl (Nat.le_of_ble_eq_true rfl) dX4_copy_9 ⟨Nat.le_of_ble_eq_true rfl, Nat.le_of_ble_eq_true rfl⟩ (st1 := [.ref (qs 45 q 0)]) rfl (fun H locs hw => ?_)
      refine lv_astore (lv' := [(7, .ref (qs 45 q 0)), (6, .ref (qs 51 q 0)), (0, .ref (q 0)), (1, .int p1), (2, .int p2), (3, .int p3), (4, .int p4), (5, .int p5)]) hx hb dX4_copy_12 hl (by decide) rfl (fun ls hl => ?_)
      refine lv_aload hx hb dX4_copy_14 (lv_at hl 1 rfl) ?_
      refine lv_ifnull hx hb dX4_copy_16 ?_
      refine lv_aload hx hb dX4_copy_19 (lv_at hl 0 rfl) ?_
      refine lv_ifnonnull (tgt := 31) hx hb dX4_copy_21 (by decide) ?_
      refine lv_aload hx hb dX4_copy_31 (lv_at hl 1 rfl) ?_
      obtain ⟨x505, g506, h⟩ := bd_ex h
      refine c_V (As := []) (rest := []) (w' := (XC g q d)) cx hw (c_X0_isMissing l g (qs 51 q) N  (sAt (x_sheets d) 3) x505 g506) (cl_X4_227 cx.1.2.2.2.2 ⟨Nat.le_of_ble_eq_true rfl, Nat.le_of_ble_eq_true rfl⟩) (x_recv cx hw (ci := 0) rfl 51 rfl) (ct_X__51_52__S g q d ) hl.1 rfl rfl (Nat.le_of_ble_eq_true rfl) dX4_copy_33 ⟨Nat.le_of_ble_eq_true rfl, Nat.le_of_ble_eq_true rfl⟩ (st1 := [.int x505]) rfl (fun H locs hw => ?_)
      refine lv_if_ne (tgt := 47) hx hb dX4_copy_36 (by decide) (fun c507 => ?_) (fun c507 => ?_)
      · replace h := ite_f c507 h
        refine lv_aload_n hx hb dX4_copy_47 rfl (lv_at hl 2 rfl) ?_
        refine lv_ldc hx hb cx.1.2.2.2.1 (cx.1.2.2.2.2 _ tw_3_177) dX4_copy_48 ?_
        obtain ⟨x508, d509, g510, h⟩ := bd2_ex h
        refine c_V (As := [.int (-1000000006 : Int32)]) (rest := []) (w' := (XC g q d509)) cx hw (c_X4_tell l g q N (-1000000006 : Int32) d x508 d509 g510) (cl_X4_45 cx.1.2.2.2.2 ⟨Nat.le_of_ble_eq_true rfl, Nat.le_of_ble_eq_true rfl⟩) (x_recv cx hw (ci := 4) rfl 0 rfl) (Ct.all (XC_ll ..)) hl.1 rfl rfl (Nat.le_of_ble_eq_true rfl) dX4_copy_50 ⟨Nat.le_of_ble_eq_true rfl, Nat.le_of_ble_eq_true rfl⟩ (st1 := [.int x508]) rfl (fun H locs hw => ?_)
        exact r_i cx hr hlocks hw (pr1 h) (congrArg (fun z0 => (XC g q z0)) (pr2 h)) dX4_copy_53
      · replace h := ite_t c507 h
        refine lv_aload hx hb dX4_copy_39 (lv_at hl 0 rfl) ?_
        obtain ⟨x511, g512, h⟩ := bd_ex h
        refine c_V (As := []) (rest := []) (w' := (XC g q d)) cx hw (c_X0_isMissing l g (qs 45 q) N  (sAt (x_sheets d) 0) x511 g512) (cl_X4_227 cx.1.2.2.2.2 ⟨Nat.le_of_ble_eq_true rfl, Nat.le_of_ble_eq_true rfl⟩) (x_recv cx hw (ci := 0) rfl 45 rfl) (ct_X__45_46__S g q d ) hl.1 rfl rfl (Nat.le_of_ble_eq_true rfl) dX4_copy_41 ⟨Nat.le_of_ble_eq_true rfl, Nat.le_of_ble_eq_true rfl⟩ (st1 := [.int x511]) rfl (fun H locs hw => ?_)
        refine lv_if_eq (tgt := 54) hx hb dX4_copy_44 (by decide) (fun c513 => ?_) (fun c513 => ?_)
        · replace h := ite_t c513 h
          refine lv_aload hx hb dX4_copy_54 (lv_at hl 1 rfl) ?_
          refine gf_X4_239 cx hw 51 rfl rfl dX4_copy_56 ?_
          refine lv_aload hx hb dX4_copy_59 (lv_at hl 0 rfl) ?_
          refine gf_X4_239 cx hw 45 rfl rfl dX4_copy_61 ?_
          refine lv_icmp_eq (tgt := 74) hx hb dX4_copy_64 (by decide) (fun c514 => ?_) (fun c514 => ?_)
          · replace h := ite_t c514 h
            refine lv_aload hx hb dX4_copy_74 (lv_at hl 1 rfl) ?_
            refine lv_iload_n hx hb dX4_copy_76 rfl (lv_at hl 4 rfl) ?_
            refine lv_iload hx hb dX4_copy_77 (lv_at hl 7 rfl) ?_
            obtain ⟨x515, g516, h⟩ := bd_ex h
            refine c_V (As := [.int p2, .int p5]) (rest := []) (w' := (XC g q d)) cx hw (c_X0_hasRange l g (qs 51 q) N p2 p5 (sAt (x_sheets d) 3) x515 g516) (cl_X4_242 cx.1.2.2.2.2 ⟨Nat.le_of_ble_eq_true rfl, Nat.le_of_ble_eq_true rfl⟩) (x_recv cx hw (ci := 0) rfl 51 rfl) (ct_X__51_52__S g q d ) hl.1 rfl rfl (Nat.le_of_ble_eq_true rfl) dX4_copy_79 ⟨Nat.le_of_ble_eq_true rfl, Nat.le_of_ble_eq_true rfl⟩ (st1 := [.int x515]) rfl (fun H locs hw => ?_)
            refine lv_if_eq (tgt := 97) hx hb dX4_copy_82 (by decide) (fun c517 => ?_) (fun c517 => ?_)
            · replace h := ite_t c517 h
              refine lv_aload_n hx hb dX4_copy_97 rfl (lv_at hl 2 rfl) ?_
              refine lv_ldc hx hb cx.1.2.2.2.1 (cx.1.2.2.2.2 _ tw_1_202) dX4_copy_98 ?_
              obtain ⟨x518, d519, g520, h⟩ := bd2_ex h
              refine c_V (As := [.int (-1000000001 : Int32)]) (rest := []) (w' := (XC g q d519)) cx hw (c_X4_tell l g q N (-1000000001 : Int32) d x518 d519 g520) (cl_X4_45 cx.1.2.2.2.2 ⟨Nat.le_of_ble_eq_true rfl, Nat.le_of_ble_eq_true rfl⟩) (x_recv cx hw (ci := 4) rfl 0 rfl) (Ct.all (XC_ll ..)) hl.1 rfl rfl (Nat.le_of_ble_eq_true rfl) dX4_copy_100 ⟨Nat.le_of_ble_eq_true rfl, Nat.le_of_ble_eq_true rfl⟩ (st1 := [.int x518]) rfl (fun H locs hw => ?_)
              exact r_i cx hr hlocks hw (pr1 h) (congrArg (fun z0 => (XC g q z0)) (pr2 h)) dX4_copy_103
            · replace h := ite_f c517 h
              refine lv_aload hx hb dX4_copy_85 (lv_at hl 0 rfl) ?_
              refine lv_iload hx hb dX4_copy_87 (lv_at hl 6 rfl) ?_
              refine lv_iload hx hb dX4_copy_89 (lv_at hl 7 rfl) ?_
              obtain ⟨x521, g522, h⟩ := bd_ex h
              refine c_V (As := [.int p4, .int p5]) (rest := []) (w' := (XC g q d)) cx hw (c_X0_hasRange l g (qs 45 q) N p4 p5 (sAt (x_sheets d) 0) x521 g522) (cl_X4_242 cx.1.2.2.2.2 ⟨Nat.le_of_ble_eq_true rfl, Nat.le_of_ble_eq_true rfl⟩) (x_recv cx hw (ci := 0) rfl 45 rfl) (ct_X__45_46__S g q d ) hl.1 rfl rfl (Nat.le_of_ble_eq_true rfl) dX4_copy_91 ⟨Nat.le_of_ble_eq_true rfl, Nat.le_of_ble_eq_true rfl⟩ (st1 := [.int x521]) rfl (fun H locs hw => ?_)
              refine lv_if_ne (tgt := 104) hx hb dX4_copy_94 (by decide) (fun c523 => ?_) (fun c523 => ?_)
              · replace h := ite_f c523 h
                refine lv_aload hx hb dX4_copy_104 (lv_at hl 1 rfl) ?_
                refine gf_X4_245 cx hw 51 rfl rfl dX4_copy_106 ?_
                refine lv_iload_n hx hb dX4_copy_109 rfl (lv_at hl 4 rfl) ?_
                refine lv_aload hx hb dX4_copy_110 (lv_at hl 0 rfl) ?_
                refine gf_X4_245 cx hw 45 rfl rfl dX4_copy_112 ?_
                refine lv_iload hx hb dX4_copy_115 (lv_at hl 6 rfl) ?_
                refine lv_iload hx hb dX4_copy_117 (lv_at hl 7 rfl) ?_
                have i524 := ckr_in h
                replace h := ckr_nx h
                refine va_copyl hx hb (cx.1.2.2.1.trans hl.1.symm) cx.1.2.2.2.1 (cx.1.2.2.2.2 _ tw_3_191) (cx.1.2.2.2.2 _ tw_2_180) (cx.1.2.2.2.2 _ tw_2_179) (cx.1.2.2.2.2 _ tw_1_10) cx.2.1 hw.1 hw.2.1 hw.2.2 52 46 1 1 rfl rfl rfl rfl rfl i524.1 i524.2.1 i524.2.2.1 i524.2.2.2.1 i524.2.2.2.2 (fun _ _ => rfl) (Nat.le_of_ble_eq_true rfl) (Nat.le_of_ble_eq_true rfl) dX4_copy_119 (fun H locs hP hD hS => ?_)
                have hw : Wd g _ _ s H locs := ⟨hP, hD, hS⟩
                obtain ⟨d525, ed525, h⟩ := lt_ex h
                have hw : Wd g (va_A ((XC g q d)) s.heap.size) ((XC g q d525)) s H locs := by rw [ed525]; exact hw
                refine lv_iload hx hb dX4_copy_122 (lv_at hl 7 rfl) ?_
                exact r_i cx hr hlocks hw (pr1 h) (congrArg (fun z0 => (XC g q z0)) (pr2 h)) dX4_copy_124
              · replace h := ite_t c523 h
                refine lv_aload_n hx hb dX4_copy_97 rfl (lv_at hl 2 rfl) ?_
                refine lv_ldc hx hb cx.1.2.2.2.1 (cx.1.2.2.2.2 _ tw_1_202) dX4_copy_98 ?_
                obtain ⟨x526, d527, g528, h⟩ := bd2_ex h
                refine c_V (As := [.int (-1000000001 : Int32)]) (rest := []) (w' := (XC g q d527)) cx hw (c_X4_tell l g q N (-1000000001 : Int32) d x526 d527 g528) (cl_X4_45 cx.1.2.2.2.2 ⟨Nat.le_of_ble_eq_true rfl, Nat.le_of_ble_eq_true rfl⟩) (x_recv cx hw (ci := 4) rfl 0 rfl) (Ct.all (XC_ll ..)) hl.1 rfl rfl (Nat.le_of_ble_eq_true rfl) dX4_copy_100 ⟨Nat.le_of_ble_eq_true rfl, Nat.le_of_ble_eq_true rfl⟩ (st1 := [.int x526]) rfl (fun H locs hw => ?_)
                exact r_i cx hr hlocks hw (pr1 h) (congrArg (fun z0 => (XC g q z0)) (pr2 h)) dX4_copy_103
          · replace h := ite_f c514 h
            refine lv_aload_n hx hb dX4_copy_67 rfl (lv_at hl 2 rfl) ?_
            refine lv_ldc hx hb cx.1.2.2.2.1 (cx.1.2.2.2.2 _ tw_2_70) dX4_copy_68 ?_
            obtain ⟨x529, d530, g531, h⟩ := bd2_ex h
            refine c_V (As := [.int (-1000000003 : Int32)]) (rest := []) (w' := (XC g q d530)) cx hw (c_X4_tell l g q N (-1000000003 : Int32) d x529 d530 g531) (cl_X4_45 cx.1.2.2.2.2 ⟨Nat.le_of_ble_eq_true rfl, Nat.le_of_ble_eq_true rfl⟩) (x_recv cx hw (ci := 4) rfl 0 rfl) (Ct.all (XC_ll ..)) hl.1 rfl rfl (Nat.le_of_ble_eq_true rfl) dX4_copy_70 ⟨Nat.le_of_ble_eq_true rfl, Nat.le_of_ble_eq_true rfl⟩ (st1 := [.int x529]) rfl (fun H locs hw => ?_)
            exact r_i cx hr hlocks hw (pr1 h) (congrArg (fun z0 => (XC g q z0)) (pr2 h)) dX4_copy_73
        · replace h := ite_f c513 h
          refine lv_aload_n hx hb dX4_copy_47 rfl (lv_at hl 2 rfl) ?_
          refine lv_ldc hx hb cx.1.2.2.2.1 (cx.1.2.2.2.2 _ tw_3_177) dX4_copy_48 ?_
          obtain ⟨x532, d533, g534, h⟩ := bd2_ex h
          refine c_V (As := [.int (-1000000006 : Int32)]) (rest := []) (w' := (XC g q d533)) cx hw (c_X4_tell l g q N (-1000000006 : Int32) d x532 d533 g534) (cl_X4_45 cx.1.2.2.2.2 ⟨Nat.le_of_ble_eq_true rfl, Nat.le_of_ble_eq_true rfl⟩) (x_recv cx hw (ci := 4) rfl 0 rfl) (Ct.all (XC_ll ..)) hl.1 rfl rfl (Nat.le_of_ble_eq_true rfl) dX4_copy_50 ⟨Nat.le_of_ble_eq_true rfl, Nat.le_of_ble_eq_true rfl⟩ (st1 := [.int x532]) rfl (fun H locs hw => ?_)
          exact r_i cx hr hlocks hw (pr1 h) (congrArg (fun z0 => (XC g q z0)) (pr2 h)) dX4_copy_53
    · replace h := sel_s h
      refine c_V (As := [.int p3]) (rest := []) (w' := (XC g q d)) cx hw (c_X4_sheetAt l g q N p3 d (some 1) g499) (cl_X4_219 cx.1.2.2.2.2 ⟨Nat.le_of_ble_eq_true rfl, Nat.le_of_ble_eq_true rfl⟩) (x_recv cx hw (ci := 4) rfl 0 rfl) (Ct.all (XC_ll ..)) hl.1 rfl rfl (Nat.le_of_ble_eq_true rfl) dX4_copy_9 ⟨Nat.le_of_ble_eq_true rfl, Nat.le_of_ble_eq_true rfl⟩ (st1 := [.ref (qs 47 q 0)]) rfl (fun H locs hw => ?_)
      refine lv_astore (lv' := [(7, .ref (qs 47 q 0)), (6, .ref (qs 51 q 0)), (0, .ref (q 0)), (1, .int p1), (2, .int p2), (3, .int p3), (4, .int p4), (5, .int p5)]) hx hb dX4_copy_12 hl (by decide) rfl (fun ls hl => ?_)
      refine lv_aload hx hb dX4_copy_14 (lv_at hl 1 rfl) ?_
      refine lv_ifnull hx hb dX4_copy_16 ?_
      refine lv_aload hx hb dX4_copy_19 (lv_at hl 0 rfl) ?_
      refine lv_ifnonnull (tgt := 31) hx hb dX4_copy_21 (by decide) ?_
      refine lv_aload hx hb dX4_copy_31 (lv_at hl 1 rfl) ?_
      obtain ⟨x535, g536, h⟩ := bd_ex h
      refine c_V (As := []) (rest := []) (w' := (XC g q d)) cx hw (c_X0_isMissing l g (qs 51 q) N  (sAt (x_sheets d) 3) x535 g536) (cl_X4_227 cx.1.2.2.2.2 ⟨Nat.le_of_ble_eq_true rfl, Nat.le_of_ble_eq_true rfl⟩) (x_recv cx hw (ci := 0) rfl 51 rfl) (ct_X__51_52__S g q d ) hl.1 rfl rfl (Nat.le_of_ble_eq_true rfl) dX4_copy_33 ⟨Nat.le_of_ble_eq_true rfl, Nat.le_of_ble_eq_true rfl⟩ (st1 := [.int x535]) rfl (fun H locs hw => ?_)
      refine lv_if_ne (tgt := 47) hx hb dX4_copy_36 (by decide) (fun c537 => ?_) (fun c537 => ?_)
      · replace h := ite_f c537 h
        refine lv_aload_n hx hb dX4_copy_47 rfl (lv_at hl 2 rfl) ?_
        refine lv_ldc hx hb cx.1.2.2.2.1 (cx.1.2.2.2.2 _ tw_3_177) dX4_copy_48 ?_
        obtain ⟨x538, d539, g540, h⟩ := bd2_ex h
        refine c_V (As := [.int (-1000000006 : Int32)]) (rest := []) (w' := (XC g q d539)) cx hw (c_X4_tell l g q N (-1000000006 : Int32) d x538 d539 g540) (cl_X4_45 cx.1.2.2.2.2 ⟨Nat.le_of_ble_eq_true rfl, Nat.le_of_ble_eq_true rfl⟩) (x_recv cx hw (ci := 4) rfl 0 rfl) (Ct.all (XC_ll ..)) hl.1 rfl rfl (Nat.le_of_ble_eq_true rfl) dX4_copy_50 ⟨Nat.le_of_ble_eq_true rfl, Nat.le_of_ble_eq_true rfl⟩ (st1 := [.int x538]) rfl (fun H locs hw => ?_)
        exact r_i cx hr hlocks hw (pr1 h) (congrArg (fun z0 => (XC g q z0)) (pr2 h)) dX4_copy_53
      · replace h := ite_t c537 h
        refine lv_aload hx hb dX4_copy_39 (lv_at hl 0 rfl) ?_
        obtain ⟨x541, g542, h⟩ := bd_ex h
        refine c_V (As := []) (rest := []) (w' := (XC g q d)) cx hw (c_X0_isMissing l g (qs 47 q) N  (sAt (x_sheets d) 1) x541 g542) (cl_X4_227 cx.1.2.2.2.2 ⟨Nat.le_of_ble_eq_true rfl, Nat.le_of_ble_eq_true rfl⟩) (x_recv cx hw (ci := 0) rfl 47 rfl) (ct_X__47_48__S g q d ) hl.1 rfl rfl (Nat.le_of_ble_eq_true rfl) dX4_copy_41 ⟨Nat.le_of_ble_eq_true rfl, Nat.le_of_ble_eq_true rfl⟩ (st1 := [.int x541]) rfl (fun H locs hw => ?_)
        refine lv_if_eq (tgt := 54) hx hb dX4_copy_44 (by decide) (fun c543 => ?_) (fun c543 => ?_)
        · replace h := ite_t c543 h
          refine lv_aload hx hb dX4_copy_54 (lv_at hl 1 rfl) ?_
          refine gf_X4_239 cx hw 51 rfl rfl dX4_copy_56 ?_
          refine lv_aload hx hb dX4_copy_59 (lv_at hl 0 rfl) ?_
          refine gf_X4_239 cx hw 47 rfl rfl dX4_copy_61 ?_
          refine lv_icmp_eq (tgt := 74) hx hb dX4_copy_64 (by decide) (fun c544 => ?_) (fun c544 => ?_)
          · replace h := ite_t c544 h
            refine lv_aload hx hb dX4_copy_74 (lv_at hl 1 rfl) ?_
            refine lv_iload_n hx hb dX4_copy_76 rfl (lv_at hl 4 rfl) ?_
            refine lv_iload hx hb dX4_copy_77 (lv_at hl 7 rfl) ?_
            obtain ⟨x545, g546, h⟩ := bd_ex h
            refine c_V (As := [.int p2, .int p5]) (rest := []) (w' := (XC g q d)) cx hw (c_X0_hasRange l g (qs 51 q) N p2 p5 (sAt (x_sheets d) 3) x545 g546) (cl_X4_242 cx.1.2.2.2.2 ⟨Nat.le_of_ble_eq_true rfl, Nat.le_of_ble_eq_true rfl⟩) (x_recv cx hw (ci := 0) rfl 51 rfl) (ct_X__51_52__S g q d ) hl.1 rfl rfl (Nat.le_of_ble_eq_true rfl) dX4_copy_79 ⟨Nat.le_of_ble_eq_true rfl, Nat.le_of_ble_eq_true rfl⟩ (st1 := [.int x545]) rfl (fun H locs hw => ?_)
            refine lv_if_eq (tgt := 97) hx hb dX4_copy_82 (by decide) (fun c547 => ?_) (fun c547 => ?_)
            · replace h := ite_t c547 h
              refine lv_aload_n hx hb dX4_copy_97 rfl (lv_at hl 2 rfl) ?_
              refine lv_ldc hx hb cx.1.2.2.2.1 (cx.1.2.2.2.2 _ tw_1_202) dX4_copy_98 ?_
              obtain ⟨x548, d549, g550, h⟩ := bd2_ex h
              refine c_V (As := [.int (-1000000001 : Int32)]) (rest := []) (w' := (XC g q d549)) cx hw (c_X4_tell l g q N (-1000000001 : Int32) d x548 d549 g550) (cl_X4_45 cx.1.2.2.2.2 ⟨Nat.le_of_ble_eq_true rfl, Nat.le_of_ble_eq_true rfl⟩) (x_recv cx hw (ci := 4) rfl 0 rfl) (Ct.all (XC_ll ..)) hl.1 rfl rfl (Nat.le_of_ble_eq_true rfl) dX4_copy_100 ⟨Nat.le_of_ble_eq_true rfl, Nat.le_of_ble_eq_true rfl⟩ (st1 := [.int x548]) rfl (fun H locs hw => ?_)
              exact r_i cx hr hlocks hw (pr1 h) (congrArg (fun z0 => (XC g q z0)) (pr2 h)) dX4_copy_103
            · replace h := ite_f c547 h
              refine lv_aload hx hb dX4_copy_85 (lv_at hl 0 rfl) ?_
              refine lv_iload hx hb dX4_copy_87 (lv_at hl 6 rfl) ?_
              refine lv_iload hx hb dX4_copy_89 (lv_at hl 7 rfl) ?_
              obtain ⟨x551, g552, h⟩ := bd_ex h
              refine c_V (As := [.int p4, .int p5]) (rest := []) (w' := (XC g q d)) cx hw (c_X0_hasRange l g (qs 47 q) N p4 p5 (sAt (x_sheets d) 1) x551 g552) (cl_X4_242 cx.1.2.2.2.2 ⟨Nat.le_of_ble_eq_true rfl, Nat.le_of_ble_eq_true rfl⟩) (x_recv cx hw (ci := 0) rfl 47 rfl) (ct_X__47_48__S g q d ) hl.1 rfl rfl (Nat.le_of_ble_eq_true rfl) dX4_copy_91 ⟨Nat.le_of_ble_eq_true rfl, Nat.le_of_ble_eq_true rfl⟩ (st1 := [.int x551]) rfl (fun H locs hw => ?_)
              refine lv_if_ne (tgt := 104) hx hb dX4_copy_94 (by decide) (fun c553 => ?_) (fun c553 => ?_)
              · replace h := ite_f c553 h
                refine lv_aload hx hb dX4_copy_104 (lv_at hl 1 rfl) ?_
                refine gf_X4_245 cx hw 51 rfl rfl dX4_copy_106 ?_
                refine lv_iload_n hx hb dX4_copy_109 rfl (lv_at hl 4 rfl) ?_
                refine lv_aload hx hb dX4_copy_110 (lv_at hl 0 rfl) ?_
                refine gf_X4_245 cx hw 47 rfl rfl dX4_copy_112 ?_
                refine lv_iload hx hb dX4_copy_115 (lv_at hl 6 rfl) ?_
                refine lv_iload hx hb dX4_copy_117 (lv_at hl 7 rfl) ?_
                have i554 := ckr_in h
                replace h := ckr_nx h
                refine va_copyl hx hb (cx.1.2.2.1.trans hl.1.symm) cx.1.2.2.2.1 (cx.1.2.2.2.2 _ tw_3_191) (cx.1.2.2.2.2 _ tw_2_180) (cx.1.2.2.2.2 _ tw_2_179) (cx.1.2.2.2.2 _ tw_1_10) cx.2.1 hw.1 hw.2.1 hw.2.2 52 48 1 1 rfl rfl rfl rfl rfl i554.1 i554.2.1 i554.2.2.1 i554.2.2.2.1 i554.2.2.2.2 (fun _ _ => rfl) (Nat.le_of_ble_eq_true rfl) (Nat.le_of_ble_eq_true rfl) dX4_copy_119 (fun H locs hP hD hS => ?_)
                have hw : Wd g _ _ s H locs := ⟨hP, hD, hS⟩
                obtain ⟨d555, ed555, h⟩ := lt_ex h
                have hw : Wd g (va_A ((XC g q d)) s.heap.size) ((XC g q d555)) s H locs := by rw [ed555]; exact hw
                refine lv_iload hx hb dX4_copy_122 (lv_at hl 7 rfl) ?_
                exact r_i cx hr hlocks hw (pr1 h) (congrArg (fun z0 => (XC g q z0)) (pr2 h)) dX4_copy_124
              · replace h := ite_t c553 h
                refine lv_aload_n hx hb dX4_copy_97 rfl (lv_at hl 2 rfl) ?_
                refine lv_ldc hx hb cx.1.2.2.2.1 (cx.1.2.2.2.2 _ tw_1_202) dX4_copy_98 ?_
                obtain ⟨x556, d557, g558, h⟩ := bd2_ex h
                refine c_V (As := [.int (-1000000001 : Int32)]) (rest := []) (w' := (XC g q d557)) cx hw (c_X4_tell l g q N (-1000000001 : Int32) d x556 d557 g558) (cl_X4_45 cx.1.2.2.2.2 ⟨Nat.le_of_ble_eq_true rfl, Nat.le_of_ble_eq_true rfl⟩) (x_recv cx hw (ci := 4) rfl 0 rfl) (Ct.all (XC_ll ..)) hl.1 rfl rfl (Nat.le_of_ble_eq_true rfl) dX4_copy_100 ⟨Nat.le_of_ble_eq_true rfl, Nat.le_of_ble_eq_true rfl⟩ (st1 := [.int x556]) rfl (fun H locs hw => ?_)
                exact r_i cx hr hlocks hw (pr1 h) (congrArg (fun z0 => (XC g q z0)) (pr2 h)) dX4_copy_103
          · replace h := ite_f c544 h
            refine lv_aload_n hx hb dX4_copy_67 rfl (lv_at hl 2 rfl) ?_
            refine lv_ldc hx hb cx.1.2.2.2.1 (cx.1.2.2.2.2 _ tw_2_70) dX4_copy_68 ?_
            obtain ⟨x559, d560, g561, h⟩ := bd2_ex h
            refine c_V (As := [.int (-1000000003 : Int32)]) (rest := []) (w' := (XC g q d560)) cx hw (c_X4_tell l g q N (-1000000003 : Int32) d x559 d560 g561) (cl_X4_45 cx.1.2.2.2.2 ⟨Nat.le_of_ble_eq_true rfl, Nat.le_of_ble_eq_true rfl⟩) (x_recv cx hw (ci := 4) rfl 0 rfl) (Ct.all (XC_ll ..)) hl.1 rfl rfl (Nat.le_of_ble_eq_true rfl) dX4_copy_70 ⟨Nat.le_of_ble_eq_true rfl, Nat.le_of_ble_eq_true rfl⟩ (st1 := [.int x559]) rfl (fun H locs hw => ?_)
            exact r_i cx hr hlocks hw (pr1 h) (congrArg (fun z0 => (XC g q z0)) (pr2 h)) dX4_copy_73
        · replace h := ite_f c543 h
          refine lv_aload_n hx hb dX4_copy_47 rfl (lv_at hl 2 rfl) ?_
          refine lv_ldc hx hb cx.1.2.2.2.1 (cx.1.2.2.2.2 _ tw_3_177) dX4_copy_48 ?_
          obtain ⟨x562, d563, g564, h⟩ := bd2_ex h
          refine c_V (As := [.int (-1000000006 : Int32)]) (rest := []) (w' := (XC g q d563)) cx hw (c_X4_tell l g q N (-1000000006 : Int32) d x562 d563 g564) (cl_X4_45 cx.1.2.2.2.2 ⟨Nat.le_of_ble_eq_true rfl, Nat.le_of_ble_eq_true rfl⟩) (x_recv cx hw (ci := 4) rfl 0 rfl) (Ct.all (XC_ll ..)) hl.1 rfl rfl (Nat.le_of_ble_eq_true rfl) dX4_copy_50 ⟨Nat.le_of_ble_eq_true rfl, Nat.le_of_ble_eq_true rfl⟩ (st1 := [.int x562]) rfl (fun H locs hw => ?_)
          exact r_i cx hr hlocks hw (pr1 h) (congrArg (fun z0 => (XC g q z0)) (pr2 h)) dX4_copy_53
    · replace h := sel_s h
      refine c_V (As := [.int p3]) (rest := []) (w' := (XC g q d)) cx hw (c_X4_sheetAt l g q N p3 d (some 2) g499) (cl_X4_219 cx.1.2.2.2.2 ⟨Nat.le_of_ble_eq_true rfl, Nat.le_of_ble_eq_true rfl⟩) (x_recv cx hw (ci := 4) rfl 0 rfl) (Ct.all (XC_ll ..)) hl.1 rfl rfl (Nat.le_of_ble_eq_true rfl) dX4_copy_9 ⟨Nat.le_of_ble_eq_true rfl, Nat.le_of_ble_eq_true rfl⟩ (st1 := [.ref (qs 49 q 0)]) rfl (fun H locs hw => ?_)
      refine lv_astore (lv' := [(7, .ref (qs 49 q 0)), (6, .ref (qs 51 q 0)), (0, .ref (q 0)), (1, .int p1), (2, .int p2), (3, .int p3), (4, .int p4), (5, .int p5)]) hx hb dX4_copy_12 hl (by decide) rfl (fun ls hl => ?_)
      refine lv_aload hx hb dX4_copy_14 (lv_at hl 1 rfl) ?_
      refine lv_ifnull hx hb dX4_copy_16 ?_
      refine lv_aload hx hb dX4_copy_19 (lv_at hl 0 rfl) ?_
      refine lv_ifnonnull (tgt := 31) hx hb dX4_copy_21 (by decide) ?_
      refine lv_aload hx hb dX4_copy_31 (lv_at hl 1 rfl) ?_
      obtain ⟨x565, g566, h⟩ := bd_ex h
      refine c_V (As := []) (rest := []) (w' := (XC g q d)) cx hw (c_X0_isMissing l g (qs 51 q) N  (sAt (x_sheets d) 3) x565 g566) (cl_X4_227 cx.1.2.2.2.2 ⟨Nat.le_of_ble_eq_true rfl, Nat.le_of_ble_eq_true rfl⟩) (x_recv cx hw (ci := 0) rfl 51 rfl) (ct_X__51_52__S g q d ) hl.1 rfl rfl (Nat.le_of_ble_eq_true rfl) dX4_copy_33 ⟨Nat.le_of_ble_eq_true rfl, Nat.le_of_ble_eq_true rfl⟩ (st1 := [.int x565]) rfl (fun H locs hw => ?_)
      refine lv_if_ne (tgt := 47) hx hb dX4_copy_36 (by decide) (fun c567 => ?_) (fun c567 => ?_)
      · replace h := ite_f c567 h
        refine lv_aload_n hx hb dX4_copy_47 rfl (lv_at hl 2 rfl) ?_
        refine lv_ldc hx hb cx.1.2.2.2.1 (cx.1.2.2.2.2 _ tw_3_177) dX4_copy_48 ?_
        obtain ⟨x568, d569, g570, h⟩ := bd2_ex h
        refine c_V (As := [.int (-1000000006 : Int32)]) (rest := []) (w' := (XC g q d569)) cx hw (c_X4_tell l g q N (-1000000006 : Int32) d x568 d569 g570) (cl_X4_45 cx.1.2.2.2.2 ⟨Nat.le_of_ble_eq_true rfl, Nat.le_of_ble_eq_true rfl⟩) (x_recv cx hw (ci := 4) rfl 0 rfl) (Ct.all (XC_ll ..)) hl.1 rfl rfl (Nat.le_of_ble_eq_true rfl) dX4_copy_50 ⟨Nat.le_of_ble_eq_true rfl, Nat.le_of_ble_eq_true rfl⟩ (st1 := [.int x568]) rfl (fun H locs hw => ?_)
        exact r_i cx hr hlocks hw (pr1 h) (congrArg (fun z0 => (XC g q z0)) (pr2 h)) dX4_copy_53
      · replace h := ite_t c567 h
        refine lv_aload hx hb dX4_copy_39 (lv_at hl 0 rfl) ?_
        obtain ⟨x571, g572, h⟩ := bd_ex h
        refine c_V (As := []) (rest := []) (w' := (XC g q d)) cx hw (c_X0_isMissing l g (qs 49 q) N  (sAt (x_sheets d) 2) x571 g572) (cl_X4_227 cx.1.2.2.2.2 ⟨Nat.le_of_ble_eq_true rfl, Nat.le_of_ble_eq_true rfl⟩) (x_recv cx hw (ci := 0) rfl 49 rfl) (ct_X__49_50__S g q d ) hl.1 rfl rfl (Nat.le_of_ble_eq_true rfl) dX4_copy_41 ⟨Nat.le_of_ble_eq_true rfl, Nat.le_of_ble_eq_true rfl⟩ (st1 := [.int x571]) rfl (fun H locs hw => ?_)
        refine lv_if_eq (tgt := 54) hx hb dX4_copy_44 (by decide) (fun c573 => ?_) (fun c573 => ?_)
        · replace h := ite_t c573 h
          refine lv_aload hx hb dX4_copy_54 (lv_at hl 1 rfl) ?_
          refine gf_X4_239 cx hw 51 rfl rfl dX4_copy_56 ?_
          refine lv_aload hx hb dX4_copy_59 (lv_at hl 0 rfl) ?_
          refine gf_X4_239 cx hw 49 rfl rfl dX4_copy_61 ?_
          refine lv_icmp_eq (tgt := 74) hx hb dX4_copy_64 (by decide) (fun c574 => ?_) (fun c574 => ?_)
          · replace h := ite_t c574 h
            refine lv_aload hx hb dX4_copy_74 (lv_at hl 1 rfl) ?_
            refine lv_iload_n hx hb dX4_copy_76 rfl (lv_at hl 4 rfl) ?_
            refine lv_iload hx hb dX4_copy_77 (lv_at hl 7 rfl) ?_
            obtain ⟨x575, g576, h⟩ := bd_ex h
            refine c_V (As := [.int p2, .int p5]) (rest := []) (w' := (XC g q d)) cx hw (c_X0_hasRange l g (qs 51 q) N p2 p5 (sAt (x_sheets d) 3) x575 g576) (cl_X4_242 cx.1.2.2.2.2 ⟨Nat.le_of_ble_eq_true rfl, Nat.le_of_ble_eq_true rfl⟩) (x_recv cx hw (ci := 0) rfl 51 rfl) (ct_X__51_52__S g q d ) hl.1 rfl rfl (Nat.le_of_ble_eq_true rfl) dX4_copy_79 ⟨Nat.le_of_ble_eq_true rfl, Nat.le_of_ble_eq_true rfl⟩ (st1 := [.int x575]) rfl (fun H locs hw => ?_)
            refine lv_if_eq (tgt := 97) hx hb dX4_copy_82 (by decide) (fun c577 => ?_) (fun c577 => ?_)
            · replace h := ite_t c577 h
              refine lv_aload_n hx hb dX4_copy_97 rfl (lv_at hl 2 rfl) ?_
              refine lv_ldc hx hb cx.1.2.2.2.1 (cx.1.2.2.2.2 _ tw_1_202) dX4_copy_98 ?_
              obtain ⟨x578, d579, g580, h⟩ := bd2_ex h
              refine c_V (As := [.int (-1000000001 : Int32)]) (rest := []) (w' := (XC g q d579)) cx hw (c_X4_tell l g q N (-1000000001 : Int32) d x578 d579 g580) (cl_X4_45 cx.1.2.2.2.2 ⟨Nat.le_of_ble_eq_true rfl, Nat.le_of_ble_eq_true rfl⟩) (x_recv cx hw (ci := 4) rfl 0 rfl) (Ct.all (XC_ll ..)) hl.1 rfl rfl (Nat.le_of_ble_eq_true rfl) dX4_copy_100 ⟨Nat.le_of_ble_eq_true rfl, Nat.le_of_ble_eq_true rfl⟩ (st1 := [.int x578]) rfl (fun H locs hw => ?_)
              exact r_i cx hr hlocks hw (pr1 h) (congrArg (fun z0 => (XC g q z0)) (pr2 h)) dX4_copy_103
            · replace h := ite_f c577 h
              refine lv_aload hx hb dX4_copy_85 (lv_at hl 0 rfl) ?_
              refine lv_iload hx hb dX4_copy_87 (lv_at hl 6 rfl) ?_
              refine lv_iload hx hb dX4_copy_89 (lv_at hl 7 rfl) ?_
              obtain ⟨x581, g582, h⟩ := bd_ex h
              refine c_V (As := [.int p4, .int p5]) (rest := []) (w' := (XC g q d)) cx hw (c_X0_hasRange l g (qs 49 q) N p4 p5 (sAt (x_sheets d) 2) x581 g582) (cl_X4_242 cx.1.2.2.2.2 ⟨Nat.le_of_ble_eq_true rfl, Nat.le_of_ble_eq_true rfl⟩) (x_recv cx hw (ci := 0) rfl 49 rfl) (ct_X__49_50__S g q d ) hl.1 rfl rfl (Nat.le_of_ble_eq_true rfl) dX4_copy_91 ⟨Nat.le_of_ble_eq_true rfl, Nat.le_of_ble_eq_true rfl⟩ (st1 := [.int x581]) rfl (fun H locs hw => ?_)
              refine lv_if_ne (tgt := 104) hx hb dX4_copy_94 (by decide) (fun c583 => ?_) (fun c583 => ?_)
              · replace h := ite_f c583 h
                refine lv_aload hx hb dX4_copy_104 (lv_at hl 1 rfl) ?_
                refine gf_X4_245 cx hw 51 rfl rfl dX4_copy_106 ?_
                refine lv_iload_n hx hb dX4_copy_109 rfl (lv_at hl 4 rfl) ?_
                refine lv_aload hx hb dX4_copy_110 (lv_at hl 0 rfl) ?_
                refine gf_X4_245 cx hw 49 rfl rfl dX4_copy_112 ?_
                refine lv_iload hx hb dX4_copy_115 (lv_at hl 6 rfl) ?_
                refine lv_iload hx hb dX4_copy_117 (lv_at hl 7 rfl) ?_
                have i584 := ckr_in h
                replace h := ckr_nx h
                refine va_copyl hx hb (cx.1.2.2.1.trans hl.1.symm) cx.1.2.2.2.1 (cx.1.2.2.2.2 _ tw_3_191) (cx.1.2.2.2.2 _ tw_2_180) (cx.1.2.2.2.2 _ tw_2_179) (cx.1.2.2.2.2 _ tw_1_10) cx.2.1 hw.1 hw.2.1 hw.2.2 52 50 1 1 rfl rfl rfl rfl rfl i584.1 i584.2.1 i584.2.2.1 i584.2.2.2.1 i584.2.2.2.2 (fun _ _ => rfl) (Nat.le_of_ble_eq_true rfl) (Nat.le_of_ble_eq_true rfl) dX4_copy_119 (fun H locs hP hD hS => ?_)
                have hw : Wd g _ _ s H locs := ⟨hP, hD, hS⟩
                obtain ⟨d585, ed585, h⟩ := lt_ex h
                have hw : Wd g (va_A ((XC g q d)) s.heap.size) ((XC g q d585)) s H locs := by rw [ed585]; exact hw
                refine lv_iload hx hb dX4_copy_122 (lv_at hl 7 rfl) ?_
                exact r_i cx hr hlocks hw (pr1 h) (congrArg (fun z0 => (XC g q z0)) (pr2 h)) dX4_copy_124
              · replace h := ite_t c583 h
                refine lv_aload_n hx hb dX4_copy_97 rfl (lv_at hl 2 rfl) ?_
                refine lv_ldc hx hb cx.1.2.2.2.1 (cx.1.2.2.2.2 _ tw_1_202) dX4_copy_98 ?_
                obtain ⟨x586, d587, g588, h⟩ := bd2_ex h
                refine c_V (As := [.int (-1000000001 : Int32)]) (rest := []) (w' := (XC g q d587)) cx hw (c_X4_tell l g q N (-1000000001 : Int32) d x586 d587 g588) (cl_X4_45 cx.1.2.2.2.2 ⟨Nat.le_of_ble_eq_true rfl, Nat.le_of_ble_eq_true rfl⟩) (x_recv cx hw (ci := 4) rfl 0 rfl) (Ct.all (XC_ll ..)) hl.1 rfl rfl (Nat.le_of_ble_eq_true rfl) dX4_copy_100 ⟨Nat.le_of_ble_eq_true rfl, Nat.le_of_ble_eq_true rfl⟩ (st1 := [.int x586]) rfl (fun H locs hw => ?_)
                exact r_i cx hr hlocks hw (pr1 h) (congrArg (fun z0 => (XC g q z0)) (pr2 h)) dX4_copy_103
          · replace h := ite_f c574 h
            refine lv_aload_n hx hb dX4_copy_67 rfl (lv_at hl 2 rfl) ?_
            refine lv_ldc hx hb cx.1.2.2.2.1 (cx.1.2.2.2.2 _ tw_2_70) dX4_copy_68 ?_
            obtain ⟨x589, d590, g591, h⟩ := bd2_ex h
            refine c_V (As := [.int (-1000000003 : Int32)]) (rest := []) (w' := (XC g q d590)) cx hw (c_X4_tell l g q N (-1000000003 : Int32) d x589 d590 g591) (cl_X4_45 cx.1.2.2.2.2 ⟨Nat.le_of_ble_eq_true rfl, Nat.le_of_ble_eq_true rfl⟩) (x_recv cx hw (ci := 4) rfl 0 rfl) (Ct.all (XC_ll ..)) hl.1 rfl rfl (Nat.le_of_ble_eq_true rfl) dX4_copy_70 ⟨Nat.le_of_ble_eq_true rfl, Nat.le_of_ble_eq_true rfl⟩ (st1 := [.int x589]) rfl (fun H locs hw => ?_)
            exact r_i cx hr hlocks hw (pr1 h) (congrArg (fun z0 => (XC g q z0)) (pr2 h)) dX4_copy_73
        · replace h := ite_f c573 h
          refine lv_aload_n hx hb dX4_copy_47 rfl (lv_at hl 2 rfl) ?_
          refine lv_ldc hx hb cx.1.2.2.2.1 (cx.1.2.2.2.2 _ tw_3_177) dX4_copy_48 ?_
          obtain ⟨x592, d593, g594, h⟩ := bd2_ex h
          refine c_V (As := [.int (-1000000006 : Int32)]) (rest := []) (w' := (XC g q d593)) cx hw (c_X4_tell l g q N (-1000000006 : Int32) d x592 d593 g594) (cl_X4_45 cx.1.2.2.2.2 ⟨Nat.le_of_ble_eq_true rfl, Nat.le_of_ble_eq_true rfl⟩) (x_recv cx hw (ci := 4) rfl 0 rfl) (Ct.all (XC_ll ..)) hl.1 rfl rfl (Nat.le_of_ble_eq_true rfl) dX4_copy_50 ⟨Nat.le_of_ble_eq_true rfl, Nat.le_of_ble_eq_true rfl⟩ (st1 := [.int x592]) rfl (fun H locs hw => ?_)
          exact r_i cx hr hlocks hw (pr1 h) (congrArg (fun z0 => (XC g q z0)) (pr2 h)) dX4_copy_53
    · replace h := sel_s h
      refine c_V (As := [.int p3]) (rest := []) (w' := (XC g q d)) cx hw (c_X4_sheetAt l g q N p3 d (some 3) g499) (cl_X4_219 cx.1.2.2.2.2 ⟨Nat.le_of_ble_eq_true rfl, Nat.le_of_ble_eq_true rfl⟩) (x_recv cx hw (ci := 4) rfl 0 rfl) (Ct.all (XC_ll ..)) hl.1 rfl rfl (Nat.le_of_ble_eq_true rfl) dX4_copy_9 ⟨Nat.le_of_ble_eq_true rfl, Nat.le_of_ble_eq_true rfl⟩ (st1 := [.ref (qs 51 q 0)]) rfl (fun H locs hw => ?_)
      refine lv_astore (lv' := [(7, .ref (qs 51 q 0)), (6, .ref (qs 51 q 0)), (0, .ref (q 0)), (1, .int p1), (2, .int p2), (3, .int p3), (4, .int p4), (5, .int p5)]) hx hb dX4_copy_12 hl (by decide) rfl (fun ls hl => ?_)
      refine lv_aload hx hb dX4_copy_14 (lv_at hl 1 rfl) ?_
      refine lv_ifnull hx hb dX4_copy_16 ?_
      refine lv_aload hx hb dX4_copy_19 (lv_at hl 0 rfl) ?_
      refine lv_ifnonnull (tgt := 31) hx hb dX4_copy_21 (by decide) ?_
      refine lv_aload hx hb dX4_copy_31 (lv_at hl 1 rfl) ?_
      obtain ⟨x595, g596, h⟩ := bd_ex h
      refine c_V (As := []) (rest := []) (w' := (XC g q d)) cx hw (c_X0_isMissing l g (qs 51 q) N  (sAt (x_sheets d) 3) x595 g596) (cl_X4_227 cx.1.2.2.2.2 ⟨Nat.le_of_ble_eq_true rfl, Nat.le_of_ble_eq_true rfl⟩) (x_recv cx hw (ci := 0) rfl 51 rfl) (ct_X__51_52__S g q d ) hl.1 rfl rfl (Nat.le_of_ble_eq_true rfl) dX4_copy_33 ⟨Nat.le_of_ble_eq_true rfl, Nat.le_of_ble_eq_true rfl⟩ (st1 := [.int x595]) rfl (fun H locs hw => ?_)
      refine lv_if_ne (tgt := 47) hx hb dX4_copy_36 (by decide) (fun c597 => ?_) (fun c597 => ?_)
      · replace h := ite_f c597 h
        refine lv_aload_n hx hb dX4_copy_47 rfl (lv_at hl 2 rfl) ?_
        refine lv_ldc hx hb cx.1.2.2.2.1 (cx.1.2.2.2.2 _ tw_3_177) dX4_copy_48 ?_
        obtain ⟨x598, d599, g600, h⟩ := bd2_ex h
        refine c_V (As := [.int (-1000000006 : Int32)]) (rest := []) (w' := (XC g q d599)) cx hw (c_X4_tell l g q N (-1000000006 : Int32) d x598 d599 g600) (cl_X4_45 cx.1.2.2.2.2 ⟨Nat.le_of_ble_eq_true rfl, Nat.le_of_ble_eq_true rfl⟩) (x_recv cx hw (ci := 4) rfl 0 rfl) (Ct.all (XC_ll ..)) hl.1 rfl rfl (Nat.le_of_ble_eq_true rfl) dX4_copy_50 ⟨Nat.le_of_ble_eq_true rfl, Nat.le_of_ble_eq_true rfl⟩ (st1 := [.int x598]) rfl (fun H locs hw => ?_)
        exact r_i cx hr hlocks hw (pr1 h) (congrArg (fun z0 => (XC g q z0)) (pr2 h)) dX4_copy_53
      · replace h := ite_t c597 h
        refine lv_aload hx hb dX4_copy_39 (lv_at hl 0 rfl) ?_
        obtain ⟨x601, g602, h⟩ := bd_ex h
        refine c_V (As := []) (rest := []) (w' := (XC g q d)) cx hw (c_X0_isMissing l g (qs 51 q) N  (sAt (x_sheets d) 3) x601 g602) (cl_X4_227 cx.1.2.2.2.2 ⟨Nat.le_of_ble_eq_true rfl, Nat.le_of_ble_eq_true rfl⟩) (x_recv cx hw (ci := 0) rfl 51 rfl) (ct_X__51_52__S g q d ) hl.1 rfl rfl (Nat.le_of_ble_eq_true rfl) dX4_copy_41 ⟨Nat.le_of_ble_eq_true rfl, Nat.le_of_ble_eq_true rfl⟩ (st1 := [.int x601]) rfl (fun H locs hw => ?_)
        refine lv_if_eq (tgt := 54) hx hb dX4_copy_44 (by decide) (fun c603 => ?_) (fun c603 => ?_)
        · replace h := ite_t c603 h
          refine lv_aload hx hb dX4_copy_54 (lv_at hl 1 rfl) ?_
          refine gf_X4_239 cx hw 51 rfl rfl dX4_copy_56 ?_
          refine lv_aload hx hb dX4_copy_59 (lv_at hl 0 rfl) ?_
          refine gf_X4_239 cx hw 51 rfl rfl dX4_copy_61 ?_
          refine lv_icmp_eq (tgt := 74) hx hb dX4_copy_64 (by decide) (fun c604 => ?_) (fun c604 => ?_)
          · replace h := ite_t c604 h
            refine lv_aload hx hb dX4_copy_74 (lv_at hl 1 rfl) ?_
            refine lv_iload_n hx hb dX4_copy_76 rfl (lv_at hl 4 rfl) ?_
            refine lv_iload hx hb dX4_copy_77 (lv_at hl 7 rfl) ?_
            obtain ⟨x605, g606, h⟩ := bd_ex h
            refine c_V (As := [.int p2, .int p5]) (rest := []) (w' := (XC g q d)) cx hw (c_X0_hasRange l g (qs 51 q) N p2 p5 (sAt (x_sheets d) 3) x605 g606) (cl_X4_242 cx.1.2.2.2.2 ⟨Nat.le_of_ble_eq_true rfl, Nat.le_of_ble_eq_true rfl⟩) (x_recv cx hw (ci := 0) rfl 51 rfl) (ct_X__51_52__S g q d ) hl.1 rfl rfl (Nat.le_of_ble_eq_true rfl) dX4_copy_79 ⟨Nat.le_of_ble_eq_true rfl, Nat.le_of_ble_eq_true rfl⟩ (st1 := [.int x605]) rfl (fun H locs hw => ?_)
            refine lv_if_eq (tgt := 97) hx hb dX4_copy_82 (by decide) (fun c607 => ?_) (fun c607 => ?_)
            · replace h := ite_t c607 h
              refine lv_aload_n hx hb dX4_copy_97 rfl (lv_at hl 2 rfl) ?_
              refine lv_ldc hx hb cx.1.2.2.2.1 (cx.1.2.2.2.2 _ tw_1_202) dX4_copy_98 ?_
              obtain ⟨x608, d609, g610, h⟩ := bd2_ex h
              refine c_V (As := [.int (-1000000001 : Int32)]) (rest := []) (w' := (XC g q d609)) cx hw (c_X4_tell l g q N (-1000000001 : Int32) d x608 d609 g610) (cl_X4_45 cx.1.2.2.2.2 ⟨Nat.le_of_ble_eq_true rfl, Nat.le_of_ble_eq_true rfl⟩) (x_recv cx hw (ci := 4) rfl 0 rfl) (Ct.all (XC_ll ..)) hl.1 rfl rfl (Nat.le_of_ble_eq_true rfl) dX4_copy_100 ⟨Nat.le_of_ble_eq_true rfl, Nat.le_of_ble_eq_true rfl⟩ (st1 := [.int x608]) rfl (fun H locs hw => ?_)
              exact r_i cx hr hlocks hw (pr1 h) (congrArg (fun z0 => (XC g q z0)) (pr2 h)) dX4_copy_103
            · replace h := ite_f c607 h
              refine lv_aload hx hb dX4_copy_85 (lv_at hl 0 rfl) ?_
              refine lv_iload hx hb dX4_copy_87 (lv_at hl 6 rfl) ?_
              refine lv_iload hx hb dX4_copy_89 (lv_at hl 7 rfl) ?_
              obtain ⟨x611, g612, h⟩ := bd_ex h
              refine c_V (As := [.int p4, .int p5]) (rest := []) (w' := (XC g q d)) cx hw (c_X0_hasRange l g (qs 51 q) N p4 p5 (sAt (x_sheets d) 3) x611 g612) (cl_X4_242 cx.1.2.2.2.2 ⟨Nat.le_of_ble_eq_true rfl, Nat.le_of_ble_eq_true rfl⟩) (x_recv cx hw (ci := 0) rfl 51 rfl) (ct_X__51_52__S g q d ) hl.1 rfl rfl (Nat.le_of_ble_eq_true rfl) dX4_copy_91 ⟨Nat.le_of_ble_eq_true rfl, Nat.le_of_ble_eq_true rfl⟩ (st1 := [.int x611]) rfl (fun H locs hw => ?_)
              refine lv_if_ne (tgt := 104) hx hb dX4_copy_94 (by decide) (fun c613 => ?_) (fun c613 => ?_)
              · replace h := ite_f c613 h
                refine lv_aload hx hb dX4_copy_104 (lv_at hl 1 rfl) ?_
                refine gf_X4_245 cx hw 51 rfl rfl dX4_copy_106 ?_
                refine lv_iload_n hx hb dX4_copy_109 rfl (lv_at hl 4 rfl) ?_
                refine lv_aload hx hb dX4_copy_110 (lv_at hl 0 rfl) ?_
                refine gf_X4_245 cx hw 51 rfl rfl dX4_copy_112 ?_
                refine lv_iload hx hb dX4_copy_115 (lv_at hl 6 rfl) ?_
                refine lv_iload hx hb dX4_copy_117 (lv_at hl 7 rfl) ?_
                have i614 := ckr_in h
                replace h := ckr_nx h
                refine va_copyl hx hb (cx.1.2.2.1.trans hl.1.symm) cx.1.2.2.2.1 (cx.1.2.2.2.2 _ tw_3_191) (cx.1.2.2.2.2 _ tw_2_180) (cx.1.2.2.2.2 _ tw_2_179) (cx.1.2.2.2.2 _ tw_1_10) cx.2.1 hw.1 hw.2.1 hw.2.2 52 52 1 1 rfl rfl rfl rfl rfl i614.1 i614.2.1 i614.2.2.1 i614.2.2.2.1 i614.2.2.2.2 (fun _ _ => rfl) (Nat.le_of_ble_eq_true rfl) (Nat.le_of_ble_eq_true rfl) dX4_copy_119 (fun H locs hP hD hS => ?_)
                have hw : Wd g _ _ s H locs := ⟨hP, hD, hS⟩
                obtain ⟨d615, ed615, h⟩ := lt_ex h
                have hw : Wd g (va_A ((XC g q d)) s.heap.size) ((XC g q d615)) s H locs := by rw [ed615]; exact hw
                refine lv_iload hx hb dX4_copy_122 (lv_at hl 7 rfl) ?_
                exact r_i cx hr hlocks hw (pr1 h) (congrArg (fun z0 => (XC g q z0)) (pr2 h)) dX4_copy_124
              · replace h := ite_t c613 h
                refine lv_aload_n hx hb dX4_copy_97 rfl (lv_at hl 2 rfl) ?_
                refine lv_ldc hx hb cx.1.2.2.2.1 (cx.1.2.2.2.2 _ tw_1_202) dX4_copy_98 ?_
                obtain ⟨x616, d617, g618, h⟩ := bd2_ex h
                refine c_V (As := [.int (-1000000001 : Int32)]) (rest := []) (w' := (XC g q d617)) cx hw (c_X4_tell l g q N (-1000000001 : Int32) d x616 d617 g618) (cl_X4_45 cx.1.2.2.2.2 ⟨Nat.le_of_ble_eq_true rfl, Nat.le_of_ble_eq_true rfl⟩) (x_recv cx hw (ci := 4) rfl 0 rfl) (Ct.all (XC_ll ..)) hl.1 rfl rfl (Nat.le_of_ble_eq_true rfl) dX4_copy_100 ⟨Nat.le_of_ble_eq_true rfl, Nat.le_of_ble_eq_true rfl⟩ (st1 := [.int x616]) rfl (fun H locs hw => ?_)
                exact r_i cx hr hlocks hw (pr1 h) (congrArg (fun z0 => (XC g q z0)) (pr2 h)) dX4_copy_103
          · replace h := ite_f c604 h
            refine lv_aload_n hx hb dX4_copy_67 rfl (lv_at hl 2 rfl) ?_
            refine lv_ldc hx hb cx.1.2.2.2.1 (cx.1.2.2.2.2 _ tw_2_70) dX4_copy_68 ?_
            obtain ⟨x619, d620, g621, h⟩ := bd2_ex h
            refine c_V (As := [.int (-1000000003 : Int32)]) (rest := []) (w' := (XC g q d620)) cx hw (c_X4_tell l g q N (-1000000003 : Int32) d x619 d620 g621) (cl_X4_45 cx.1.2.2.2.2 ⟨Nat.le_of_ble_eq_true rfl, Nat.le_of_ble_eq_true rfl⟩) (x_recv cx hw (ci := 4) rfl 0 rfl) (Ct.all (XC_ll ..)) hl.1 rfl rfl (Nat.le_of_ble_eq_true rfl) dX4_copy_70 ⟨Nat.le_of_ble_eq_true rfl, Nat.le_of_ble_eq_true rfl⟩ (st1 := [.int x619]) rfl (fun H locs hw => ?_)
            exact r_i cx hr hlocks hw (pr1 h) (congrArg (fun z0 => (XC g q z0)) (pr2 h)) dX4_copy_73
        · replace h := ite_f c603 h
          refine lv_aload_n hx hb dX4_copy_47 rfl (lv_at hl 2 rfl) ?_
          refine lv_ldc hx hb cx.1.2.2.2.1 (cx.1.2.2.2.2 _ tw_3_177) dX4_copy_48 ?_
          obtain ⟨x622, d623, g624, h⟩ := bd2_ex h
          refine c_V (As := [.int (-1000000006 : Int32)]) (rest := []) (w' := (XC g q d623)) cx hw (c_X4_tell l g q N (-1000000006 : Int32) d x622 d623 g624) (cl_X4_45 cx.1.2.2.2.2 ⟨Nat.le_of_ble_eq_true rfl, Nat.le_of_ble_eq_true rfl⟩) (x_recv cx hw (ci := 4) rfl 0 rfl) (Ct.all (XC_ll ..)) hl.1 rfl rfl (Nat.le_of_ble_eq_true rfl) dX4_copy_50 ⟨Nat.le_of_ble_eq_true rfl, Nat.le_of_ble_eq_true rfl⟩ (st1 := [.int x622]) rfl (fun H locs hw => ?_)
          exact r_i cx hr hlocks hw (pr1 h) (congrArg (fun z0 => (XC g q z0)) (pr2 h)) dX4_copy_53
