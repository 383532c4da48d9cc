abbrev rm_X3_init : Room := { frames := 2, cells := 12, slots := 164, locals := 46 }
def vZ : VD := (fun _ => 0, fun _ => 0, fun _ => 0, fun _ => 0, fun _ => 0, fun _ => 0, fun _ => 0, fun _ => 0, fun _ => 0, fun _ => 0, fun _ => 0, fun _ => 0, 0, 0, 0, 0)
def f_X3_init (N : Nat) : Option (VD) :=
  (f_J7_fill_53178 N 9 (2 : Int32) (v_costs vZ)).bind fun f1 =>
  lt (v_set_costs vZ f1) fun d3 =>
  (f_J7_fill_53178 N 9 (1 : Int32) (v_weights d3)).bind fun f4 =>
  lt (v_set_weights d3 f4) fun d6 =>
  (f_X3_sumWeights N 32 (0 : Int32) d6 (v_lowerSums d6)).bind fun f7 =>
  lt (v_set_lowerSums d6 f7) fun d9 =>
  (f_X3_sumWeights N 16 (5 : Int32) d9 (v_upperSums d9)).bind fun f10 =>
  lt (v_set_upperSums d9 f10) fun d12 =>
  (ck (12 : Int32) 13).bind fun _ =>
  lt (v_set_children d12 (upd (v_children d12) ((12 : Int32)).toNatClampNeg (-1 : Int32))) fun d14 =>
  some d14
set_option maxHeartbeats 4000000 in
set_option maxRecDepth 100000 in
theorem c_X3_init (l : Launch) (g : gE) (a : Nat) (N : Nat) (d' : VD) (h : f_X3_init N = some d') : MX (fun _ => True) l yX3_init (Cond.code yX3_init cX3_init 1 none :: TB) rm_X3_init a g [(a, .inr (3, [.null, .null, .null, .null, .null, .null, .null, .null, .null, .null, .null, .null, .int 0, .int 0, .int 0, .int 0]))] (fun q => VC g q d') 12 164 := by
  refine MX.of (cc := cX3_init) (maxL := 1) (by decide) ?_
  intro p e s m below meth c cx hw hr hlocks hin hE
  have hx := cx.1.1
  have hb := cx.1.2.1
  refine en_go (lv := [(0, .ref a)]) (Nat.le_of_ble_eq_true rfl) rfl (fun ls hl => ?_)
  refine lv_aload_n hx hb dX3_init_0 rfl (lv_at hl 0 rfl) ?_
  refine x_oinit cx tw_1_28 hl.1 dX3_init_1 (Nat.le_of_ble_eq_true rfl) (Nat.le_of_ble_eq_true rfl) ?_
  refine W.eq (g2 := F0 m 4 ls []) rfl ?_
  refine lv_aload_n hx hb dX3_init_4 rfl (lv_at hl 0 rfl) ?_
  refine lv_bipush (v := 9) hx hb dX3_init_5 (by decide) ?_
  refine x_newI (k := 9) cx hw (by decide) (by decide) (Nat.le_of_ble_eq_true rfl) (Nat.le_of_ble_eq_true rfl) (Nat.le_of_ble_eq_true rfl) dX3_init_7 (fun b1 H hw => ?_)
  have hw : Wd g (va_A ([(a, .inr (3, [.null, .null, .null, .null, .null, .null, .null, .null, .null, .null, .null, .null, .int 0, .int 0, .int 0, .int 0]))]) s.heap.size) ([(a, .inr (3, [.null, .null, .null, .null, .null, .null, .null, .null, .null, .null, .null, .null, .int 0, .int 0, .int 0, .int 0]))] ++ ([(b1, .inl (gI g, 9, .inl (fun _ => 0)))])) s H _ := hw
  refine x_putF (T := TX3) (k := 0) cx hw inT_X3 rfl (by decide) tw_1_42 rfl tyX3 tyX3_ok nmX3 rfl hin rfl 0 rfl rfl rfl (Nat.le_of_ble_eq_true rfl) dX3_init_9 (fun H locs hw => ?_)
  have hw : Wd g (va_A ([(a, .inr (3, [.null, .null, .null, .null, .null, .null, .null, .null, .null, .null, .null, .null, .int 0, .int 0, .int 0, .int 0]))]) s.heap.size) ([(a, .inr (3, [.ref b1, .null, .null, .null, .null, .null, .null, .null, .null, .null, .null, .null, .int 0, .int 0, .int 0, .int 0]))] ++ ([(b1, .inl (gI g, 9, .inl (fun _ => 0)))])) s H _ := hw
  refine lv_aload_n hx hb dX3_init_12 rfl (lv_at hl 0 rfl) ?_
  refine lv_bipush (v := 9) hx hb dX3_init_13 (by decide) ?_
  refine x_newI (k := 9) cx hw (by decide) (by decide) (Nat.le_of_ble_eq_true rfl) (Nat.le_of_ble_eq_true rfl) (Nat.le_of_ble_eq_true rfl) dX3_init_15 (fun b2 H hw => ?_)
  have hw : Wd g (va_A ([(a, .inr (3, [.null, .null, .null, .null, .null, .null, .null, .null, .null, .null, .null, .null, .int 0, .int 0, .int 0, .int 0]))]) s.heap.size) ([(a, .inr (3, [.ref b1, .null, .null, .null, .null, .null, .null, .null, .null, .null, .null, .null, .int 0, .int 0, .int 0, .int 0]))] ++ ([(b1, .inl (gI g, 9, .inl (fun _ => 0)))] ++ ([(b2, .inl (gI g, 9, .inl (fun _ => 0)))]))) s H _ := hw
  refine x_putF (T := TX3) (k := 1) cx hw inT_X3 rfl (by decide) tw_1_43 rfl tyX3 tyX3_ok nmX3 rfl hin rfl 0 rfl rfl rfl (Nat.le_of_ble_eq_true rfl) dX3_init_17 (fun H locs hw => ?_)
  have hw : Wd g (va_A ([(a, .inr (3, [.null, .null, .null, .null, .null, .null, .null, .null, .null, .null, .null, .null, .int 0, .int 0, .int 0, .int 0]))]) s.heap.size) ([(a, .inr (3, [.ref b1, .ref b2, .null, .null, .null, .null, .null, .null, .null, .null, .null, .null, .int 0, .int 0, .int 0, .int 0]))] ++ ([(b1, .inl (gI g, 9, .inl (fun _ => 0)))] ++ ([(b2, .inl (gI g, 9, .inl (fun _ => 0)))]))) s H _ := hw
  refine lv_aload_n hx hb dX3_init_20 rfl (lv_at hl 0 rfl) ?_
  refine lv_bipush (v := 32) hx hb dX3_init_21 (by decide) ?_
  refine x_newI (k := 32) cx hw (by decide) (by decide) (Nat.le_of_ble_eq_true rfl) (Nat.le_of_ble_eq_true rfl) (Nat.le_of_ble_eq_true rfl) dX3_init_23 (fun b3 H hw => ?_)
  have hw : Wd g (va_A ([(a, .inr (3, [.null, .null, .null, .null, .null, .null, .null, .null, .null, .null, .null, .null, .int 0, .int 0, .int 0, .int 0]))]) s.heap.size) ([(a, .inr (3, [.ref b1, .ref b2, .null, .null, .null, .null, .null, .null, .null, .null, .null, .null, .int 0, .int 0, .int 0, .int 0]))] ++ ([(b1, .inl (gI g, 9, .inl (fun _ => 0)))] ++ ([(b2, .inl (gI g, 9, .inl (fun _ => 0)))] ++ ([(b3, .inl (gI g, 32, .inl (fun _ => 0)))])))) s H _ := hw
  refine x_putF (T := TX3) (k := 2) cx hw inT_X3 rfl (by decide) tw_1_46 rfl tyX3 tyX3_ok nmX3 rfl hin rfl 0 rfl rfl rfl (Nat.le_of_ble_eq_true rfl) dX3_init_25 (fun H locs hw => ?_)
  have hw : Wd g (va_A ([(a, .inr (3, [.null, .null, .null, .null, .null, .null, .null, .null, .null, .null, .null, .null, .int 0, .int 0, .int 0, .int 0]))]) s.heap.size) ([(a, .inr (3, [.ref b1, .ref b2, .ref b3, .null, .null, .null, .null, .null, .null, .null, .null, .null, .int 0, .int 0, .int 0, .int 0]))] ++ ([(b1, .inl (gI g, 9, .inl (fun _ => 0)))] ++ ([(b2, .inl (gI g, 9, .inl (fun _ => 0)))] ++ ([(b3, .inl (gI g, 32, .inl (fun _ => 0)))])))) s H _ := hw
  refine lv_aload_n hx hb dX3_init_28 rfl (lv_at hl 0 rfl) ?_
  refine lv_bipush (v := 16) hx hb dX3_init_29 (by decide) ?_
  refine x_newI (k := 16) cx hw (by decide) (by decide) (Nat.le_of_ble_eq_true rfl) (Nat.le_of_ble_eq_true rfl) (Nat.le_of_ble_eq_true rfl) dX3_init_31 (fun b4 H hw => ?_)
  have hw : Wd g (va_A ([(a, .inr (3, [.null, .null, .null, .null, .null, .null, .null, .null, .null, .null, .null, .null, .int 0, .int 0, .int 0, .int 0]))]) s.heap.size) ([(a, .inr (3, [.ref b1, .ref b2, .ref b3, .null, .null, .null, .null, .null, .null, .null, .null, .null, .int 0, .int 0, .int 0, .int 0]))] ++ ([(b1, .inl (gI g, 9, .inl (fun _ => 0)))] ++ ([(b2, .inl (gI g, 9, .inl (fun _ => 0)))] ++ ([(b3, .inl (gI g, 32, .inl (fun _ => 0)))] ++ ([(b4, .inl (gI g, 16, .inl (fun _ => 0)))]))))) s H _ := hw
  refine x_putF (T := TX3) (k := 3) cx hw inT_X3 rfl (by decide) tw_1_47 rfl tyX3 tyX3_ok nmX3 rfl hin rfl 0 rfl rfl rfl (Nat.le_of_ble_eq_true rfl) dX3_init_33 (fun H locs hw => ?_)
  have hw : Wd g (va_A ([(a, .inr (3, [.null, .null, .null, .null, .null, .null, .null, .null, .null, .null, .null, .null, .int 0, .int 0, .int 0, .int 0]))]) s.heap.size) ([(a, .inr (3, [.ref b1, .ref b2, .ref b3, .ref b4, .null, .null, .null, .null, .null, .null, .null, .null, .int 0, .int 0, .int 0, .int 0]))] ++ ([(b1, .inl (gI g, 9, .inl (fun _ => 0)))] ++ ([(b2, .inl (gI g, 9, .inl (fun _ => 0)))] ++ ([(b3, .inl (gI g, 32, .inl (fun _ => 0)))] ++ ([(b4, .inl (gI g, 16, .inl (fun _ => 0)))]))))) s H _ := hw
  refine lv_aload_n hx hb dX3_init_36 rfl (lv_at hl 0 rfl) ?_
  refine lv_bipush (v := 12) hx hb dX3_init_37 (by decide) ?_
  refine x_newI (k := 12) cx hw (by decide) (by decide) (Nat.le_of_ble_eq_true rfl) (Nat.le_of_ble_eq_true rfl) (Nat.le_of_ble_eq_true rfl) dX3_init_39 (fun b5 H hw => ?_)
  have hw : Wd g (va_A ([(a, .inr (3, [.null, .null, .null, .null, .null, .null, .null, .null, .null, .null, .null, .null, .int 0, .int 0, .int 0, .int 0]))]) s.heap.size) ([(a, .inr (3, [.ref b1, .ref b2, .ref b3, .ref b4, .null, .null, .null, .null, .null, .null, .null, .null, .int 0, .int 0, .int 0, .int 0]))] ++ ([(b1, .inl (gI g, 9, .inl (fun _ => 0)))] ++ ([(b2, .inl (gI g, 9, .inl (fun _ => 0)))] ++ ([(b3, .inl (gI g, 32, .inl (fun _ => 0)))] ++ ([(b4, .inl (gI g, 16, .inl (fun _ => 0)))] ++ ([(b5, .inl (gI g, 12, .inl (fun _ => 0)))])))))) s H _ := hw
  refine x_putF (T := TX3) (k := 4) cx hw inT_X3 rfl (by decide) tw_1_48 rfl tyX3 tyX3_ok nmX3 rfl hin rfl 0 rfl rfl rfl (Nat.le_of_ble_eq_true rfl) dX3_init_41 (fun H locs hw => ?_)
  have hw : Wd g (va_A ([(a, .inr (3, [.null, .null, .null, .null, .null, .null, .null, .null, .null, .null, .null, .null, .int 0, .int 0, .int 0, .int 0]))]) s.heap.size) ([(a, .inr (3, [.ref b1, .ref b2, .ref b3, .ref b4, .ref b5, .null, .null, .null, .null, .null, .null, .null, .int 0, .int 0, .int 0, .int 0]))] ++ ([(b1, .inl (gI g, 9, .inl (fun _ => 0)))] ++ ([(b2, .inl (gI g, 9, .inl (fun _ => 0)))] ++ ([(b3, .inl (gI g, 32, .inl (fun _ => 0)))] ++ ([(b4, .inl (gI g, 16, .inl (fun _ => 0)))] ++ ([(b5, .inl (gI g, 12, .inl (fun _ => 0)))])))))) s H _ := hw
  refine lv_aload_n hx hb dX3_init_44 rfl (lv_at hl 0 rfl) ?_
  refine lv_bipush (v := 12) hx hb dX3_init_45 (by decide) ?_
  refine x_newI (k := 12) cx hw (by decide) (by decide) (Nat.le_of_ble_eq_true rfl) (Nat.le_of_ble_eq_true rfl) (Nat.le_of_ble_eq_true rfl) dX3_init_47 (fun b6 H hw => ?_)
  have hw : Wd g (va_A ([(a, .inr (3, [.null, .null, .null, .null, .null, .null, .null, .null, .null, .null, .null, .null, .int 0, .int 0, .int 0, .int 0]))]) s.heap.size) ([(a, .inr (3, [.ref b1, .ref b2, .ref b3, .ref b4, .ref b5, .null, .null, .null, .null, .null, .null, .null, .int 0, .int 0, .int 0, .int 0]))] ++ ([(b1, .inl (gI g, 9, .inl (fun _ => 0)))] ++ ([(b2, .inl (gI g, 9, .inl (fun _ => 0)))] ++ ([(b3, .inl (gI g, 32, .inl (fun _ => 0)))] ++ ([(b4, .inl (gI g, 16, .inl (fun _ => 0)))] ++ ([(b5, .inl (gI g, 12, .inl (fun _ => 0)))] ++ ([(b6, .inl (gI g, 12, .inl (fun _ => 0)))]))))))) s H _ := hw
  refine x_putF (T := TX3) (k := 5) cx hw inT_X3 rfl (by decide) tw_1_50 rfl tyX3 tyX3_ok nmX3 rfl hin rfl 0 rfl rfl rfl (Nat.le_of_ble_eq_true rfl) dX3_init_49 (fun H locs hw => ?_)
  have hw : Wd g (va_A ([(a, .inr (3, [.null, .null, .null, .null, .null, .null, .null, .null, .null, .null, .null, .null, .int 0, .int 0, .int 0, .int 0]))]) s.heap.size) ([(a, .inr (3, [.ref b1, .ref b2, .ref b3, .ref b4, .ref b5, .ref b6, .null, .null, .null, .null, .null, .null, .int 0, .int 0, .int 0, .int 0]))] ++ ([(b1, .inl (gI g, 9, .inl (fun _ => 0)))] ++ ([(b2, .inl (gI g, 9, .inl (fun _ => 0)))] ++ ([(b3, .inl (gI g, 32, .inl (fun _ => 0)))] ++ ([(b4, .inl (gI g, 16, .inl (fun _ => 0)))] ++ ([(b5, .inl (gI g, 12, .inl (fun _ => 0)))] ++ ([(b6, .inl (gI g, 12, .inl (fun _ => 0)))]))))))) s H _ := hw
  refine lv_aload_n hx hb dX3_init_52 rfl (lv_at hl 0 rfl) ?_
  refine lv_bipush (v := 12) hx hb dX3_init_53 (by decide) ?_
  refine x_newI (k := 12) cx hw (by decide) (by decide) (Nat.le_of_ble_eq_true rfl) (Nat.le_of_ble_eq_true rfl) (Nat.le_of_ble_eq_true rfl) dX3_init_55 (fun b7 H hw => ?_)
  have hw : Wd g (va_A ([(a, .inr (3, [.null, .null, .null, .null, .null, .null, .null, .null, .null, .null, .null, .null, .int 0, .int 0, .int 0, .int 0]))]) s.heap.size) ([(a, .inr (3, [.ref b1, .ref b2, .ref b3, .ref b4, .ref b5, .ref b6, .null, .null, .null, .null, .null, .null, .int 0, .int 0, .int 0, .int 0]))] ++ ([(b1, .inl (gI g, 9, .inl (fun _ => 0)))] ++ ([(b2, .inl (gI g, 9, .inl (fun _ => 0)))] ++ ([(b3, .inl (gI g, 32, .inl (fun _ => 0)))] ++ ([(b4, .inl (gI g, 16, .inl (fun _ => 0)))] ++ ([(b5, .inl (gI g, 12, .inl (fun _ => 0)))] ++ ([(b6, .inl (gI g, 12, .inl (fun _ => 0)))] ++ ([(b7, .inl (gI g, 12, .inl (fun _ => 0)))])))))))) s H _ := hw
  refine x_putF (T := TX3) (k := 6) cx hw inT_X3 rfl (by decide) tw_1_53 rfl tyX3 tyX3_ok nmX3 rfl hin rfl 0 rfl rfl rfl (Nat.le_of_ble_eq_true rfl) dX3_init_57 (fun H locs hw => ?_)
  have hw : Wd g (va_A ([(a, .inr (3, [.null, .null, .null, .null, .null, .null, .null, .null, .null, .null, .null, .null, .int 0, .int 0, .int 0, .int 0]))]) s.heap.size) ([(a, .inr (3, [.ref b1, .ref b2, .ref b3, .ref b4, .ref b5, .ref b6, .ref b7, .null, .null, .null, .null, .null, .int 0, .int 0, .int 0, .int 0]))] ++ ([(b1, .inl (gI g, 9, .inl (fun _ => 0)))] ++ ([(b2, .inl (gI g, 9, .inl (fun _ => 0)))] ++ ([(b3, .inl (gI g, 32, .inl (fun _ => 0)))] ++ ([(b4, .inl (gI g, 16, .inl (fun _ => 0)))] ++ ([(b5, .inl (gI g, 12, .inl (fun _ => 0)))] ++ ([(b6, .inl (gI g, 12, .inl (fun _ => 0)))] ++ ([(b7, .inl (gI g, 12, .inl (fun _ => 0)))])))))))) s H _ := hw
  refine lv_aload_n hx hb dX3_init_60 rfl (lv_at hl 0 rfl) ?_
  refine lv_bipush (v := 12) hx hb dX3_init_61 (by decide) ?_
  refine x_newI (k := 12) cx hw (by decide) (by decide) (Nat.le_of_ble_eq_true rfl) (Nat.le_of_ble_eq_true rfl) (Nat.le_of_ble_eq_true rfl) dX3_init_63 (fun b8 H hw => ?_)
  have hw : Wd g (va_A ([(a, .inr (3, [.null, .null, .null, .null, .null, .null, .null, .null, .null, .null, .null, .null, .int 0, .int 0, .int 0, .int 0]))]) s.heap.size) ([(a, .inr (3, [.ref b1, .ref b2, .ref b3, .ref b4, .ref b5, .ref b6, .ref b7, .null, .null, .null, .null, .null, .int 0, .int 0, .int 0, .int 0]))] ++ ([(b1, .inl (gI g, 9, .inl (fun _ => 0)))] ++ ([(b2, .inl (gI g, 9, .inl (fun _ => 0)))] ++ ([(b3, .inl (gI g, 32, .inl (fun _ => 0)))] ++ ([(b4, .inl (gI g, 16, .inl (fun _ => 0)))] ++ ([(b5, .inl (gI g, 12, .inl (fun _ => 0)))] ++ ([(b6, .inl (gI g, 12, .inl (fun _ => 0)))] ++ ([(b7, .inl (gI g, 12, .inl (fun _ => 0)))] ++ ([(b8, .inl (gI g, 12, .inl (fun _ => 0)))]))))))))) s H _ := hw
  refine x_putF (T := TX3) (k := 7) cx hw inT_X3 rfl (by decide) tw_1_56 rfl tyX3 tyX3_ok nmX3 rfl hin rfl 0 rfl rfl rfl (Nat.le_of_ble_eq_true rfl) dX3_init_65 (fun H locs hw => ?_)
  have hw : Wd g (va_A ([(a, .inr (3, [.null, .null, .null, .null, .null, .null, .null, .null, .null, .null, .null, .null, .int 0, .int 0, .int 0, .int 0]))]) s.heap.size) ([(a, .inr (3, [.ref b1, .ref b2, .ref b3, .ref b4, .ref b5, .ref b6, .ref b7, .ref b8, .null, .null, .null, .null, .int 0, .int 0, .int 0, .int 0]))] ++ ([(b1, .inl (gI g, 9, .inl (fun _ => 0)))] ++ ([(b2, .inl (gI g, 9, .inl (fun _ => 0)))] ++ ([(b3, .inl (gI g, 32, .inl (fun _ => 0)))] ++ ([(b4, .inl (gI g, 16, .inl (fun _ => 0)))] ++ ([(b5, .inl (gI g, 12, .inl (fun _ => 0)))] ++ ([(b6, .inl (gI g, 12, .inl (fun _ => 0)))] ++ ([(b7, .inl (gI g, 12, .inl (fun _ => 0)))] ++ ([(b8, .inl (gI g, 12, .inl (fun _ => 0)))]))))))))) s H _ := hw
  refine lv_aload_n hx hb dX3_init_68 rfl (lv_at hl 0 rfl) ?_
  refine lv_bipush (v := 13) hx hb dX3_init_69 (by decide) ?_
  refine x_newI (k := 13) cx hw (by decide) (by decide) (Nat.le_of_ble_eq_true rfl) (Nat.le_of_ble_eq_true rfl) (Nat.le_of_ble_eq_true rfl) dX3_init_71 (fun b9 H hw => ?_)
  have hw : Wd g (va_A ([(a, .inr (3, [.null, .null, .null, .null, .null, .null, .null, .null, .null, .null, .null, .null, .int 0, .int 0, .int 0, .int 0]))]) s.heap.size) ([(a, .inr (3, [.ref b1, .ref b2, .ref b3, .ref b4, .ref b5, .ref b6, .ref b7, .ref b8, .null, .null, .null, .null, .int 0, .int 0, .int 0, .int 0]))] ++ ([(b1, .inl (gI g, 9, .inl (fun _ => 0)))] ++ ([(b2, .inl (gI g, 9, .inl (fun _ => 0)))] ++ ([(b3, .inl (gI g, 32, .inl (fun _ => 0)))] ++ ([(b4, .inl (gI g, 16, .inl (fun _ => 0)))] ++ ([(b5, .inl (gI g, 12, .inl (fun _ => 0)))] ++ ([(b6, .inl (gI g, 12, .inl (fun _ => 0)))] ++ ([(b7, .inl (gI g, 12, .inl (fun _ => 0)))] ++ ([(b8, .inl (gI g, 12, .inl (fun _ => 0)))] ++ ([(b9, .inl (gI g, 13, .inl (fun _ => 0)))])))))))))) s H _ := hw
  refine x_putF (T := TX3) (k := 8) cx hw inT_X3 rfl (by decide) tw_1_59 rfl tyX3 tyX3_ok nmX3 rfl hin rfl 0 rfl rfl rfl (Nat.le_of_ble_eq_true rfl) dX3_init_73 (fun H locs hw => ?_)
  have hw : Wd g (va_A ([(a, .inr (3, [.null, .null, .null, .null, .null, .null, .null, .null, .null, .null, .null, .null, .int 0, .int 0, .int 0, .int 0]))]) s.heap.size) ([(a, .inr (3, [.ref b1, .ref b2, .ref b3, .ref b4, .ref b5, .ref b6, .ref b7, .ref b8, .ref b9, .null, .null, .null, .int 0, .int 0, .int 0, .int 0]))] ++ ([(b1, .inl (gI g, 9, .inl (fun _ => 0)))] ++ ([(b2, .inl (gI g, 9, .inl (fun _ => 0)))] ++ ([(b3, .inl (gI g, 32, .inl (fun _ => 0)))] ++ ([(b4, .inl (gI g, 16, .inl (fun _ => 0)))] ++ ([(b5, .inl (gI g, 12, .inl (fun _ => 0)))] ++ ([(b6, .inl (gI g, 12, .inl (fun _ => 0)))] ++ ([(b7, .inl (gI g, 12, .inl (fun _ => 0)))] ++ ([(b8, .inl (gI g, 12, .inl (fun _ => 0)))] ++ ([(b9, .inl (gI g, 13, .inl (fun _ => 0)))])))))))))) s H _ := hw
  refine lv_aload_n hx hb dX3_init_76 rfl (lv_at hl 0 rfl) ?_
  refine lv_bipush (v := 13) hx hb dX3_init_77 (by decide) ?_
  refine x_newI (k := 13) cx hw (by decide) (by decide) (Nat.le_of_ble_eq_true rfl) (Nat.le_of_ble_eq_true rfl) (Nat.le_of_ble_eq_true rfl) dX3_init_79 (fun b10 H hw => ?_)
  have hw : Wd g (va_A ([(a, .inr (3, [.null, .null, .null, .null, .null, .null, .null, .null, .null, .null, .null, .null, .int 0, .int 0, .int 0, .int 0]))]) s.heap.size) ([(a, .inr (3, [.ref b1, .ref b2, .ref b3, .ref b4, .ref b5, .ref b6, .ref b7, .ref b8, .ref b9, .null, .null, .null, .int 0, .int 0, .int 0, .int 0]))] ++ ([(b1, .inl (gI g, 9, .inl (fun _ => 0)))] ++ ([(b2, .inl (gI g, 9, .inl (fun _ => 0)))] ++ ([(b3, .inl (gI g, 32, .inl (fun _ => 0)))] ++ ([(b4, .inl (gI g, 16, .inl (fun _ => 0)))] ++ ([(b5, .inl (gI g, 12, .inl (fun _ => 0)))] ++ ([(b6, .inl (gI g, 12, .inl (fun _ => 0)))] ++ ([(b7, .inl (gI g, 12, .inl (fun _ => 0)))] ++ ([(b8, .inl (gI g, 12, .inl (fun _ => 0)))] ++ ([(b9, .inl (gI g, 13, .inl (fun _ => 0)))] ++ ([(b10, .inl (gI g, 13, .inl (fun _ => 0)))]))))))))))) s H _ := hw
  refine x_putF (T := TX3) (k := 9) cx hw inT_X3 rfl (by decide) tw_1_62 rfl tyX3 tyX3_ok nmX3 rfl hin rfl 0 rfl rfl rfl (Nat.le_of_ble_eq_true rfl) dX3_init_81 (fun H locs hw => ?_)
  have hw : Wd g (va_A ([(a, .inr (3, [.null, .null, .null, .null, .null, .null, .null, .null, .null, .null, .null, .null, .int 0, .int 0, .int 0, .int 0]))]) s.heap.size) ([(a, .inr (3, [.ref b1, .ref b2, .ref b3, .ref b4, .ref b5, .ref b6, .ref b7, .ref b8, .ref b9, .ref b10, .null, .null, .int 0, .int 0, .int 0, .int 0]))] ++ ([(b1, .inl (gI g, 9, .inl (fun _ => 0)))] ++ ([(b2, .inl (gI g, 9, .inl (fun _ => 0)))] ++ ([(b3, .inl (gI g, 32, .inl (fun _ => 0)))] ++ ([(b4, .inl (gI g, 16, .inl (fun _ => 0)))] ++ ([(b5, .inl (gI g, 12, .inl (fun _ => 0)))] ++ ([(b6, .inl (gI g, 12, .inl (fun _ => 0)))] ++ ([(b7, .inl (gI g, 12, .inl (fun _ => 0)))] ++ ([(b8, .inl (gI g, 12, .inl (fun _ => 0)))] ++ ([(b9, .inl (gI g, 13, .inl (fun _ => 0)))] ++ ([(b10, .inl (gI g, 13, .inl (fun _ => 0)))]))))))))))) s H _ := hw
  refine lv_aload_n hx hb dX3_init_84 rfl (lv_at hl 0 rfl) ?_
  refine lv_bipush (v := 12) hx hb dX3_init_85 (by decide) ?_
  refine x_newI (k := 12) cx hw (by decide) (by decide) (Nat.le_of_ble_eq_true rfl) (Nat.le_of_ble_eq_true rfl) (Nat.le_of_ble_eq_true rfl) dX3_init_87 (fun b11 H hw => ?_)
  have hw : Wd g (va_A ([(a, .inr (3, [.null, .null, .null, .null, .null, .null, .null, .null, .null, .null, .null, .null, .int 0, .int 0, .int 0, .int 0]))]) s.heap.size) ([(a, .inr (3, [.ref b1, .ref b2, .ref b3, .ref b4, .ref b5, .ref b6, .ref b7, .ref b8, .ref b9, .ref b10, .null, .null, .int 0, .int 0, .int 0, .int 0]))] ++ ([(b1, .inl (gI g, 9, .inl (fun _ => 0)))] ++ ([(b2, .inl (gI g, 9, .inl (fun _ => 0)))] ++ ([(b3, .inl (gI g, 32, .inl (fun _ => 0)))] ++ ([(b4, .inl (gI g, 16, .inl (fun _ => 0)))] ++ ([(b5, .inl (gI g, 12, .inl (fun _ => 0)))] ++ ([(b6, .inl (gI g, 12, .inl (fun _ => 0)))] ++ ([(b7, .inl (gI g, 12, .inl (fun _ => 0)))] ++ ([(b8, .inl (gI g, 12, .inl (fun _ => 0)))] ++ ([(b9, .inl (gI g, 13, .inl (fun _ => 0)))] ++ ([(b10, .inl (gI g, 13, .inl (fun _ => 0)))] ++ ([(b11, .inl (gI g, 12, .inl (fun _ => 0)))])))))))))))) s H _ := hw
  refine x_putF (T := TX3) (k := 10) cx hw inT_X3 rfl (by decide) tw_1_65 rfl tyX3 tyX3_ok nmX3 rfl hin rfl 0 rfl rfl rfl (Nat.le_of_ble_eq_true rfl) dX3_init_89 (fun H locs hw => ?_)
  have hw : Wd g (va_A ([(a, .inr (3, [.null, .null, .null, .null, .null, .null, .null, .null, .null, .null, .null, .null, .int 0, .int 0, .int 0, .int 0]))]) s.heap.size) ([(a, .inr (3, [.ref b1, .ref b2, .ref b3, .ref b4, .ref b5, .ref b6, .ref b7, .ref b8, .ref b9, .ref b10, .ref b11, .null, .int 0, .int 0, .int 0, .int 0]))] ++ ([(b1, .inl (gI g, 9, .inl (fun _ => 0)))] ++ ([(b2, .inl (gI g, 9, .inl (fun _ => 0)))] ++ ([(b3, .inl (gI g, 32, .inl (fun _ => 0)))] ++ ([(b4, .inl (gI g, 16, .inl (fun _ => 0)))] ++ ([(b5, .inl (gI g, 12, .inl (fun _ => 0)))] ++ ([(b6, .inl (gI g, 12, .inl (fun _ => 0)))] ++ ([(b7, .inl (gI g, 12, .inl (fun _ => 0)))] ++ ([(b8, .inl (gI g, 12, .inl (fun _ => 0)))] ++ ([(b9, .inl (gI g, 13, .inl (fun _ => 0)))] ++ ([(b10, .inl (gI g, 13, .inl (fun _ => 0)))] ++ ([(b11, .inl (gI g, 12, .inl (fun _ => 0)))])))))))))))) s H _ := hw
  refine lv_aload_n hx hb dX3_init_92 rfl (lv_at hl 0 rfl) ?_
  refine lv_bipush (v := 12) hx hb dX3_init_93 (by decide) ?_
  refine x_newI (k := 12) cx hw (by decide) (by decide) (Nat.le_of_ble_eq_true rfl) (Nat.le_of_ble_eq_true rfl) (Nat.le_of_ble_eq_true rfl) dX3_init_95 (fun b12 H hw => ?_)
  have hw : Wd g (va_A ([(a, .inr (3, [.null, .null, .null, .null, .null, .null, .null, .null, .null, .null, .null, .null, .int 0, .int 0, .int 0, .int 0]))]) s.heap.size) ([(a, .inr (3, [.ref b1, .ref b2, .ref b3, .ref b4, .ref b5, .ref b6, .ref b7, .ref b8, .ref b9, .ref b10, .ref b11, .null, .int 0, .int 0, .int 0, .int 0]))] ++ ([(b1, .inl (gI g, 9, .inl (fun _ => 0)))] ++ ([(b2, .inl (gI g, 9, .inl (fun _ => 0)))] ++ ([(b3, .inl (gI g, 32, .inl (fun _ => 0)))] ++ ([(b4, .inl (gI g, 16, .inl (fun _ => 0)))] ++ ([(b5, .inl (gI g, 12, .inl (fun _ => 0)))] ++ ([(b6, .inl (gI g, 12, .inl (fun _ => 0)))] ++ ([(b7, .inl (gI g, 12, .inl (fun _ => 0)))] ++ ([(b8, .inl (gI g, 12, .inl (fun _ => 0)))] ++ ([(b9, .inl (gI g, 13, .inl (fun _ => 0)))] ++ ([(b10, .inl (gI g, 13, .inl (fun _ => 0)))] ++ ([(b11, .inl (gI g, 12, .inl (fun _ => 0)))] ++ ([(b12, .inl (gI g, 12, .inl (fun _ => 0)))]))))))))))))) s H _ := hw
  refine x_putF (T := TX3) (k := 11) cx hw inT_X3 rfl (by decide) tw_1_67 rfl tyX3 tyX3_ok nmX3 rfl hin rfl 0 rfl rfl rfl (Nat.le_of_ble_eq_true rfl) dX3_init_97 (fun H locs hw => ?_)
  have hw : Wd g (va_A ([(a, .inr (3, [.null, .null, .null, .null, .null, .null, .null, .null, .null, .null, .null, .null, .int 0, .int 0, .int 0, .int 0]))]) s.heap.size) ([(a, .inr (3, [.ref b1, .ref b2, .ref b3, .ref b4, .ref b5, .ref b6, .ref b7, .ref b8, .ref b9, .ref b10, .ref b11, .ref b12, .int 0, .int 0, .int 0, .int 0]))] ++ ([(b1, .inl (gI g, 9, .inl (fun _ => 0)))] ++ ([(b2, .inl (gI g, 9, .inl (fun _ => 0)))] ++ ([(b3, .inl (gI g, 32, .inl (fun _ => 0)))] ++ ([(b4, .inl (gI g, 16, .inl (fun _ => 0)))] ++ ([(b5, .inl (gI g, 12, .inl (fun _ => 0)))] ++ ([(b6, .inl (gI g, 12, .inl (fun _ => 0)))] ++ ([(b7, .inl (gI g, 12, .inl (fun _ => 0)))] ++ ([(b8, .inl (gI g, 12, .inl (fun _ => 0)))] ++ ([(b9, .inl (gI g, 13, .inl (fun _ => 0)))] ++ ([(b10, .inl (gI g, 13, .inl (fun _ => 0)))] ++ ([(b11, .inl (gI g, 12, .inl (fun _ => 0)))] ++ ([(b12, .inl (gI g, 12, .inl (fun _ => 0)))]))))))))))))) s H _ := hw
  have hw : Wd g (va_A ([(a, .inr (3, [.null, .null, .null, .null, .null, .null, .null, .null, .null, .null, .null, .null, .int 0, .int 0, .int 0, .int 0]))]) s.heap.size) (VC g (qL [a, b1, b2, b3, b4, b5, b6, b7, b8, b9, b10, b11, b12]) vZ) s H _ := hw
  refine W.widen (k := 12) (n := 164) (Nat.le_of_ble_eq_true rfl) (Nat.le_of_ble_eq_true rfl) ?_
  obtain ⟨q, hq⟩ : ∃ q, q = (qL [a, b1, b2, b3, b4, b5, b6, b7, b8, b9, b10, b11, b12]) := ⟨_, rfl⟩
  rw [← hq] at hw
  have hqa : a = q 0 := by rw [hq]; rfl
  have hl : lv_has ls 1 [(0, .ref (q 0))] := by rw [← hqa]; exact hl
  unfold f_X3_init at h
  refine lv_aload_n hx hb dX3_init_100 rfl (lv_at hl 0 rfl) ?_
  refine gf_X3_15 cx hw 0 rfl rfl dX3_init_101 ?_
  refine lv_iconst (v := 2) hx hb dX3_init_104 (by decide) ?_
  obtain ⟨f1, g2, h⟩ := bd_ex h
  refine c_S (As := [.ref (q 2), .int (2 : Int32)]) (rest := []) (w' := (VC g q (v_set_costs vZ f1))) cx hw (c_J7_fill_53178 l g (q 2) 9 N (2 : Int32) (v_costs vZ) f1 g2) (cl_X3_48 cx.1.2.2.2.2 ⟨Nat.le_of_ble_eq_true rfl, Nat.le_of_ble_eq_true rfl⟩) (ctV_A_2 ..) hl.1 rfl rfl (Nat.le_of_ble_eq_true rfl) dX3_init_105 ⟨Nat.le_of_ble_eq_true rfl, Nat.le_of_ble_eq_true rfl⟩ (st1 := []) rfl (fun H locs hw => ?_)
  obtain ⟨d3, ed3, h⟩ := lt_ex h
  have hw : Wd g (va_A ([(a, .inr (3, [.null, .null, .null, .null, .null, .null, .null, .null, .null, .null, .null, .null, .int 0, .int 0, .int 0, .int 0]))]) s.heap.size) ((VC g q d3)) s H locs := by rw [ed3]; exact hw
  refine lv_aload_n hx hb dX3_init_108 rfl (lv_at hl 0 rfl) ?_
  refine gf_X3_11 cx hw 0 rfl rfl dX3_init_109 ?_
  refine lv_iconst (v := 1) hx hb dX3_init_112 (by decide) ?_
  obtain ⟨f4, g5, h⟩ := bd_ex h
  refine c_S (As := [.ref (q 1), .int (1 : Int32)]) (rest := []) (w' := (VC g q (v_set_weights d3 f4))) cx hw (c_J7_fill_53178 l g (q 1) 9 N (1 : Int32) (v_weights d3) f4 g5) (cl_X3_48 cx.1.2.2.2.2 ⟨Nat.le_of_ble_eq_true rfl, Nat.le_of_ble_eq_true rfl⟩) (ctV_A_1 ..) hl.1 rfl rfl (Nat.le_of_ble_eq_true rfl) dX3_init_113 ⟨Nat.le_of_ble_eq_true rfl, Nat.le_of_ble_eq_true rfl⟩ (st1 := []) rfl (fun H locs hw => ?_)
  obtain ⟨d6, ed6, h⟩ := lt_ex h
  have hw : Wd g (va_A ([(a, .inr (3, [.null, .null, .null, .null, .null, .null, .null, .null, .null, .null, .null, .null, .int 0, .int 0, .int 0, .int 0]))]) s.heap.size) ((VC g q d6)) s H locs := by rw [ed6]; exact hw
  refine lv_aload_n hx hb dX3_init_116 rfl (lv_at hl 0 rfl) ?_
  refine lv_aload_n hx hb dX3_init_117 rfl (lv_at hl 0 rfl) ?_
  refine gf_X3_18 cx hw 0 rfl rfl dX3_init_118 ?_
  refine lv_iconst (v := 0) hx hb dX3_init_121 (by decide) ?_
  obtain ⟨f7, g8, h⟩ := bd_ex h
  refine c_V (As := [.ref (q 3), .int (0 : Int32)]) (rest := []) (w' := (VC g q (v_set_lowerSums d6 f7))) cx hw (c_X3_sumWeights l g q (q 3) 32 N (0 : Int32) d6 (v_lowerSums d6) f7 g8) (cl_X3_54 cx.1.2.2.2.2 ⟨Nat.le_of_ble_eq_true rfl, Nat.le_of_ble_eq_true rfl⟩) (x_recv cx hw (ci := 3) rfl 0 rfl) (ct_V__0_1_3__VW_A_1 g q d6 f7) hl.1 rfl rfl (Nat.le_of_ble_eq_true rfl) dX3_init_122 ⟨Nat.le_of_ble_eq_true rfl, Nat.le_of_ble_eq_true rfl⟩ (st1 := []) rfl (fun H locs hw => ?_)
  obtain ⟨d9, ed9, h⟩ := lt_ex h
  have hw : Wd g (va_A ([(a, .inr (3, [.null, .null, .null, .null, .null, .null, .null, .null, .null, .null, .null, .null, .int 0, .int 0, .int 0, .int 0]))]) s.heap.size) ((VC g q d9)) s H locs := by rw [ed9]; exact hw
  refine lv_aload_n hx hb dX3_init_125 rfl (lv_at hl 0 rfl) ?_
  refine lv_aload_n hx hb dX3_init_126 rfl (lv_at hl 0 rfl) ?_
  refine gf_X3_21 cx hw 0 rfl rfl dX3_init_127 ?_
  refine lv_iconst (v := 5) hx hb dX3_init_130 (by decide) ?_
  obtain ⟨f10, g11, h⟩ := bd_ex h
  refine c_V (As := [.ref (q 4), .int (5 : Int32)]) (rest := []) (w' := (VC g q (v_set_upperSums d9 f10))) cx hw (c_X3_sumWeights l g q (q 4) 16 N (5 : Int32) d9 (v_upperSums d9) f10 g11) (cl_X3_54 cx.1.2.2.2.2 ⟨Nat.le_of_ble_eq_true rfl, Nat.le_of_ble_eq_true rfl⟩) (x_recv cx hw (ci := 3) rfl 0 rfl) (ct_V__0_1_4__VW_A_1 g q d9 f10) hl.1 rfl rfl (Nat.le_of_ble_eq_true rfl) dX3_init_131 ⟨Nat.le_of_ble_eq_true rfl, Nat.le_of_ble_eq_true rfl⟩ (st1 := []) rfl (fun H locs hw => ?_)
  obtain ⟨d12, ed12, h⟩ := lt_ex h
  have hw : Wd g (va_A ([(a, .inr (3, [.null, .null, .null, .null, .null, .null, .null, .null, .null, .null, .null, .null, .int 0, .int 0, .int 0, .int 0]))]) s.heap.size) ((VC g q d12)) s H locs := by rw [ed12]; exact hw
  refine lv_aload_n hx hb dX3_init_134 rfl (lv_at hl 0 rfl) ?_
  refine gf_X3_36 cx hw 0 rfl rfl dX3_init_135 ?_
  refine lv_bipush (v := 12) hx hb dX3_init_138 (by decide) ?_
  refine lv_iconst (v := -1) hx hb dX3_init_140 (by decide) ?_
  have i13 := ck_in h
  replace h := ck_nx h
  refine x_iast cx hw 9 rfl i13 dX3_init_141 (fun H locs hw => ?_)
  obtain ⟨d14, ed14, h⟩ := lt_ex h
  have hw : Wd g (va_A ([(a, .inr (3, [.null, .null, .null, .null, .null, .null, .null, .null, .null, .null, .null, .null, .int 0, .int 0, .int 0, .int 0]))]) s.heap.size) ((VC g q d14)) s H locs := by rw [ed14]; exact hw
  exact r_x cx hr hlocks hw q hqa.symm (congrArg (fun z0 => (VC g q z0)) (sm_eq h)) dX3_init_142
