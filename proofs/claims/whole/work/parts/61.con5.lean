abbrev rm_X5_init : Room := { frames := 1, cells := 9, slots := 1100, locals := 40 }
def mZ : MD := (fun _ => 0, fun _ => 0, fun _ => 0, fun _ => 0, 0, fun _ => 0, fun _ => 0, 0, upd (upd (upd (upd (fun _ => 0) (0 : Int32).toNatClampNeg (-1)) (1 : Int32).toNatClampNeg (-1)) (2 : Int32).toNatClampNeg (-1)) (3 : Int32).toNatClampNeg (-1), fun _ => 0, fun _ => 0, 0, -1, 0, 0, 0, 0, 0, 0)
def f_X5_init_L102 (N : Nat)   : Nat → Int32 → MD → Option (MD)
  | 0, _, _ => none
  | n102 + 1, a1, d_ =>
  if (9 : Int32) ≤ a1 then
    some d_
  else
    (ck ((3 : Int32) + a1) 201).bind fun _ =>
    lt (m_set_s d_ (upd (m_s d_) (((3 : Int32) + a1)).toNatClampNeg (1 : Int32))) fun d3 =>
    (ck ((12 : Int32) + a1) 201).bind fun _ =>
    lt (m_set_s d3 (upd (m_s d3) (((12 : Int32) + a1)).toNatClampNeg (2 : Int32))) fun d5 =>
    lt (a1 + 1) fun x6 =>
    f_X5_init_L102 N   n102 x6 d5
def f_X5_init (N : Nat) : Option (MD) :=
  f_X5_init_L102 N   N (0 : Int32) mZ
set_option maxHeartbeats 4000000 in
set_option maxRecDepth 100000 in
theorem c_X5_init (l : Launch) (g : gE) (a : Nat) (N : Nat) (d' : MD) (h : f_X5_init N = some d') : MX (fun _ => True) l yX5_init (Cond.code yX5_init cX5_init 2 none :: TB) rm_X5_init a g [(a, .inr (5, [.null, .null, .null, .null, .int 0, .null, .null, .int 0, .null, .null, .null, .int 0, .int 0, .int 0, .int 0, .int 0, .int 0, .int 0, .int 0]))] (fun q => MC g q d') 9 1100 := by
  refine MX.of (cc := cX5_init) (maxL := 2) (by decide) ?_
  intro p e s m below meth c cx hw hr hlocks hin hE
  have hx := cx.1.1
  have hb := cx.1.2.1
  refine en_go (lv := [(0, .ref a)]) (Nat.le_of_ble_eq_true rfl) rfl (fun ls hl => ?_)
  refine lv_aload_n hx hb dX5_init_0 rfl (lv_at hl 0 rfl) ?_
  refine x_oinit cx tw_4_8 hl.1 dX5_init_1 (Nat.le_of_ble_eq_true rfl) (Nat.le_of_ble_eq_true rfl) ?_
  refine W.eq (g2 := F0 m 4 ls []) rfl ?_
  refine lv_aload_n hx hb dX5_init_4 rfl (lv_at hl 0 rfl) ?_
  refine lv_sipush (v := 201) hx hb dX5_init_5 (by decide) ?_
  refine x_newI (k := 201) cx hw (by decide) (by decide) (Nat.le_of_ble_eq_true rfl) (Nat.le_of_ble_eq_true rfl) (Nat.le_of_ble_eq_true rfl) dX5_init_8 (fun b1 H hw => ?_)
  have hw : Wd g (va_A ([(a, .inr (5, [.null, .null, .null, .null, .int 0, .null, .null, .int 0, .null, .null, .null, .int 0, .int 0, .int 0, .int 0, .int 0, .int 0, .int 0, .int 0]))]) s.heap.size) ([(a, .inr (5, [.null, .null, .null, .null, .int 0, .null, .null, .int 0, .null, .null, .null, .int 0, .int 0, .int 0, .int 0, .int 0, .int 0, .int 0, .int 0]))] ++ ([(b1, .inl (gI g, 201, .inl (fun _ => 0)))])) s H _ := hw
  refine x_putF (T := TX5) (k := 0) cx hw inT_X5 rfl (by decide) tw_4_9 rfl tyX5 tyX5_ok nmX5 rfl hin rfl 0 rfl rfl rfl (Nat.le_of_ble_eq_true rfl) dX5_init_10 (fun H locs hw => ?_)
  have hw : Wd g (va_A ([(a, .inr (5, [.null, .null, .null, .null, .int 0, .null, .null, .int 0, .null, .null, .null, .int 0, .int 0, .int 0, .int 0, .int 0, .int 0, .int 0, .int 0]))]) s.heap.size) ([(a, .inr (5, [.ref b1, .null, .null, .null, .int 0, .null, .null, .int 0, .null, .null, .null, .int 0, .int 0, .int 0, .int 0, .int 0, .int 0, .int 0, .int 0]))] ++ ([(b1, .inl (gI g, 201, .inl (fun _ => 0)))])) s H _ := hw
  refine lv_aload_n hx hb dX5_init_13 rfl (lv_at hl 0 rfl) ?_
  refine lv_sipush (v := 201) hx hb dX5_init_14 (by decide) ?_
  refine x_newI (k := 201) cx hw (by decide) (by decide) (Nat.le_of_ble_eq_true rfl) (Nat.le_of_ble_eq_true rfl) (Nat.le_of_ble_eq_true rfl) dX5_init_17 (fun b2 H hw => ?_)
  have hw : Wd g (va_A ([(a, .inr (5, [.null, .null, .null, .null, .int 0, .null, .null, .int 0, .null, .null, .null, .int 0, .int 0, .int 0, .int 0, .int 0, .int 0, .int 0, .int 0]))]) s.heap.size) ([(a, .inr (5, [.ref b1, .null, .null, .null, .int 0, .null, .null, .int 0, .null, .null, .null, .int 0, .int 0, .int 0, .int 0, .int 0, .int 0, .int 0, .int 0]))] ++ ([(b1, .inl (gI g, 201, .inl (fun _ => 0)))] ++ ([(b2, .inl (gI g, 201, .inl (fun _ => 0)))]))) s H _ := hw
  refine x_putF (T := TX5) (k := 1) cx hw inT_X5 rfl (by decide) tw_4_10 rfl tyX5 tyX5_ok nmX5 rfl hin rfl 0 rfl rfl rfl (Nat.le_of_ble_eq_true rfl) dX5_init_19 (fun H locs hw => ?_)
  have hw : Wd g (va_A ([(a, .inr (5, [.null, .null, .null, .null, .int 0, .null, .null, .int 0, .null, .null, .null, .int 0, .int 0, .int 0, .int 0, .int 0, .int 0, .int 0, .int 0]))]) s.heap.size) ([(a, .inr (5, [.ref b1, .ref b2, .null, .null, .int 0, .null, .null, .int 0, .null, .null, .null, .int 0, .int 0, .int 0, .int 0, .int 0, .int 0, .int 0, .int 0]))] ++ ([(b1, .inl (gI g, 201, .inl (fun _ => 0)))] ++ ([(b2, .inl (gI g, 201, .inl (fun _ => 0)))]))) s H _ := hw
  refine lv_aload_n hx hb dX5_init_22 rfl (lv_at hl 0 rfl) ?_
  refine lv_sipush (v := 201) hx hb dX5_init_23 (by decide) ?_
  refine x_newI (k := 201) cx hw (by decide) (by decide) (Nat.le_of_ble_eq_true rfl) (Nat.le_of_ble_eq_true rfl) (Nat.le_of_ble_eq_true rfl) dX5_init_26 (fun b3 H hw => ?_)
  have hw : Wd g (va_A ([(a, .inr (5, [.null, .null, .null, .null, .int 0, .null, .null, .int 0, .null, .null, .null, .int 0, .int 0, .int 0, .int 0, .int 0, .int 0, .int 0, .int 0]))]) s.heap.size) ([(a, .inr (5, [.ref b1, .ref b2, .null, .null, .int 0, .null, .null, .int 0, .null, .null, .null, .int 0, .int 0, .int 0, .int 0, .int 0, .int 0, .int 0, .int 0]))] ++ ([(b1, .inl (gI g, 201, .inl (fun _ => 0)))] ++ ([(b2, .inl (gI g, 201, .inl (fun _ => 0)))] ++ ([(b3, .inl (gI g, 201, .inl (fun _ => 0)))])))) s H _ := hw
  refine x_putF (T := TX5) (k := 2) cx hw inT_X5 rfl (by decide) tw_4_11 rfl tyX5 tyX5_ok nmX5 rfl hin rfl 0 rfl rfl rfl (Nat.le_of_ble_eq_true rfl) dX5_init_28 (fun H locs hw => ?_)
  have hw : Wd g (va_A ([(a, .inr (5, [.null, .null, .null, .null, .int 0, .null, .null, .int 0, .null, .null, .null, .int 0, .int 0, .int 0, .int 0, .int 0, .int 0, .int 0, .int 0]))]) s.heap.size) ([(a, .inr (5, [.ref b1, .ref b2, .ref b3, .null, .int 0, .null, .null, .int 0, .null, .null, .null, .int 0, .int 0, .int 0, .int 0, .int 0, .int 0, .int 0, .int 0]))] ++ ([(b1, .inl (gI g, 201, .inl (fun _ => 0)))] ++ ([(b2, .inl (gI g, 201, .inl (fun _ => 0)))] ++ ([(b3, .inl (gI g, 201, .inl (fun _ => 0)))])))) s H _ := hw
  refine lv_aload_n hx hb dX5_init_31 rfl (lv_at hl 0 rfl) ?_
  refine lv_sipush (v := 201) hx hb dX5_init_32 (by decide) ?_
  refine x_newI (k := 201) cx hw (by decide) (by decide) (Nat.le_of_ble_eq_true rfl) (Nat.le_of_ble_eq_true rfl) (Nat.le_of_ble_eq_true rfl) dX5_init_35 (fun b4 H hw => ?_)
  have hw : Wd g (va_A ([(a, .inr (5, [.null, .null, .null, .null, .int 0, .null, .null, .int 0, .null, .null, .null, .int 0, .int 0, .int 0, .int 0, .int 0, .int 0, .int 0, .int 0]))]) s.heap.size) ([(a, .inr (5, [.ref b1, .ref b2, .ref b3, .null, .int 0, .null, .null, .int 0, .null, .null, .null, .int 0, .int 0, .int 0, .int 0, .int 0, .int 0, .int 0, .int 0]))] ++ ([(b1, .inl (gI g, 201, .inl (fun _ => 0)))] ++ ([(b2, .inl (gI g, 201, .inl (fun _ => 0)))] ++ ([(b3, .inl (gI g, 201, .inl (fun _ => 0)))] ++ ([(b4, .inl (gI g, 201, .inl (fun _ => 0)))]))))) s H _ := hw
  refine x_putF (T := TX5) (k := 3) cx hw inT_X5 rfl (by decide) tw_4_12 rfl tyX5 tyX5_ok nmX5 rfl hin rfl 0 rfl rfl rfl (Nat.le_of_ble_eq_true rfl) dX5_init_37 (fun H locs hw => ?_)
  have hw : Wd g (va_A ([(a, .inr (5, [.null, .null, .null, .null, .int 0, .null, .null, .int 0, .null, .null, .null, .int 0, .int 0, .int 0, .int 0, .int 0, .int 0, .int 0, .int 0]))]) s.heap.size) ([(a, .inr (5, [.ref b1, .ref b2, .ref b3, .ref b4, .int 0, .null, .null, .int 0, .null, .null, .null, .int 0, .int 0, .int 0, .int 0, .int 0, .int 0, .int 0, .int 0]))] ++ ([(b1, .inl (gI g, 201, .inl (fun _ => 0)))] ++ ([(b2, .inl (gI g, 201, .inl (fun _ => 0)))] ++ ([(b3, .inl (gI g, 201, .inl (fun _ => 0)))] ++ ([(b4, .inl (gI g, 201, .inl (fun _ => 0)))]))))) s H _ := hw
  refine lv_aload_n hx hb dX5_init_40 rfl (lv_at hl 0 rfl) ?_
  refine lv_bipush (v := 8) hx hb dX5_init_41 (by decide) ?_
  refine x_newI (k := 8) cx hw (by decide) (by decide) (Nat.le_of_ble_eq_true rfl) (Nat.le_of_ble_eq_true rfl) (Nat.le_of_ble_eq_true rfl) dX5_init_43 (fun b5 H hw => ?_)
  have hw : Wd g (va_A ([(a, .inr (5, [.null, .null, .null, .null, .int 0, .null, .null, .int 0, .null, .null, .null, .int 0, .int 0, .int 0, .int 0, .int 0, .int 0, .int 0, .int 0]))]) s.heap.size) ([(a, .inr (5, [.ref b1, .ref b2, .ref b3, .ref b4, .int 0, .null, .null, .int 0, .null, .null, .null, .int 0, .int 0, .int 0, .int 0, .int 0, .int 0, .int 0, .int 0]))] ++ ([(b1, .inl (gI g, 201, .inl (fun _ => 0)))] ++ ([(b2, .inl (gI g, 201, .inl (fun _ => 0)))] ++ ([(b3, .inl (gI g, 201, .inl (fun _ => 0)))] ++ ([(b4, .inl (gI g, 201, .inl (fun _ => 0)))] ++ ([(b5, .inl (gI g, 8, .inl (fun _ => 0)))])))))) s H _ := hw
  refine x_putF (T := TX5) (k := 5) cx hw inT_X5 rfl (by decide) tw_4_14 rfl tyX5 tyX5_ok nmX5 rfl hin rfl 0 rfl rfl rfl (Nat.le_of_ble_eq_true rfl) dX5_init_45 (fun H locs hw => ?_)
  have hw : Wd g (va_A ([(a, .inr (5, [.null, .null, .null, .null, .int 0, .null, .null, .int 0, .null, .null, .null, .int 0, .int 0, .int 0, .int 0, .int 0, .int 0, .int 0, .int 0]))]) s.heap.size) ([(a, .inr (5, [.ref b1, .ref b2, .ref b3, .ref b4, .int 0, .ref b5, .null, .int 0, .null, .null, .null, .int 0, .int 0, .int 0, .int 0, .int 0, .int 0, .int 0, .int 0]))] ++ ([(b1, .inl (gI g, 201, .inl (fun _ => 0)))] ++ ([(b2, .inl (gI g, 201, .inl (fun _ => 0)))] ++ ([(b3, .inl (gI g, 201, .inl (fun _ => 0)))] ++ ([(b4, .inl (gI g, 201, .inl (fun _ => 0)))] ++ ([(b5, .inl (gI g, 8, .inl (fun _ => 0)))])))))) s H _ := hw
  refine lv_aload_n hx hb dX5_init_48 rfl (lv_at hl 0 rfl) ?_
  refine lv_bipush (v := 120) hx hb dX5_init_49 (by decide) ?_
  refine x_newI (k := 120) cx hw (by decide) (by decide) (Nat.le_of_ble_eq_true rfl) (Nat.le_of_ble_eq_true rfl) (Nat.le_of_ble_eq_true rfl) dX5_init_51 (fun b6 H hw => ?_)
  have hw : Wd g (va_A ([(a, .inr (5, [.null, .null, .null, .null, .int 0, .null, .null, .int 0, .null, .null, .null, .int 0, .int 0, .int 0, .int 0, .int 0, .int 0, .int 0, .int 0]))]) s.heap.size) ([(a, .inr (5, [.ref b1, .ref b2, .ref b3, .ref b4, .int 0, .ref b5, .null, .int 0, .null, .null, .null, .int 0, .int 0, .int 0, .int 0, .int 0, .int 0, .int 0, .int 0]))] ++ ([(b1, .inl (gI g, 201, .inl (fun _ => 0)))] ++ ([(b2, .inl (gI g, 201, .inl (fun _ => 0)))] ++ ([(b3, .inl (gI g, 201, .inl (fun _ => 0)))] ++ ([(b4, .inl (gI g, 201, .inl (fun _ => 0)))] ++ ([(b5, .inl (gI g, 8, .inl (fun _ => 0)))] ++ ([(b6, .inl (gI g, 120, .inl (fun _ => 0)))]))))))) s H _ := hw
  refine x_putF (T := TX5) (k := 6) cx hw inT_X5 rfl (by decide) tw_4_15 rfl tyX5 tyX5_ok nmX5 rfl hin rfl 0 rfl rfl rfl (Nat.le_of_ble_eq_true rfl) dX5_init_53 (fun H locs hw => ?_)
  have hw : Wd g (va_A ([(a, .inr (5, [.null, .null, .null, .null, .int 0, .null, .null, .int 0, .null, .null, .null, .int 0, .int 0, .int 0, .int 0, .int 0, .int 0, .int 0, .int 0]))]) s.heap.size) ([(a, .inr (5, [.ref b1, .ref b2, .ref b3, .ref b4, .int 0, .ref b5, .ref b6, .int 0, .null, .null, .null, .int 0, .int 0, .int 0, .int 0, .int 0, .int 0, .int 0, .int 0]))] ++ ([(b1, .inl (gI g, 201, .inl (fun _ => 0)))] ++ ([(b2, .inl (gI g, 201, .inl (fun _ => 0)))] ++ ([(b3, .inl (gI g, 201, .inl (fun _ => 0)))] ++ ([(b4, .inl (gI g, 201, .inl (fun _ => 0)))] ++ ([(b5, .inl (gI g, 8, .inl (fun _ => 0)))] ++ ([(b6, .inl (gI g, 120, .inl (fun _ => 0)))]))))))) s H _ := hw
  refine lv_aload_n hx hb dX5_init_56 rfl (lv_at hl 0 rfl) ?_
  refine lv_iconst (v := 4) hx hb dX5_init_57 (by decide) ?_
  refine x_newI (k := 4) cx hw (by decide) (by decide) (Nat.le_of_ble_eq_true rfl) (Nat.le_of_ble_eq_true rfl) (Nat.le_of_ble_eq_true rfl) dX5_init_58 (fun b7 H hw => ?_)
  have hw : Wd g (va_A ([(a, .inr (5, [.null, .null, .null, .null, .int 0, .null, .null, .int 0, .null, .null, .null, .int 0, .int 0, .int 0, .int 0, .int 0, .int 0, .int 0, .int 0]))]) s.heap.size) ([(a, .inr (5, [.ref b1, .ref b2, .ref b3, .ref b4, .int 0, .ref b5, .ref b6, .int 0, .null, .null, .null, .int 0, .int 0, .int 0, .int 0, .int 0, .int 0, .int 0, .int 0]))] ++ ([(b1, .inl (gI g, 201, .inl (fun _ => 0)))] ++ ([(b2, .inl (gI g, 201, .inl (fun _ => 0)))] ++ ([(b3, .inl (gI g, 201, .inl (fun _ => 0)))] ++ ([(b4, .inl (gI g, 201, .inl (fun _ => 0)))] ++ ([(b5, .inl (gI g, 8, .inl (fun _ => 0)))] ++ ([(b6, .inl (gI g, 120, .inl (fun _ => 0)))] ++ ([(b7, .inl (gI g, 4, .inl (fun _ => 0)))])))))))) s H _ := hw
  refine lv_dup hx hb dX5_init_60 rfl ?_
  refine lv_iconst (v := 0) hx hb dX5_init_61 (by decide) ?_
  refine lv_iconst (v := -1) hx hb dX5_init_62 (by decide) ?_
  refine x_iast cx hw 7 rfl (vp_in_iff.mpr (by decide)) dX5_init_63 (fun H locs hw => ?_)
  have hw : Wd g (va_A ([(a, .inr (5, [.null, .null, .null, .null, .int 0, .null, .null, .int 0, .null, .null, .null, .int 0, .int 0, .int 0, .int 0, .int 0, .int 0, .int 0, .int 0]))]) s.heap.size) ([(a, .inr (5, [.ref b1, .ref b2, .ref b3, .ref b4, .int 0, .ref b5, .ref b6, .int 0, .null, .null, .null, .int 0, .int 0, .int 0, .int 0, .int 0, .int 0, .int 0, .int 0]))] ++ ([(b1, .inl (gI g, 201, .inl (fun _ => 0)))] ++ ([(b2, .inl (gI g, 201, .inl (fun _ => 0)))] ++ ([(b3, .inl (gI g, 201, .inl (fun _ => 0)))] ++ ([(b4, .inl (gI g, 201, .inl (fun _ => 0)))] ++ ([(b5, .inl (gI g, 8, .inl (fun _ => 0)))] ++ ([(b6, .inl (gI g, 120, .inl (fun _ => 0)))] ++ ([(b7, .inl (gI g, 4, .inl (upd (fun _ => 0) ((0 : Int32)).toNatClampNeg (-1 : Int32))))])))))))) s H _ := hw
  refine lv_dup hx hb dX5_init_64 rfl ?_
  refine lv_iconst (v := 1) hx hb dX5_init_65 (by decide) ?_
  refine lv_iconst (v := -1) hx hb dX5_init_66 (by decide) ?_
  refine x_iast cx hw 7 rfl (vp_in_iff.mpr (by decide)) dX5_init_67 (fun H locs hw => ?_)
  have hw : Wd g (va_A ([(a, .inr (5, [.null, .null, .null, .null, .int 0, .null, .null, .int 0, .null, .null, .null, .int 0, .int 0, .int 0, .int 0, .int 0, .int 0, .int 0, .int 0]))]) s.heap.size) ([(a, .inr (5, [.ref b1, .ref b2, .ref b3, .ref b4, .int 0, .ref b5, .ref b6, .int 0, .null, .null, .null, .int 0, .int 0, .int 0, .int 0, .int 0, .int 0, .int 0, .int 0]))] ++ ([(b1, .inl (gI g, 201, .inl (fun _ => 0)))] ++ ([(b2, .inl (gI g, 201, .inl (fun _ => 0)))] ++ ([(b3, .inl (gI g, 201, .inl (fun _ => 0)))] ++ ([(b4, .inl (gI g, 201, .inl (fun _ => 0)))] ++ ([(b5, .inl (gI g, 8, .inl (fun _ => 0)))] ++ ([(b6, .inl (gI g, 120, .inl (fun _ => 0)))] ++ ([(b7, .inl (gI g, 4, .inl (upd (upd (fun _ => 0) ((0 : Int32)).toNatClampNeg (-1 : Int32)) ((1 : Int32)).toNatClampNeg (-1 : Int32))))])))))))) s H _ := hw
  refine lv_dup hx hb dX5_init_68 rfl ?_
  refine lv_iconst (v := 2) hx hb dX5_init_69 (by decide) ?_
  refine lv_iconst (v := -1) hx hb dX5_init_70 (by decide) ?_
  refine x_iast cx hw 7 rfl (vp_in_iff.mpr (by decide)) dX5_init_71 (fun H locs hw => ?_)
  have hw : Wd g (va_A ([(a, .inr (5, [.null, .null, .null, .null, .int 0, .null, .null, .int 0, .null, .null, .null, .int 0, .int 0, .int 0, .int 0, .int 0, .int 0, .int 0, .int 0]))]) s.heap.size) ([(a, .inr (5, [.ref b1, .ref b2, .ref b3, .ref b4, .int 0, .ref b5, .ref b6, .int 0, .null, .null, .null, .int 0, .int 0, .int 0, .int 0, .int 0, .int 0, .int 0, .int 0]))] ++ ([(b1, .inl (gI g, 201, .inl (fun _ => 0)))] ++ ([(b2, .inl (gI g, 201, .inl (fun _ => 0)))] ++ ([(b3, .inl (gI g, 201, .inl (fun _ => 0)))] ++ ([(b4, .inl (gI g, 201, .inl (fun _ => 0)))] ++ ([(b5, .inl (gI g, 8, .inl (fun _ => 0)))] ++ ([(b6, .inl (gI g, 120, .inl (fun _ => 0)))] ++ ([(b7, .inl (gI g, 4, .inl (upd (upd (upd (fun _ => 0) ((0 : Int32)).toNatClampNeg (-1 : Int32)) ((1 : Int32)).toNatClampNeg (-1 : Int32)) ((2 : Int32)).toNatClampNeg (-1 : Int32))))])))))))) s H _ := hw
  refine lv_dup hx hb dX5_init_72 rfl ?_
  refine lv_iconst (v := 3) hx hb dX5_init_73 (by decide) ?_
  refine lv_iconst (v := -1) hx hb dX5_init_74 (by decide) ?_
  refine x_iast cx hw 7 rfl (vp_in_iff.mpr (by decide)) dX5_init_75 (fun H locs hw => ?_)
  have hw : Wd g (va_A ([(a, .inr (5, [.null, .null, .null, .null, .int 0, .null, .null, .int 0, .null, .null, .null, .int 0, .int 0, .int 0, .int 0, .int 0, .int 0, .int 0, .int 0]))]) s.heap.size) ([(a, .inr (5, [.ref b1, .ref b2, .ref b3, .ref b4, .int 0, .ref b5, .ref b6, .int 0, .null, .null, .null, .int 0, .int 0, .int 0, .int 0, .int 0, .int 0, .int 0, .int 0]))] ++ ([(b1, .inl (gI g, 201, .inl (fun _ => 0)))] ++ ([(b2, .inl (gI g, 201, .inl (fun _ => 0)))] ++ ([(b3, .inl (gI g, 201, .inl (fun _ => 0)))] ++ ([(b4, .inl (gI g, 201, .inl (fun _ => 0)))] ++ ([(b5, .inl (gI g, 8, .inl (fun _ => 0)))] ++ ([(b6, .inl (gI g, 120, .inl (fun _ => 0)))] ++ ([(b7, .inl (gI g, 4, .inl (upd (upd (upd (upd (fun _ => 0) ((0 : Int32)).toNatClampNeg (-1 : Int32)) ((1 : Int32)).toNatClampNeg (-1 : Int32)) ((2 : Int32)).toNatClampNeg (-1 : Int32)) ((3 : Int32)).toNatClampNeg (-1 : Int32))))])))))))) s H _ := hw
  refine x_putF (T := TX5) (k := 8) cx hw inT_X5 rfl (by decide) tw_4_17 rfl tyX5 tyX5_ok nmX5 rfl hin rfl 0 rfl rfl rfl (Nat.le_of_ble_eq_true rfl) dX5_init_76 (fun H locs hw => ?_)
  have hw : Wd g (va_A ([(a, .inr (5, [.null, .null, .null, .null, .int 0, .null, .null, .int 0, .null, .null, .null, .int 0, .int 0, .int 0, .int 0, .int 0, .int 0, .int 0, .int 0]))]) s.heap.size) ([(a, .inr (5, [.ref b1, .ref b2, .ref b3, .ref b4, .int 0, .ref b5, .ref b6, .int 0, .ref b7, .null, .null, .int 0, .int 0, .int 0, .int 0, .int 0, .int 0, .int 0, .int 0]))] ++ ([(b1, .inl (gI g, 201, .inl (fun _ => 0)))] ++ ([(b2, .inl (gI g, 201, .inl (fun _ => 0)))] ++ ([(b3, .inl (gI g, 201, .inl (fun _ => 0)))] ++ ([(b4, .inl (gI g, 201, .inl (fun _ => 0)))] ++ ([(b5, .inl (gI g, 8, .inl (fun _ => 0)))] ++ ([(b6, .inl (gI g, 120, .inl (fun _ => 0)))] ++ ([(b7, .inl (gI g, 4, .inl (upd (upd (upd (upd (fun _ => 0) ((0 : Int32)).toNatClampNeg (-1 : Int32)) ((1 : Int32)).toNatClampNeg (-1 : Int32)) ((2 : Int32)).toNatClampNeg (-1 : Int32)) ((3 : Int32)).toNatClampNeg (-1 : Int32))))])))))))) s H _ := hw
  refine lv_aload_n hx hb dX5_init_79 rfl (lv_at hl 0 rfl) ?_
  refine lv_iconst (v := 4) hx hb dX5_init_80 (by decide) ?_
  refine x_newI (k := 4) cx hw (by decide) (by decide) (Nat.le_of_ble_eq_true rfl) (Nat.le_of_ble_eq_true rfl) (Nat.le_of_ble_eq_true rfl) dX5_init_81 (fun b8 H hw => ?_)
  have hw : Wd g (va_A ([(a, .inr (5, [.null, .null, .null, .null, .int 0, .null, .null, .int 0, .null, .null, .null, .int 0, .int 0, .int 0, .int 0, .int 0, .int 0, .int 0, .int 0]))]) s.heap.size) ([(a, .inr (5, [.ref b1, .ref b2, .ref b3, .ref b4, .int 0, .ref b5, .ref b6, .int 0, .ref b7, .null, .null, .int 0, .int 0, .int 0, .int 0, .int 0, .int 0, .int 0, .int 0]))] ++ ([(b1, .inl (gI g, 201, .inl (fun _ => 0)))] ++ ([(b2, .inl (gI g, 201, .inl (fun _ => 0)))] ++ ([(b3, .inl (gI g, 201, .inl (fun _ => 0)))] ++ ([(b4, .inl (gI g, 201, .inl (fun _ => 0)))] ++ ([(b5, .inl (gI g, 8, .inl (fun _ => 0)))] ++ ([(b6, .inl (gI g, 120, .inl (fun _ => 0)))] ++ ([(b7, .inl (gI g, 4, .inl (upd (upd (upd (upd (fun _ => 0) ((0 : Int32)).toNatClampNeg (-1 : Int32)) ((1 : Int32)).toNatClampNeg (-1 : Int32)) ((2 : Int32)).toNatClampNeg (-1 : Int32)) ((3 : Int32)).toNatClampNeg (-1 : Int32))))] ++ ([(b8, .inl (gI g, 4, .inl (fun _ => 0)))]))))))))) s H _ := hw
  refine x_putF (T := TX5) (k := 9) cx hw inT_X5 rfl (by decide) tw_4_18 rfl tyX5 tyX5_ok nmX5 rfl hin rfl 0 rfl rfl rfl (Nat.le_of_ble_eq_true rfl) dX5_init_83 (fun H locs hw => ?_)
  have hw : Wd g (va_A ([(a, .inr (5, [.null, .null, .null, .null, .int 0, .null, .null, .int 0, .null, .null, .null, .int 0, .int 0, .int 0, .int 0, .int 0, .int 0, .int 0, .int 0]))]) s.heap.size) ([(a, .inr (5, [.ref b1, .ref b2, .ref b3, .ref b4, .int 0, .ref b5, .ref b6, .int 0, .ref b7, .ref b8, .null, .int 0, .int 0, .int 0, .int 0, .int 0, .int 0, .int 0, .int 0]))] ++ ([(b1, .inl (gI g, 201, .inl (fun _ => 0)))] ++ ([(b2, .inl (gI g, 201, .inl (fun _ => 0)))] ++ ([(b3, .inl (gI g, 201, .inl (fun _ => 0)))] ++ ([(b4, .inl (gI g, 201, .inl (fun _ => 0)))] ++ ([(b5, .inl (gI g, 8, .inl (fun _ => 0)))] ++ ([(b6, .inl (gI g, 120, .inl (fun _ => 0)))] ++ ([(b7, .inl (gI g, 4, .inl (upd (upd (upd (upd (fun _ => 0) ((0 : Int32)).toNatClampNeg (-1 : Int32)) ((1 : Int32)).toNatClampNeg (-1 : Int32)) ((2 : Int32)).toNatClampNeg (-1 : Int32)) ((3 : Int32)).toNatClampNeg (-1 : Int32))))] ++ ([(b8, .inl (gI g, 4, .inl (fun _ => 0)))]))))))))) s H _ := hw
  refine lv_aload_n hx hb dX5_init_86 rfl (lv_at hl 0 rfl) ?_
  refine lv_sipush (v := 160) hx hb dX5_init_87 (by decide) ?_
  refine x_newJ (k := 160) cx hw (by decide) (by decide) (Nat.le_of_ble_eq_true rfl) (Nat.le_of_ble_eq_true rfl) (Nat.le_of_ble_eq_true rfl) dX5_init_90 (fun b9 H hw => ?_)
  have hw : Wd g (va_A ([(a, .inr (5, [.null, .null, .null, .null, .int 0, .null, .null, .int 0, .null, .null, .null, .int 0, .int 0, .int 0, .int 0, .int 0, .int 0, .int 0, .int 0]))]) s.heap.size) ([(a, .inr (5, [.ref b1, .ref b2, .ref b3, .ref b4, .int 0, .ref b5, .ref b6, .int 0, .ref b7, .ref b8, .null, .int 0, .int 0, .int 0, .int 0, .int 0, .int 0, .int 0, .int 0]))] ++ ([(b1, .inl (gI g, 201, .inl (fun _ => 0)))] ++ ([(b2, .inl (gI g, 201, .inl (fun _ => 0)))] ++ ([(b3, .inl (gI g, 201, .inl (fun _ => 0)))] ++ ([(b4, .inl (gI g, 201, .inl (fun _ => 0)))] ++ ([(b5, .inl (gI g, 8, .inl (fun _ => 0)))] ++ ([(b6, .inl (gI g, 120, .inl (fun _ => 0)))] ++ ([(b7, .inl (gI g, 4, .inl (upd (upd (upd (upd (fun _ => 0) ((0 : Int32)).toNatClampNeg (-1 : Int32)) ((1 : Int32)).toNatClampNeg (-1 : Int32)) ((2 : Int32)).toNatClampNeg (-1 : Int32)) ((3 : Int32)).toNatClampNeg (-1 : Int32))))] ++ ([(b8, .inl (gI g, 4, .inl (fun _ => 0)))] ++ ([(b9, .inl (gJ g, 160, .inr (.inl (fun _ => 0))))])))))))))) s H _ := hw
  refine x_putF (T := TX5) (k := 10) cx hw inT_X5 rfl (by decide) tw_4_19 rfl tyX5 tyX5_ok nmX5 rfl hin rfl 0 rfl rfl rfl (Nat.le_of_ble_eq_true rfl) dX5_init_92 (fun H locs hw => ?_)
  have hw : Wd g (va_A ([(a, .inr (5, [.null, .null, .null, .null, .int 0, .null, .null, .int 0, .null, .null, .null, .int 0, .int 0, .int 0, .int 0, .int 0, .int 0, .int 0, .int 0]))]) s.heap.size) ([(a, .inr (5, [.ref b1, .ref b2, .ref b3, .ref b4, .int 0, .ref b5, .ref b6, .int 0, .ref b7, .ref b8, .ref b9, .int 0, .int 0, .int 0, .int 0, .int 0, .int 0, .int 0, .int 0]))] ++ ([(b1, .inl (gI g, 201, .inl (fun _ => 0)))] ++ ([(b2, .inl (gI g, 201, .inl (fun _ => 0)))] ++ ([(b3, .inl (gI g, 201, .inl (fun _ => 0)))] ++ ([(b4, .inl (gI g, 201, .inl (fun _ => 0)))] ++ ([(b5, .inl (gI g, 8, .inl (fun _ => 0)))] ++ ([(b6, .inl (gI g, 120, .inl (fun _ => 0)))] ++ ([(b7, .inl (gI g, 4, .inl (upd (upd (upd (upd (fun _ => 0) ((0 : Int32)).toNatClampNeg (-1 : Int32)) ((1 : Int32)).toNatClampNeg (-1 : Int32)) ((2 : Int32)).toNatClampNeg (-1 : Int32)) ((3 : Int32)).toNatClampNeg (-1 : Int32))))] ++ ([(b8, .inl (gI g, 4, .inl (fun _ => 0)))] ++ ([(b9, .inl (gJ g, 160, .inr (.inl (fun _ => 0))))])))))))))) s H _ := hw
  refine lv_aload_n hx hb dX5_init_95 rfl (lv_at hl 0 rfl) ?_
  refine lv_iconst (v := -1) hx hb dX5_init_96 (by decide) ?_
  refine pf_X5_38 cx hw 0 rfl rfl rfl (Nat.le_of_ble_eq_true rfl) dX5_init_97 (fun H locs hw => ?_)
  have hw : Wd g (va_A ([(a, .inr (5, [.null, .null, .null, .null, .int 0, .null, .null, .int 0, .null, .null, .null, .int 0, .int 0, .int 0, .int 0, .int 0, .int 0, .int 0, .int 0]))]) s.heap.size) ([(a, .inr (5, [.ref b1, .ref b2, .ref b3, .ref b4, .int 0, .ref b5, .ref b6, .int 0, .ref b7, .ref b8, .ref b9, .int 0, .int (-1 : Int32), .int 0, .int 0, .int 0, .int 0, .int 0, .int 0]))] ++ ([(b1, .inl (gI g, 201, .inl (fun _ => 0)))] ++ ([(b2, .inl (gI g, 201, .inl (fun _ => 0)))] ++ ([(b3, .inl (gI g, 201, .inl (fun _ => 0)))] ++ ([(b4, .inl (gI g, 201, .inl (fun _ => 0)))] ++ ([(b5, .inl (gI g, 8, .inl (fun _ => 0)))] ++ ([(b6, .inl (gI g, 120, .inl (fun _ => 0)))] ++ ([(b7, .inl (gI g, 4, .inl (upd (upd (upd (upd (fun _ => 0) ((0 : Int32)).toNatClampNeg (-1 : Int32)) ((1 : Int32)).toNatClampNeg (-1 : Int32)) ((2 : Int32)).toNatClampNeg (-1 : Int32)) ((3 : Int32)).toNatClampNeg (-1 : Int32))))] ++ ([(b8, .inl (gI g, 4, .inl (fun _ => 0)))] ++ ([(b9, .inl (gJ g, 160, .inr (.inl (fun _ => 0))))])))))))))) s H _ := hw
  have hw : Wd g (va_A ([(a, .inr (5, [.null, .null, .null, .null, .int 0, .null, .null, .int 0, .null, .null, .null, .int 0, .int 0, .int 0, .int 0, .int 0, .int 0, .int 0, .int 0]))]) s.heap.size) (MC g (qL [a, b1, b2, b3, b4, b5, b6, b7, b8, b9]) mZ) s H _ := hw
  refine W.widen (k := 9) (n := 1100) (Nat.le_of_ble_eq_true rfl) (Nat.le_of_ble_eq_true rfl) ?_
  obtain ⟨q, hq⟩ : ∃ q, q = (qL [a, b1, b2, b3, b4, b5, b6, b7, b8, b9]) := ⟨_, rfl⟩
  rw [← hq] at hw
  have hqa : a = q 0 := by rw [hq]; rfl
  have hl : lv_has ls 2 [(0, .ref (q 0))] := by rw [← hqa]; exact hl
  have L102 : ∀ (n102 : Nat) (a1 : Int32) (d_ : MD) (H : Heap) (locs : List Loc) (ls : Array Slot), Wd g (va_A ([(a, .inr (5, [.null, .null, .null, .null, .int 0, .null, .null, .int 0, .null, .null, .null, .int 0, .int 0, .int 0, .int 0, .int 0, .int 0, .int 0, .int 0]))]) s.heap.size) ((MC g q d_)) s H locs → lv_has ls 2 [(0, .ref (q 0)), (1, .int a1)] → f_X5_init_L102 N   n102 a1 d_ = some d' → W p l e rm_X5_init s m ([.ref a] : List Value).toArray below meth c H locs 9 1100 (MQ below (QX g (fun q => MC g q d') a (va_A ([(a, .inr (5, [.null, .null, .null, .null, .int 0, .null, .null, .int 0, .null, .null, .null, .int 0, .int 0, .int 0, .int 0, .int 0, .int 0, .int 0, .int 0]))]) s.heap.size)) ([.ref a] : List Value).toArray s 9 1100 (va_A ([(a, .inr (5, [.null, .null, .null, .null, .int 0, .null, .null, .int 0, .null, .null, .null, .int 0, .int 0, .int 0, .int 0, .int 0, .int 0, .int 0, .int 0]))]) s.heap.size)) (F0 m 102 ls []) := by
    intro n102
    induction n102 with
    | zero => intro a1 d_ H locs ls hw hl h; exact (Option.some_ne_none _ h.symm).elim
    | succ n102 ih102 =>
      intro a1 d_ H locs ls hw hl h
      rw [f_X5_init_L102] at h
      refine lv_iload_n hx hb dX5_init_102 rfl (lv_at hl 1 rfl) ?_
      refine lv_bipush (v := 9) hx hb dX5_init_103 (by decide) ?_
      refine lv_icmp_ge (tgt := 133) hx hb dX5_init_105 (by decide) (fun c7 => ?_) (fun c7 => ?_)
      · replace h := ite_t c7 h
        exact r_x cx hr hlocks hw q hqa.symm (congrArg (fun z0 => (MC g q z0)) (sm_eq h)) dX5_init_133
      · replace h := ite_f c7 h
        refine lv_aload_n hx hb dX5_init_108 rfl (lv_at hl 0 rfl) ?_
        refine gf_X5_7 cx hw 0 rfl rfl dX5_init_109 ?_
        refine lv_iconst (v := 3) hx hb dX5_init_112 (by decide) ?_
        refine lv_iload_n hx hb dX5_init_113 rfl (lv_at hl 1 rfl) ?_
        refine lv_iadd hx hb dX5_init_114 ?_
        refine lv_iconst (v := 1) hx hb dX5_init_115 (by decide) ?_
        have i8 := ck_in h
        replace h := ck_nx h
        refine x_iast cx hw 1 rfl i8 dX5_init_116 (fun H locs hw => ?_)
        obtain ⟨d9, ed9, h⟩ := lt_ex h
        have hw : Wd g (va_A ([(a, .inr (5, [.null, .null, .null, .null, .int 0, .null, .null, .int 0, .null, .null, .null, .int 0, .int 0, .int 0, .int 0, .int 0, .int 0, .int 0, .int 0]))]) s.heap.size) ((MC g q d9)) s H locs := by rw [ed9]; exact hw
        refine lv_aload_n hx hb dX5_init_117 rfl (lv_at hl 0 rfl) ?_
        refine gf_X5_7 cx hw 0 rfl rfl dX5_init_118 ?_
        refine lv_bipush (v := 12) hx hb dX5_init_121 (by decide) ?_
        refine lv_iload_n hx hb dX5_init_123 rfl (lv_at hl 1 rfl) ?_
        refine lv_iadd hx hb dX5_init_124 ?_
        refine lv_iconst (v := 2) hx hb dX5_init_125 (by decide) ?_
        have i10 := ck_in h
        replace h := ck_nx h
        refine x_iast cx hw 1 rfl i10 dX5_init_126 (fun H locs hw => ?_)
        obtain ⟨d11, ed11, h⟩ := lt_ex h
        have hw : Wd g (va_A ([(a, .inr (5, [.null, .null, .null, .null, .int 0, .null, .null, .int 0, .null, .null, .null, .int 0, .int 0, .int 0, .int 0, .int 0, .int 0, .int 0, .int 0]))]) s.heap.size) ((MC g q d11)) s H locs := by rw [ed11]; exact hw
        obtain ⟨x12, ex12⟩ : ∃ y : Int32, y = (a1 + 1) := ⟨_, rfl⟩
        replace h := lt_nx ex12 h
        refine lv_iinc (v := x12) (lv' := [(1, .int x12), (0, .ref (q 0))]) hx hb dX5_init_127 hl (k := 1) rfl (by rw [ex12]; rfl) (by decide) rfl (fun ls hl => ?_)
        refine lv_goto (tgt := 102) hx hb dX5_init_130 (by decide) ?_
        exact ih102 x12 d11 _ _ _ hw (lv_sub hl [1, 0] rfl) h
  unfold f_X5_init at h
  refine lv_iconst (v := 0) hx hb dX5_init_100 (by decide) ?_
  refine lv_istore_n (lv' := [(1, .int (0 : Int32)), (0, .ref (q 0))]) hx hb dX5_init_101 rfl hl (by decide) rfl (fun ls hl => ?_)
  exact L102 N (0 : Int32) mZ _ _ _ hw (lv_sub hl [1, 0] rfl) h
