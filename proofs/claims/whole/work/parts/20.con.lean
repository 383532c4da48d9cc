section CLINKS
variable {R : Room} {s : State} {args : Array Value}
theorem cl_X3_48 (ht : ∀ w ∈ TB, w.before args s = true) (hR : rm_J7_fill_53178.frames + 1 ≤ R.frames ∧ 8 + (4 + 11) + rm_J7_fill_53178.locals ≤ R.locals) : CallB R s args RX3 48 yJ7_fill_53178 cJ7_fill_53178 4 none (Cond.code yJ7_fill_53178 cJ7_fill_53178 4 none :: TB) rm_J7_fill_53178 0 0 2 ∧ (Cond.static yJ7_fill_53178).before args s = true := cw_S 2 ht tw_1_29 tw_1_30 tw_1_3 tw_1_31 rfl rfl (by decide +kernel) hR
end CLINKS
abbrev rm_X0_init : Room := { frames := 1, cells := 1, slots := 40, locals := 40 }
def sZ : SD := (fun _ => 0, 0, 0)
set_option maxHeartbeats 4000000 in
set_option maxRecDepth 100000 in
theorem c_X0_init (l : Launch) (g : gE) (a : Nat) : MX (fun _ => True) l yX0_init (Cond.code yX0_init cX0_init 1 none :: TB) rm_X0_init a g [(a, .inr (0, [.null, .int 0, .int 0]))] (fun q => SC g q sZ) 1 40 := by
  refine MX.of (cc := cX0_init) (maxL := 1) (by decide) ?_
  intro p e s m below meth c cx hw hr hlocks hin hE
  have hx := cx.1.1
  have hb := cx.1.2.1
  refine en_go (lv := [(0, .ref a)]) (Nat.le_of_ble_eq_true rfl) rfl (fun ls hl => ?_)
  refine lv_aload_n hx hb dX0_init_0 rfl (lv_at hl 0 rfl) ?_
  refine x_oinit cx tw_1_160 hl.1 dX0_init_1 (Nat.le_of_ble_eq_true rfl) (Nat.le_of_ble_eq_true rfl) ?_
  refine W.eq (g2 := F0 m 4 ls []) rfl ?_
  refine lv_aload_n hx hb dX0_init_4 rfl (lv_at hl 0 rfl) ?_
  refine lv_bipush (v := 40) hx hb dX0_init_5 (by decide) ?_
  refine x_newJ (k := 40) cx hw (by decide) (by decide) (Nat.le_of_ble_eq_true rfl) (Nat.le_of_ble_eq_true rfl) (Nat.le_of_ble_eq_true rfl) dX0_init_7 (fun b1 H hw => ?_)
  have hw : Wd g (va_A ([(a, .inr (0, [.null, .int 0, .int 0]))]) s.heap.size) ([(a, .inr (0, [.null, .int 0, .int 0]))] ++ ([(b1, .inl (gJ g, 40, .inr (.inl (fun _ => 0))))])) s H locs := hw
  refine x_putF (T := TX0) (k := 0) cx hw inT_X0 rfl (by decide) tw_1_161 rfl tyX0 tyX0_ok nmX0 rfl hin rfl 0 rfl rfl rfl (Nat.le_of_ble_eq_true rfl) dX0_init_9 (fun H locs hw => ?_)
  have hw : Wd g (va_A ([(a, .inr (0, [.null, .int 0, .int 0]))]) s.heap.size) ([(a, .inr (0, [.ref b1, .int 0, .int 0]))] ++ ([(b1, .inl (gJ g, 40, .inr (.inl (fun _ => 0))))])) s H locs := hw
  refine W.widen (k := 1) (n := 40) (Nat.le_of_ble_eq_true rfl) (Nat.le_of_ble_eq_true rfl) ?_
  exact r_x cx hr hlocks hw (qL [a, b1]) rfl rfl dX0_init_12
abbrev rm_X1_init : Room := { frames := 1, cells := 1, slots := 120, locals := 40 }
def tZ : TD := (fun _ => 0, 0)
set_option maxHeartbeats 4000000 in
set_option maxRecDepth 100000 in
theorem c_X1_init (l : Launch) (g : gE) (a : Nat) : MX (fun _ => True) l yX1_init (Cond.code yX1_init cX1_init 1 none :: TB) rm_X1_init a g [(a, .inr (1, [.null, .int 0]))] (fun q => TC g q tZ) 1 120 := by
  refine MX.of (cc := cX1_init) (maxL := 1) (by decide) ?_
  intro p e s m below meth c cx hw hr hlocks hin hE
  have hx := cx.1.1
  have hb := cx.1.2.1
  refine en_go (lv := [(0, .ref a)]) (Nat.le_of_ble_eq_true rfl) rfl (fun ls hl => ?_)
  refine lv_aload_n hx hb dX1_init_0 rfl (lv_at hl 0 rfl) ?_
  refine x_oinit cx tw_1_123 hl.1 dX1_init_1 (Nat.le_of_ble_eq_true rfl) (Nat.le_of_ble_eq_true rfl) ?_
  refine W.eq (g2 := F0 m 4 ls []) rfl ?_
  refine lv_aload_n hx hb dX1_init_4 rfl (lv_at hl 0 rfl) ?_
  refine lv_bipush (v := 120) hx hb dX1_init_5 (by decide) ?_
  refine x_newB (k := 120) cx hw (by decide) (by decide) (Nat.le_of_ble_eq_true rfl) (Nat.le_of_ble_eq_true rfl) (Nat.le_of_ble_eq_true rfl) dX1_init_7 (fun b1 H hw => ?_)
  have hw : Wd g (va_A ([(a, .inr (1, [.null, .int 0]))]) s.heap.size) ([(a, .inr (1, [.null, .int 0]))] ++ ([(b1, .inl (gB g, 120, .inl (fun _ => 0)))])) s H locs := hw
  refine x_putF (T := TX1) (k := 0) cx hw inT_X1 rfl (by decide) tw_1_124 rfl tyX1 tyX1_ok nmX1 rfl hin rfl 0 rfl rfl rfl (Nat.le_of_ble_eq_true rfl) dX1_init_9 (fun H locs hw => ?_)
  have hw : Wd g (va_A ([(a, .inr (1, [.null, .int 0]))]) s.heap.size) ([(a, .inr (1, [.ref b1, .int 0]))] ++ ([(b1, .inl (gB g, 120, .inl (fun _ => 0)))])) s H locs := hw
  refine W.widen (k := 1) (n := 120) (Nat.le_of_ble_eq_true rfl) (Nat.le_of_ble_eq_true rfl) ?_
  exact r_x cx hr hlocks hw (qL [a, b1]) rfl rfl dX1_init_12
abbrev rm_X2_init : Room := { frames := 2, cells := 2, slots := 122, locals := 60 }
def rZ : RD := (tZ, 0, 0, 0, 0, 0)
set_option maxHeartbeats 4000000 in
set_option maxRecDepth 100000 in
theorem c_X2_init (l : Launch) (g : gE) (a : Nat) : MX (fun _ => True) l yX2_init (Cond.code yX2_init cX2_init 1 none :: TB) rm_X2_init a g [(a, .inr (2, [.null, .int 0, .int 0, .int 0, .int 0, .int 0]))] (fun q => RC g q rZ) 2 122 := by
  refine MX.of (cc := cX2_init) (maxL := 1) (by decide) ?_
  intro p e s m below meth c cx hw hr hlocks hin hE
  have hx := cx.1.1
  have hb := cx.1.2.1
  refine en_go (lv := [(0, .ref a)]) (Nat.le_of_ble_eq_true rfl) rfl (fun ls hl => ?_)
  refine lv_aload_n hx hb dX2_init_0 rfl (lv_at hl 0 rfl) ?_
  refine x_oinit cx tw_1_117 hl.1 dX2_init_1 (Nat.le_of_ble_eq_true rfl) (Nat.le_of_ble_eq_true rfl) ?_
  refine W.eq (g2 := F0 m 4 ls []) rfl ?_
  refine lv_aload_n hx hb dX2_init_4 rfl (lv_at hl 0 rfl) ?_
  refine x_new (ci := 1) (fs := [.null, .int 0]) (C := RX1) (T := TX1) (N := 2) cx hw inT_X1 rfl tyX1 tyX1_ok tw_1_118 tw_1_119 tw_1_5 (fun j hj => by rcases (show j = 0 ∨ j = 1 by omega) with rfl | rfl <;> rfl) (Nat.le_of_ble_eq_true rfl) (Nat.le_of_ble_eq_true rfl) dX2_init_5 (fun b1 H hw => ?_)
  have hw : Wd g (va_A ([(a, .inr (2, [.null, .int 0, .int 0, .int 0, .int 0, .int 0]))]) s.heap.size) ([(a, .inr (2, [.null, .int 0, .int 0, .int 0, .int 0, .int 0]))] ++ ([(b1, .inr (1, [.null, .int 0]))])) s H locs := hw
  refine lv_dup hx hb dX2_init_8 rfl ?_
  have hw : Wd g (va_A ([(a, .inr (2, [.null, .int 0, .int 0, .int 0, .int 0, .int 0]))]) s.heap.size) (([(a, .inr (2, [.null, .int 0, .int 0, .int 0, .int 0, .int 0]))]) ++ [(b1, .inr (1, [.null, .int 0]))]) s H locs := hw
  refine c_XN (rest := [.ref b1, .ref a]) cx hw (c_X1_init l g b1) (fun _ _ _ z => z) (fun _ _ => trivial) ⟨cw_N 0 cx.1.2.2.2.2 (nw_3 cx.2.2.1) tw_1_5 tw_1_122 rfl rfl (by decide +kernel) ⟨(Nat.le_of_ble_eq_true rfl), (Nat.le_of_ble_eq_true rfl)⟩, rfl, cx.1.2.2.2.2 _ tw_1_121⟩ hl.1 rfl (Nat.le_of_ble_eq_true rfl) dX2_init_9 ⟨(Nat.le_of_ble_eq_true rfl), (Nat.le_of_ble_eq_true rfl)⟩ (fun q2 H locs e3 hw => ?_)
  have hw : Wd g (va_A ([(a, .inr (2, [.null, .int 0, .int 0, .int 0, .int 0, .int 0]))]) s.heap.size) ([(a, .inr (2, [.null, .int 0, .int 0, .int 0, .int 0, .int 0]))] ++ (TC g q2 tZ)) s H locs := hw
  refine x_putF (T := TX2) (k := 0) cx hw inT_X2 rfl (by decide) tw_1_134 rfl tyX2 tyX2_ok nmX2 rfl hin rfl 0 rfl rfl rfl (Nat.le_of_ble_eq_true rfl) dX2_init_12 (fun H locs hw => ?_)
  have hw : Wd g (va_A ([(a, .inr (2, [.null, .int 0, .int 0, .int 0, .int 0, .int 0]))]) s.heap.size) ([(a, .inr (2, [.ref b1, .int 0, .int 0, .int 0, .int 0, .int 0]))] ++ (TC g q2 tZ)) s H locs := hw
  refine W.widen (k := 2) (n := 122) (Nat.le_of_ble_eq_true rfl) (Nat.le_of_ble_eq_true rfl) ?_
  subst e3
  exact r_x cx hr hlocks hw (qL [a, q2 0, q2 1]) rfl rfl dX2_init_15
abbrev rm_X3_init : Room := { frames := 2, cells := 12, slots := 164, locals := 46 }
def vZ : VD := (fun _ => 0, fun _ => 0, fun _ => 0, fun _ => 0, fun _ => 0, fun _ => 0, fun _ => 0, fun _ => 0, fun _ => 0, fun _ => 0, fun _ => 0, fun _ => 0, 0, 0, 0, 0)
def f_X3_init (N : Nat) : Option (VD) :=
  (f_J7_fill_53178 N 9 (2 : Int32) (v_costs vZ)).bind fun f1 =>
  lt (v_set_costs vZ f1) fun d3 =>
  (f_J7_fill_53178 N 9 (1 : Int32) (v_weights d3)).bind fun f4 =>
  lt (v_set_weights d3 f4) fun d6 =>
  (f_X3_sumWeights N 32 (0 : Int32) d6 (v_lowerSums d6)).bind fun f7 =>
  lt (v_set_lowerSums d6 f7) fun d9 =>
  (f_X3_sumWeights N 16 (5 : Int32) d9 (v_upperSums d9)).bind fun f10 =>
  lt (v_set_upperSums d9 f10) fun d12 =>
  (ck (12 : Int32) 13).bind fun _ =>
  lt (v_set_children d12 (upd (v_children d12) ((12 : Int32)).toNatClampNeg (-1 : Int32))) fun d14 =>
  some d14
set_option maxHeartbeats 4000000 in
set_option maxRecDepth 100000 in
theorem c_X3_init (l : Launch) (g : gE) (a : Nat) (N : Nat) (d' : VD) (h : f_X3_init N = some d') : MX (fun _ => True) l yX3_init (Cond.code yX3_init cX3_init 1 none :: TB) rm_X3_init a g [(a, .inr (3, [.null, .null, .null, .null, .null, .null, .null, .null, .null, .null, .null, .null, .int 0, .int 0, .int 0, .int 0]))] (fun q => VC g q d') 12 164 := by
  refine MX.of (cc := cX3_init) (maxL := 1) (by decide) ?_
  intro p e s m below meth c cx hw hr hlocks hin hE
  have hx := cx.1.1
  have hb := cx.1.2.1
  refine en_go (lv := [(0, .ref a)]) (Nat.le_of_ble_eq_true rfl) rfl (fun ls hl => ?_)
  refine lv_aload_n hx hb dX3_init_0 rfl (lv_at hl 0 rfl) ?_
  refine x_oinit cx tw_1_28 hl.1 dX3_init_1 (Nat.le_of_ble_eq_true rfl) (Nat.le_of_ble_eq_true rfl) ?_
  refine W.eq (g2 := F0 m 4 ls []) rfl ?_
  refine lv_aload_n hx hb dX3_init_4 rfl (lv_at hl 0 rfl) ?_
  refine lv_bipush (v := 9) hx hb dX3_init_5 (by decide) ?_
  refine x_newI (k := 9) cx hw (by decide) (by decide) (Nat.le_of_ble_eq_true rfl) (Nat.le_of_ble_eq_true rfl) (Nat.le_of_ble_eq_true rfl) dX3_init_7 (fun b1 H hw => ?_)
  have hw : Wd g (va_A ([(a, .inr (3, [.null, .null, .null, .null, .null, .null, .null, .null, .null, .null, .null, .null, .int 0, .int 0, .int 0, .int 0]))]) s.heap.size) ([(a, .inr (3, [.null, .null, .null, .null, .null, .null, .null, .null, .null, .null, .null, .null, .int 0, .int 0, .int 0, .int 0]))] ++ ([(b1, .inl (gI g, 9, .inl (fun _ => 0)))])) s H locs := hw
  refine x_putF (T := TX3) (k := 0) cx hw inT_X3 rfl (by decide) tw_1_42 rfl tyX3 tyX3_ok nmX3 rfl hin rfl 0 rfl rfl rfl (Nat.le_of_ble_eq_true rfl) dX3_init_9 (fun H locs hw => ?_)
  have hw : Wd g (va_A ([(a, .inr (3, [.null, .null, .null, .null, .null, .null, .null, .null, .null, .null, .null, .null, .int 0, .int 0, .int 0, .int 0]))]) s.heap.size) ([(a, .inr (3, [.ref b1, .null, .null, .null, .null, .null, .null, .null, .null, .null, .null, .null, .int 0, .int 0, .int 0, .int 0]))] ++ ([(b1, .inl (gI g, 9, .inl (fun _ => 0)))])) s H locs := hw
  refine lv_aload_n hx hb dX3_init_12 rfl (lv_at hl 0 rfl) ?_
  refine lv_bipush (v := 9) hx hb dX3_init_13 (by decide) ?_
  refine x_newI (k := 9) cx hw (by decide) (by decide) (Nat.le_of_ble_eq_true rfl) (Nat.le_of_ble_eq_true rfl) (Nat.le_of_ble_eq_true rfl) dX3_init_15 (fun b2 H hw => ?_)
  have hw : Wd g (va_A ([(a, .inr (3, [.null, .null, .null, .null, .null, .null, .null, .null, .null, .null, .null, .null, .int 0, .int 0, .int 0, .int 0]))]) s.heap.size) ([(a, .inr (3, [.ref b1, .null, .null, .null, .null, .null, .null, .null, .null, .null, .null, .null, .int 0, .int 0, .int 0, .int 0]))] ++ ([(b1, .inl (gI g, 9, .inl (fun _ => 0)))] ++ ([(b2, .inl (gI g, 9, .inl (fun _ => 0)))]))) s H locs := hw
  refine x_putF (T := TX3) (k := 1) cx hw inT_X3 rfl (by decide) tw_1_43 rfl tyX3 tyX3_ok nmX3 rfl hin rfl 0 rfl rfl rfl (Nat.le_of_ble_eq_true rfl) dX3_init_17 (fun H locs hw => ?_)
  have hw : Wd g (va_A ([(a, .inr (3, [.null, .null, .null, .null, .null, .null, .null, .null, .null, .null, .null, .null, .int 0, .int 0, .int 0, .int 0]))]) s.heap.size) ([(a, .inr (3, [.ref b1, .ref b2, .null, .null, .null, .null, .null, .null, .null, .null, .null, .null, .int 0, .int 0, .int 0, .int 0]))] ++ ([(b1, .inl (gI g, 9, .inl (fun _ => 0)))] ++ ([(b2, .inl (gI g, 9, .inl (fun _ => 0)))]))) s H locs := hw
  refine lv_aload_n hx hb dX3_init_20 rfl (lv_at hl 0 rfl) ?_
  refine lv_bipush (v := 32) hx hb dX3_init_21 (by decide) ?_
  refine x_newI (k := 32) cx hw (by decide) (by decide) (Nat.le_of_ble_eq_true rfl) (Nat.le_of_ble_eq_true rfl) (Nat.le_of_ble_eq_true rfl) dX3_init_23 (fun b3 H hw => ?_)
  have hw : Wd g (va_A ([(a, .inr (3, [.null, .null, .null, .null, .null, .null, .null, .null, .null, .null, .null, .null, .int 0, .int 0, .int 0, .int 0]))]) s.heap.size) ([(a, .inr (3, [.ref b1, .ref b2, .null, .null, .null, .null, .null, .null, .null, .null, .null, .null, .int 0, .int 0, .int 0, .int 0]))] ++ ([(b1, .inl (gI g, 9, .inl (fun _ => 0)))] ++ ([(b2, .inl (gI g, 9, .inl (fun _ => 0)))] ++ ([(b3, .inl (gI g, 32, .inl (fun _ => 0)))])))) s H locs := hw
  refine x_putF (T := TX3) (k := 2) cx hw inT_X3 rfl (by decide) tw_1_46 rfl tyX3 tyX3_ok nmX3 rfl hin rfl 0 rfl rfl rfl (Nat.le_of_ble_eq_true rfl) dX3_init_25 (fun H locs hw => ?_)
  have hw : Wd g (va_A ([(a, .inr (3, [.null, .null, .null, .null, .null, .null, .null, .null, .null, .null, .null, .null, .int 0, .int 0, .int 0, .int 0]))]) s.heap.size) ([(a, .inr (3, [.ref b1, .ref b2, .ref b3, .null, .null, .null, .null, .null, .null, .null, .null, .null, .int 0, .int 0, .int 0, .int 0]))] ++ ([(b1, .inl (gI g, 9, .inl (fun _ => 0)))] ++ ([(b2, .inl (gI g, 9, .inl (fun _ => 0)))] ++ ([(b3, .inl (gI g, 32, .inl (fun _ => 0)))])))) s H locs := hw
  refine lv_aload_n hx hb dX3_init_28 rfl (lv_at hl 0 rfl) ?_
  refine lv_bipush (v := 16) hx hb dX3_init_29 (by decide) ?_
  refine x_newI (k := 16) cx hw (by decide) (by decide) (Nat.le_of_ble_eq_true rfl) (Nat.le_of_ble_eq_true rfl) (Nat.le_of_ble_eq_true rfl) dX3_init_31 (fun b4 H hw => ?_)
  have hw : Wd g (va_A ([(a, .inr (3, [.null, .null, .null, .null, .null, .null, .null, .null, .null, .null, .null, .null, .int 0, .int 0, .int 0, .int 0]))]) s.heap.size) ([(a, .inr (3, [.ref b1, .ref b2, .ref b3, .null, .null, .null, .null, .null, .null, .null, .null, .null, .int 0, .int 0, .int 0, .int 0]))] ++ ([(b1, .inl (gI g, 9, .inl (fun _ => 0)))] ++ ([(b2, .inl (gI g, 9, .inl (fun _ => 0)))] ++ ([(b3, .inl (gI g, 32, .inl (fun _ => 0)))] ++ ([(b4, .inl (gI g, 16, .inl (fun _ => 0)))]))))) s H locs := hw
  refine x_putF (T := TX3) (k := 3) cx hw inT_X3 rfl (by decide) tw_1_47 rfl tyX3 tyX3_ok nmX3 rfl hin rfl 0 rfl rfl rfl (Nat.le_of_ble_eq_true rfl) dX3_init_33 (fun H locs hw => ?_)
  have hw : Wd g (va_A ([(a, .inr (3, [.null, .null, .null, .null, .null, .null, .null, .null, .null, .null, .null, .null, .int 0, .int 0, .int 0, .int 0]))]) s.heap.size) ([(a, .inr (3, [.ref b1, .ref b2, .ref b3, .ref b4, .null, .null, .null, .null, .null, .null, .null, .null, .int 0, .int 0, .int 0, .int 0]))] ++ ([(b1, .inl (gI g, 9, .inl (fun _ => 0)))] ++ ([(b2, .inl (gI g, 9, .inl (fun _ => 0)))] ++ ([(b3, .inl (gI g, 32, .inl (fun _ => 0)))] ++ ([(b4, .inl (gI g, 16, .inl (fun _ => 0)))]))))) s H locs := hw
  refine lv_aload_n hx hb dX3_init_36 rfl (lv_at hl 0 rfl) ?_
  refine lv_bipush (v := 12) hx hb dX3_init_37 (by decide) ?_
  refine x_newI (k := 12) cx hw (by decide) (by decide) (Nat.le_of_ble_eq_true rfl) (Nat.le_of_ble_eq_true rfl) (Nat.le_of_ble_eq_true rfl) dX3_init_39 (fun b5 H hw => ?_)
  have hw : Wd g (va_A ([(a, .inr (3, [.null, .null, .null, .null, .null, .null, .null, .null, .null, .null, .null, .null, .int 0, .int 0, .int 0, .int 0]))]) s.heap.size) ([(a, .inr (3, [.ref b1, .ref b2, .ref b3, .ref b4, .null, .null, .null, .null, .null, .null, .null, .null, .int 0, .int 0, .int 0, .int 0]))] ++ ([(b1, .inl (gI g, 9, .inl (fun _ => 0)))] ++ ([(b2, .inl (gI g, 9, .inl (fun _ => 0)))] ++ ([(b3, .inl (gI g, 32, .inl (fun _ => 0)))] ++ ([(b4, .inl (gI g, 16, .inl (fun _ => 0)))] ++ ([(b5, .inl (gI g, 12, .inl (fun _ => 0)))])))))) s H locs := hw
  refine x_putF (T := TX3) (k := 4) cx hw inT_X3 rfl (by decide) tw_1_48 rfl tyX3 tyX3_ok nmX3 rfl hin rfl 0 rfl rfl rfl (Nat.le_of_ble_eq_true rfl) dX3_init_41 (fun H locs hw => ?_)
  have hw : Wd g (va_A ([(a, .inr (3, [.null, .null, .null, .null, .null, .null, .null, .null, .null, .null, .null, .null, .int 0, .int 0, .int 0, .int 0]))]) s.heap.size) ([(a, .inr (3, [.ref b1, .ref b2, .ref b3, .ref b4, .ref b5, .null, .null, .null, .null, .null, .null, .null, .int 0, .int 0, .int 0, .int 0]))] ++ ([(b1, .inl (gI g, 9, .inl (fun _ => 0)))] ++ ([(b2, .inl (gI g, 9, .inl (fun _ => 0)))] ++ ([(b3, .inl (gI g, 32, .inl (fun _ => 0)))] ++ ([(b4, .inl (gI g, 16, .inl (fun _ => 0)))] ++ ([(b5, .inl (gI g, 12, .inl (fun _ => 0)))])))))) s H locs := hw
  refine lv_aload_n hx hb dX3_init_44 rfl (lv_at hl 0 rfl) ?_
  refine lv_bipush (v := 12) hx hb dX3_init_45 (by decide) ?_
  refine x_newI (k := 12) cx hw (by decide) (by decide) (Nat.le_of_ble_eq_true rfl) (Nat.le_of_ble_eq_true rfl) (Nat.le_of_ble_eq_true rfl) dX3_init_47 (fun b6 H hw => ?_)
  have hw : Wd g (va_A ([(a, .inr (3, [.null, .null, .null, .null, .null, .null, .null, .null, .null, .null, .null, .null, .int 0, .int 0, .int 0, .int 0]))]) s.heap.size) ([(a, .inr (3, [.ref b1, .ref b2, .ref b3, .ref b4, .ref b5, .null, .null, .null, .null, .null, .null, .null, .int 0, .int 0, .int 0, .int 0]))] ++ ([(b1, .inl (gI g, 9, .inl (fun _ => 0)))] ++ ([(b2, .inl (gI g, 9, .inl (fun _ => 0)))] ++ ([(b3, .inl (gI g, 32, .inl (fun _ => 0)))] ++ ([(b4, .inl (gI g, 16, .inl (fun _ => 0)))] ++ ([(b5, .inl (gI g, 12, .inl (fun _ => 0)))] ++ ([(b6, .inl (gI g, 12, .inl (fun _ => 0)))]))))))) s H locs := hw
  refine x_putF (T := TX3) (k := 5) cx hw inT_X3 rfl (by decide) tw_1_50 rfl tyX3 tyX3_ok nmX3 rfl hin rfl 0 rfl rfl rfl (Nat.le_of_ble_eq_true rfl) dX3_init_49 (fun H locs hw => ?_)
  have hw : Wd g (va_A ([(a, .inr (3, [.null, .null, .null, .null, .null, .null, .null, .null, .null, .null, .null, .null, .int 0, .int 0, .int 0, .int 0]))]) s.heap.size) ([(a, .inr (3, [.ref b1, .ref b2, .ref b3, .ref b4, .ref b5, .ref b6, .null, .null, .null, .null, .null, .null, .int 0, .int 0, .int 0, .int 0]))] ++ ([(b1, .inl (gI g, 9, .inl (fun _ => 0)))] ++ ([(b2, .inl (gI g, 9, .inl (fun _ => 0)))] ++ ([(b3, .inl (gI g, 32, .inl (fun _ => 0)))] ++ ([(b4, .inl (gI g, 16, .inl (fun _ => 0)))] ++ ([(b5, .inl (gI g, 12, .inl (fun _ => 0)))] ++ ([(b6, .inl (gI g, 12, .inl (fun _ => 0)))]))))))) s H locs := hw
  refine lv_aload_n hx hb dX3_init_52 rfl (lv_at hl 0 rfl) ?_
  refine lv_bipush (v := 12) hx hb dX3_init_53 (by decide) ?_
  refine x_newI (k := 12) cx hw (by decide) (by decide) (Nat.le_of_ble_eq_true rfl) (Nat.le_of_ble_eq_true rfl) (Nat.le_of_ble_eq_true rfl) dX3_init_55 (fun b7 H hw => ?_)
  have hw : Wd g (va_A ([(a, .inr (3, [.null, .null, .null, .null, .null, .null, .null, .null, .null, .null, .null, .null, .int 0, .int 0, .int 0, .int 0]))]) s.heap.size) ([(a, .inr (3, [.ref b1, .ref b2, .ref b3, .ref b4, .ref b5, .ref b6, .null, .null, .null, .null, .null, .null, .int 0, .int 0, .int 0, .int 0]))] ++ ([(b1, .inl (gI g, 9, .inl (fun _ => 0)))] ++ ([(b2, .inl (gI g, 9, .inl (fun _ => 0)))] ++ ([(b3, .inl (gI g, 32, .inl (fun _ => 0)))] ++ ([(b4, .inl (gI g, 16, .inl (fun _ => 0)))] ++ ([(b5, .inl (gI g, 12, .inl (fun _ => 0)))] ++ ([(b6, .inl (gI g, 12, .inl (fun _ => 0)))] ++ ([(b7, .inl (gI g, 12, .inl (fun _ => 0)))])))))))) s H locs := hw
  refine x_putF (T := TX3) (k := 6) cx hw inT_X3 rfl (by decide) tw_1_53 rfl tyX3 tyX3_ok nmX3 rfl hin rfl 0 rfl rfl rfl (Nat.le_of_ble_eq_true rfl) dX3_init_57 (fun H locs hw => ?_)
  have hw : Wd g (va_A ([(a, .inr (3, [.null, .null, .null, .null, .null, .null, .null, .null, .null, .null, .null, .null, .int 0, .int 0, .int 0, .int 0]))]) s.heap.size) ([(a, .inr (3, [.ref b1, .ref b2, .ref b3, .ref b4, .ref b5, .ref b6, .ref b7, .null, .null, .null, .null, .null, .int 0, .int 0, .int 0, .int 0]))] ++ ([(b1, .inl (gI g, 9, .inl (fun _ => 0)))] ++ ([(b2, .inl (gI g, 9, .inl (fun _ => 0)))] ++ ([(b3, .inl (gI g, 32, .inl (fun _ => 0)))] ++ ([(b4, .inl (gI g, 16, .inl (fun _ => 0)))] ++ ([(b5, .inl (gI g, 12, .inl (fun _ => 0)))] ++ ([(b6, .inl (gI g, 12, .inl (fun _ => 0)))] ++ ([(b7, .inl (gI g, 12, .inl (fun _ => 0)))])))))))) s H locs := hw
  refine lv_aload_n hx hb dX3_init_60 rfl (lv_at hl 0 rfl) ?_
  refine lv_bipush (v := 12) hx hb dX3_init_61 (by decide) ?_
  refine x_newI (k := 12) cx hw (by decide) (by decide) (Nat.le_of_ble_eq_true rfl) (Nat.le_of_ble_eq_true rfl) (Nat.le_of_ble_eq_true rfl) dX3_init_63 (fun b8 H hw => ?_)
  have hw : Wd g (va_A ([(a, .inr (3, [.null, .null, .null, .null, .null, .null, .null, .null, .null, .null, .null, .null, .int 0, .int 0, .int 0, .int 0]))]) s.heap.size) ([(a, .inr (3, [.ref b1, .ref b2, .ref b3, .ref b4, .ref b5, .ref b6, .ref b7, .null, .null, .null, .null, .null, .int 0, .int 0, .int 0, .int 0]))] ++ ([(b1, .inl (gI g, 9, .inl (fun _ => 0)))] ++ ([(b2, .inl (gI g, 9, .inl (fun _ => 0)))] ++ ([(b3, .inl (gI g, 32, .inl (fun _ => 0)))] ++ ([(b4, .inl (gI g, 16, .inl (fun _ => 0)))] ++ ([(b5, .inl (gI g, 12, .inl (fun _ => 0)))] ++ ([(b6, .inl (gI g, 12, .inl (fun _ => 0)))] ++ ([(b7, .inl (gI g, 12, .inl (fun _ => 0)))] ++ ([(b8, .inl (gI g, 12, .inl (fun _ => 0)))]))))))))) s H locs := hw
  refine x_putF (T := TX3) (k := 7) cx hw inT_X3 rfl (by decide) tw_1_56 rfl tyX3 tyX3_ok nmX3 rfl hin rfl 0 rfl rfl rfl (Nat.le_of_ble_eq_true rfl) dX3_init_65 (fun H locs hw => ?_)
  have hw : Wd g (va_A ([(a, .inr (3, [.null, .null, .null, .null, .null, .null, .null, .null, .null, .null, .null, .null, .int 0, .int 0, .int 0, .int 0]))]) s.heap.size) ([(a, .inr (3, [.ref b1, .ref b2, .ref b3, .ref b4, .ref b5, .ref b6, .ref b7, .ref b8, .null, .null, .null, .null, .int 0, .int 0, .int 0, .int 0]))] ++ ([(b1, .inl (gI g, 9, .inl (fun _ => 0)))] ++ ([(b2, .inl (gI g, 9, .inl (fun _ => 0)))] ++ ([(b3, .inl (gI g, 32, .inl (fun _ => 0)))] ++ ([(b4, .inl (gI g, 16, .inl (fun _ => 0)))] ++ ([(b5, .inl (gI g, 12, .inl (fun _ => 0)))] ++ ([(b6, .inl (gI g, 12, .inl (fun _ => 0)))] ++ ([(b7, .inl (gI g, 12, .inl (fun _ => 0)))] ++ ([(b8, .inl (gI g, 12, .inl (fun _ => 0)))]))))))))) s H locs := hw
  refine lv_aload_n hx hb dX3_init_68 rfl (lv_at hl 0 rfl) ?_
  refine lv_bipush (v := 13) hx hb dX3_init_69 (by decide) ?_
  refine x_newI (k := 13) cx hw (by decide) (by decide) (Nat.le_of_ble_eq_true rfl) (Nat.le_of_ble_eq_true rfl) (Nat.le_of_ble_eq_true rfl) dX3_init_71 (fun b9 H hw => ?_)
  have hw : Wd g (va_A ([(a, .inr (3, [.null, .null, .null, .null, .null, .null, .null, .null, .null, .null, .null, .null, .int 0, .int 0, .int 0, .int 0]))]) s.heap.size) ([(a, .inr (3, [.ref b1, .ref b2, .ref b3, .ref b4, .ref b5, .ref b6, .ref b7, .ref b8, .null, .null, .null, .null, .int 0, .int 0, .int 0, .int 0]))] ++ ([(b1, .inl (gI g, 9, .inl (fun _ => 0)))] ++ ([(b2, .inl (gI g, 9, .inl (fun _ => 0)))] ++ ([(b3, .inl (gI g, 32, .inl (fun _ => 0)))] ++ ([(b4, .inl (gI g, 16, .inl (fun _ => 0)))] ++ ([(b5, .inl (gI g, 12, .inl (fun _ => 0)))] ++ ([(b6, .inl (gI g, 12, .inl (fun _ => 0)))] ++ ([(b7, .inl (gI g, 12, .inl (fun _ => 0)))] ++ ([(b8, .inl (gI g, 12, .inl (fun _ => 0)))] ++ ([(b9, .inl (gI g, 13, .inl (fun _ => 0)))])))))))))) s H locs := hw
  refine x_putF (T := TX3) (k := 8) cx hw inT_X3 rfl (by decide) tw_1_59 rfl tyX3 tyX3_ok nmX3 rfl hin rfl 0 rfl rfl rfl (Nat.le_of_ble_eq_true rfl) dX3_init_73 (fun H locs hw => ?_)
  have hw : Wd g (va_A ([(a, .inr (3, [.null, .null, .null, .null, .null, .null, .null, .null, .null, .null, .null, .null, .int 0, .int 0, .int 0, .int 0]))]) s.heap.size) ([(a, .inr (3, [.ref b1, .ref b2, .ref b3, .ref b4, .ref b5, .ref b6, .ref b7, .ref b8, .ref b9, .null, .null, .null, .int 0, .int 0, .int 0, .int 0]))] ++ ([(b1, .inl (gI g, 9, .inl (fun _ => 0)))] ++ ([(b2, .inl (gI g, 9, .inl (fun _ => 0)))] ++ ([(b3, .inl (gI g, 32, .inl (fun _ => 0)))] ++ ([(b4, .inl (gI g, 16, .inl (fun _ => 0)))] ++ ([(b5, .inl (gI g, 12, .inl (fun _ => 0)))] ++ ([(b6, .inl (gI g, 12, .inl (fun _ => 0)))] ++ ([(b7, .inl (gI g, 12, .inl (fun _ => 0)))] ++ ([(b8, .inl (gI g, 12, .inl (fun _ => 0)))] ++ ([(b9, .inl (gI g, 13, .inl (fun _ => 0)))])))))))))) s H locs := hw
  refine lv_aload_n hx hb dX3_init_76 rfl (lv_at hl 0 rfl) ?_
  refine lv_bipush (v := 13) hx hb dX3_init_77 (by decide) ?_
  refine x_newI (k := 13) cx hw (by decide) (by decide) (Nat.le_of_ble_eq_true rfl) (Nat.le_of_ble_eq_true rfl) (Nat.le_of_ble_eq_true rfl) dX3_init_79 (fun b10 H hw => ?_)
  have hw : Wd g (va_A ([(a, .inr (3, [.null, .null, .null, .null, .null, .null, .null, .null, .null, .null, .null, .null, .int 0, .int 0, .int 0, .int 0]))]) s.heap.size) ([(a, .inr (3, [.ref b1, .ref b2, .ref b3, .ref b4, .ref b5, .ref b6, .ref b7, .ref b8, .ref b9, .null, .null, .null, .int 0, .int 0, .int 0, .int 0]))] ++ ([(b1, .inl (gI g, 9, .inl (fun _ => 0)))] ++ ([(b2, .inl (gI g, 9, .inl (fun _ => 0)))] ++ ([(b3, .inl (gI g, 32, .inl (fun _ => 0)))] ++ ([(b4, .inl (gI g, 16, .inl (fun _ => 0)))] ++ ([(b5, .inl (gI g, 12, .inl (fun _ => 0)))] ++ ([(b6, .inl (gI g, 12, .inl (fun _ => 0)))] ++ ([(b7, .inl (gI g, 12, .inl (fun _ => 0)))] ++ ([(b8, .inl (gI g, 12, .inl (fun _ => 0)))] ++ ([(b9, .inl (gI g, 13, .inl (fun _ => 0)))] ++ ([(b10, .inl (gI g, 13, .inl (fun _ => 0)))]))))))))))) s H locs := hw
  refine x_putF (T := TX3) (k := 9) cx hw inT_X3 rfl (by decide) tw_1_62 rfl tyX3 tyX3_ok nmX3 rfl hin rfl 0 rfl rfl rfl (Nat.le_of_ble_eq_true rfl) dX3_init_81 (fun H locs hw => ?_)
  have hw : Wd g (va_A ([(a, .inr (3, [.null, .null, .null, .null, .null, .null, .null, .null, .null, .null, .null, .null, .int 0, .int 0, .int 0, .int 0]))]) s.heap.size) ([(a, .inr (3, [.ref b1, .ref b2, .ref b3, .ref b4, .ref b5, .ref b6, .ref b7, .ref b8, .ref b9, .ref b10, .null, .null, .int 0, .int 0, .int 0, .int 0]))] ++ ([(b1, .inl (gI g, 9, .inl (fun _ => 0)))] ++ ([(b2, .inl (gI g, 9, .inl (fun _ => 0)))] ++ ([(b3, .inl (gI g, 32, .inl (fun _ => 0)))] ++ ([(b4, .inl (gI g, 16, .inl (fun _ => 0)))] ++ ([(b5, .inl (gI g, 12, .inl (fun _ => 0)))] ++ ([(b6, .inl (gI g, 12, .inl (fun _ => 0)))] ++ ([(b7, .inl (gI g, 12, .inl (fun _ => 0)))] ++ ([(b8, .inl (gI g, 12, .inl (fun _ => 0)))] ++ ([(b9, .inl (gI g, 13, .inl (fun _ => 0)))] ++ ([(b10, .inl (gI g, 13, .inl (fun _ => 0)))]))))))))))) s H locs := hw
  refine lv_aload_n hx hb dX3_init_84 rfl (lv_at hl 0 rfl) ?_
  refine lv_bipush (v := 12) hx hb dX3_init_85 (by decide) ?_
  refine x_newI (k := 12) cx hw (by decide) (by decide) (Nat.le_of_ble_eq_true rfl) (Nat.le_of_ble_eq_true rfl) (Nat.le_of_ble_eq_true rfl) dX3_init_87 (fun b11 H hw => ?_)
  have hw : Wd g (va_A ([(a, .inr (3, [.null, .null, .null, .null, .null, .null, .null, .null, .null, .null, .null, .null, .int 0, .int 0, .int 0, .int 0]))]) s.heap.size) ([(a, .inr (3, [.ref b1, .ref b2, .ref b3, .ref b4, .ref b5, .ref b6, .ref b7, .ref b8, .ref b9, .ref b10, .null, .null, .int 0, .int 0, .int 0, .int 0]))] ++ ([(b1, .inl (gI g, 9, .inl (fun _ => 0)))] ++ ([(b2, .inl (gI g, 9, .inl (fun _ => 0)))] ++ ([(b3, .inl (gI g, 32, .inl (fun _ => 0)))] ++ ([(b4, .inl (gI g, 16, .inl (fun _ => 0)))] ++ ([(b5, .inl (gI g, 12, .inl (fun _ => 0)))] ++ ([(b6, .inl (gI g, 12, .inl (fun _ => 0)))] ++ ([(b7, .inl (gI g, 12, .inl (fun _ => 0)))] ++ ([(b8, .inl (gI g, 12, .inl (fun _ => 0)))] ++ ([(b9, .inl (gI g, 13, .inl (fun _ => 0)))] ++ ([(b10, .inl (gI g, 13, .inl (fun _ => 0)))] ++ ([(b11, .inl (gI g, 12, .inl (fun _ => 0)))])))))))))))) s H locs := hw
  refine x_putF (T := TX3) (k := 10) cx hw inT_X3 rfl (by decide) tw_1_65 rfl tyX3 tyX3_ok nmX3 rfl hin rfl 0 rfl rfl rfl (Nat.le_of_ble_eq_true rfl) dX3_init_89 (fun H locs hw => ?_)
  have hw : Wd g (va_A ([(a, .inr (3, [.null, .null, .null, .null, .null, .null, .null, .null, .null, .null, .null, .null, .int 0, .int 0, .int 0, .int 0]))]) s.heap.size) ([(a, .inr (3, [.ref b1, .ref b2, .ref b3, .ref b4, .ref b5, .ref b6, .ref b7, .ref b8, .ref b9, .ref b10, .ref b11, .null, .int 0, .int 0, .int 0, .int 0]))] ++ ([(b1, .inl (gI g, 9, .inl (fun _ => 0)))] ++ ([(b2, .inl (gI g, 9, .inl (fun _ => 0)))] ++ ([(b3, .inl (gI g, 32, .inl (fun _ => 0)))] ++ ([(b4, .inl (gI g, 16, .inl (fun _ => 0)))] ++ ([(b5, .inl (gI g, 12, .inl (fun _ => 0)))] ++ ([(b6, .inl (gI g, 12, .inl (fun _ => 0)))] ++ ([(b7, .inl (gI g, 12, .inl (fun _ => 0)))] ++ ([(b8, .inl (gI g, 12, .inl (fun _ => 0)))] ++ ([(b9, .inl (gI g, 13, .inl (fun _ => 0)))] ++ ([(b10, .inl (gI g, 13, .inl (fun _ => 0)))] ++ ([(b11, .inl (gI g, 12, .inl (fun _ => 0)))])))))))))))) s H locs := hw
  refine lv_aload_n hx hb dX3_init_92 rfl (lv_at hl 0 rfl) ?_
  refine lv_bipush (v := 12) hx hb dX3_init_93 (by decide) ?_
  refine x_newI (k := 12) cx hw (by decide) (by decide) (Nat.le_of_ble_eq_true rfl) (Nat.le_of_ble_eq_true rfl) (Nat.le_of_ble_eq_true rfl) dX3_init_95 (fun b12 H hw => ?_)
  have hw : Wd g (va_A ([(a, .inr (3, [.null, .null, .null, .null, .null, .null, .null, .null, .null, .null, .null, .null, .int 0, .int 0, .int 0, .int 0]))]) s.heap.size) ([(a, .inr (3, [.ref b1, .ref b2, .ref b3, .ref b4, .ref b5, .ref b6, .ref b7, .ref b8, .ref b9, .ref b10, .ref b11, .null, .int 0, .int 0, .int 0, .int 0]))] ++ ([(b1, .inl (gI g, 9, .inl (fun _ => 0)))] ++ ([(b2, .inl (gI g, 9, .inl (fun _ => 0)))] ++ ([(b3, .inl (gI g, 32, .inl (fun _ => 0)))] ++ ([(b4, .inl (gI g, 16, .inl (fun _ => 0)))] ++ ([(b5, .inl (gI g, 12, .inl (fun _ => 0)))] ++ ([(b6, .inl (gI g, 12, .inl (fun _ => 0)))] ++ ([(b7, .inl (gI g, 12, .inl (fun _ => 0)))] ++ ([(b8, .inl (gI g, 12, .inl (fun _ => 0)))] ++ ([(b9, .inl (gI g, 13, .inl (fun _ => 0)))] ++ ([(b10, .inl (gI g, 13, .inl (fun _ => 0)))] ++ ([(b11, .inl (gI g, 12, .inl (fun _ => 0)))] ++ ([(b12, .inl (gI g, 12, .inl (fun _ => 0)))]))))))))))))) s H locs := hw
  refine x_putF (T := TX3) (k := 11) cx hw inT_X3 rfl (by decide) tw_1_67 rfl tyX3 tyX3_ok nmX3 rfl hin rfl 0 rfl rfl rfl (Nat.le_of_ble_eq_true rfl) dX3_init_97 (fun H locs hw => ?_)
  have hw : Wd g (va_A ([(a, .inr (3, [.null, .null, .null, .null, .null, .null, .null, .null, .null, .null, .null, .null, .int 0, .int 0, .int 0, .int 0]))]) s.heap.size) ([(a, .inr (3, [.ref b1, .ref b2, .ref b3, .ref b4, .ref b5, .ref b6, .ref b7, .ref b8, .ref b9, .ref b10, .ref b11, .ref b12, .int 0, .int 0, .int 0, .int 0]))] ++ ([(b1, .inl (gI g, 9, .inl (fun _ => 0)))] ++ ([(b2, .inl (gI g, 9, .inl (fun _ => 0)))] ++ ([(b3, .inl (gI g, 32, .inl (fun _ => 0)))] ++ ([(b4, .inl (gI g, 16, .inl (fun _ => 0)))] ++ ([(b5, .inl (gI g, 12, .inl (fun _ => 0)))] ++ ([(b6, .inl (gI g, 12, .inl (fun _ => 0)))] ++ ([(b7, .inl (gI g, 12, .inl (fun _ => 0)))] ++ ([(b8, .inl (gI g, 12, .inl (fun _ => 0)))] ++ ([(b9, .inl (gI g, 13, .inl (fun _ => 0)))] ++ ([(b10, .inl (gI g, 13, .inl (fun _ => 0)))] ++ ([(b11, .inl (gI g, 12, .inl (fun _ => 0)))] ++ ([(b12, .inl (gI g, 12, .inl (fun _ => 0)))]))))))))))))) s H locs := hw
  have hw : Wd g (va_A ([(a, .inr (3, [.null, .null, .null, .null, .null, .null, .null, .null, .null, .null, .null, .null, .int 0, .int 0, .int 0, .int 0]))]) s.heap.size) (VC g (qL [a, b1, b2, b3, b4, b5, b6, b7, b8, b9, b10, b11, b12]) vZ) s H locs := hw
  refine W.widen (k := 12) (n := 164) (Nat.le_of_ble_eq_true rfl) (Nat.le_of_ble_eq_true rfl) ?_
  obtain ⟨q, hq⟩ : ∃ q, q = (qL [a, b1, b2, b3, b4, b5, b6, b7, b8, b9, b10, b11, b12]) := ⟨_, rfl⟩
  rw [← hq] at hw
  have hqa : a = q 0 := by rw [hq]; rfl
  have hl : lv_has ls 1 [(0, .ref (q 0))] := by rw [← hqa]; exact hl
  unfold f_X3_init at h
  refine lv_aload_n hx hb dX3_init_100 rfl (lv_at hl 0 rfl) ?_
  refine gf_X3_15 cx hw 0 rfl rfl dX3_init_101 ?_
  refine lv_iconst (v := 2) hx hb dX3_init_104 (by decide) ?_
  obtain ⟨f1, g2, h⟩ := bd_ex h
  refine c_S (As := [.ref (q 2), .int (2 : Int32)]) (rest := []) (w' := (VC g q (v_set_costs vZ f1))) cx hw (c_J7_fill_53178 l g (q 2) 9 N (2 : Int32) (v_costs vZ) f1 g2) (cl_X3_48 cx.1.2.2.2.2 ⟨Nat.le_of_ble_eq_true rfl, Nat.le_of_ble_eq_true rfl⟩) (ct_V__2__A_0 g q vZ f1) hl.1 rfl rfl (Nat.le_of_ble_eq_true rfl) dX3_init_105 ⟨Nat.le_of_ble_eq_true rfl, Nat.le_of_ble_eq_true rfl⟩ (st1 := []) rfl (fun H locs hw => ?_)
  obtain ⟨d3, ed3, h⟩ := lt_ex h
  have hw : Wd g (va_A ([(a, .inr (3, [.null, .null, .null, .null, .null, .null, .null, .null, .null, .null, .null, .null, .int 0, .int 0, .int 0, .int 0]))]) s.heap.size) ((VC g q d3)) s H locs := by rw [ed3]; exact hw
  refine lv_aload_n hx hb dX3_init_108 rfl (lv_at hl 0 rfl) ?_
  refine gf_X3_11 cx hw 0 rfl rfl dX3_init_109 ?_
  refine lv_iconst (v := 1) hx hb dX3_init_112 (by decide) ?_
  obtain ⟨f4, g5, h⟩ := bd_ex h
  refine c_S (As := [.ref (q 1), .int (1 : Int32)]) (rest := []) (w' := (VC g q (v_set_weights d3 f4))) cx hw (c_J7_fill_53178 l g (q 1) 9 N (1 : Int32) (v_weights d3) f4 g5) (cl_X3_48 cx.1.2.2.2.2 ⟨Nat.le_of_ble_eq_true rfl, Nat.le_of_ble_eq_true rfl⟩) (ct_V__1__A_0 g q d3 f4) hl.1 rfl rfl (Nat.le_of_ble_eq_true rfl) dX3_init_113 ⟨Nat.le_of_ble_eq_true rfl, Nat.le_of_ble_eq_true rfl⟩ (st1 := []) rfl (fun H locs hw => ?_)
  obtain ⟨d6, ed6, h⟩ := lt_ex h
  have hw : Wd g (va_A ([(a, .inr (3, [.null, .null, .null, .null, .null, .null, .null, .null, .null, .null, .null, .null, .int 0, .int 0, .int 0, .int 0]))]) s.heap.size) ((VC g q d6)) s H locs := by rw [ed6]; exact hw
  refine lv_aload_n hx hb dX3_init_116 rfl (lv_at hl 0 rfl) ?_
  refine lv_aload_n hx hb dX3_init_117 rfl (lv_at hl 0 rfl) ?_
  refine gf_X3_18 cx hw 0 rfl rfl dX3_init_118 ?_
  refine lv_iconst (v := 0) hx hb dX3_init_121 (by decide) ?_
  obtain ⟨f7, g8, h⟩ := bd_ex h
  refine c_V (As := [.ref (q 3), .int (0 : Int32)]) (rest := []) (w' := (VC g q (v_set_lowerSums d6 f7))) cx hw (c_X3_sumWeights l g q (q 3) 32 N (0 : Int32) d6 (v_lowerSums d6) f7 g8) (cl_X3_54 cx.1.2.2.2.2 ⟨Nat.le_of_ble_eq_true rfl, Nat.le_of_ble_eq_true rfl⟩) (x_recv cx hw (ci := 3) rfl 0 rfl) (ct_V__0_1_3__VW_A_1 g q d6 f7) hl.1 rfl rfl (Nat.le_of_ble_eq_true rfl) dX3_init_122 ⟨Nat.le_of_ble_eq_true rfl, Nat.le_of_ble_eq_true rfl⟩ (st1 := []) rfl (fun H locs hw => ?_)
  obtain ⟨d9, ed9, h⟩ := lt_ex h
  have hw : Wd g (va_A ([(a, .inr (3, [.null, .null, .null, .null, .null, .null, .null, .null, .null, .null, .null, .null, .int 0, .int 0, .int 0, .int 0]))]) s.heap.size) ((VC g q d9)) s H locs := by rw [ed9]; exact hw
  refine lv_aload_n hx hb dX3_init_125 rfl (lv_at hl 0 rfl) ?_
  refine lv_aload_n hx hb dX3_init_126 rfl (lv_at hl 0 rfl) ?_
  refine gf_X3_21 cx hw 0 rfl rfl dX3_init_127 ?_
  refine lv_iconst (v := 5) hx hb dX3_init_130 (by decide) ?_
  obtain ⟨f10, g11, h⟩ := bd_ex h
  refine c_V (As := [.ref (q 4), .int (5 : Int32)]) (rest := []) (w' := (VC g q (v_set_upperSums d9 f10))) cx hw (c_X3_sumWeights l g q (q 4) 16 N (5 : Int32) d9 (v_upperSums d9) f10 g11) (cl_X3_54 cx.1.2.2.2.2 ⟨Nat.le_of_ble_eq_true rfl, Nat.le_of_ble_eq_true rfl⟩) (x_recv cx hw (ci := 3) rfl 0 rfl) (ct_V__0_1_4__VW_A_1 g q d9 f10) hl.1 rfl rfl (Nat.le_of_ble_eq_true rfl) dX3_init_131 ⟨Nat.le_of_ble_eq_true rfl, Nat.le_of_ble_eq_true rfl⟩ (st1 := []) rfl (fun H locs hw => ?_)
  obtain ⟨d12, ed12, h⟩ := lt_ex h
  have hw : Wd g (va_A ([(a, .inr (3, [.null, .null, .null, .null, .null, .null, .null, .null, .null, .null, .null, .null, .int 0, .int 0, .int 0, .int 0]))]) s.heap.size) ((VC g q d12)) s H locs := by rw [ed12]; exact hw
  refine lv_aload_n hx hb dX3_init_134 rfl (lv_at hl 0 rfl) ?_
  refine gf_X3_36 cx hw 0 rfl rfl dX3_init_135 ?_
  refine lv_bipush (v := 12) hx hb dX3_init_138 (by decide) ?_
  refine lv_iconst (v := -1) hx hb dX3_init_140 (by decide) ?_
  have i13 := ck_in h
  replace h := ck_nx h
  refine x_iast cx hw 9 rfl i13 dX3_init_141 (fun H locs hw => ?_)
  obtain ⟨d14, ed14, h⟩ := lt_ex h
  have hw : Wd g (va_A ([(a, .inr (3, [.null, .null, .null, .null, .null, .null, .null, .null, .null, .null, .null, .null, .int 0, .int 0, .int 0, .int 0]))]) s.heap.size) ((VC g q d14)) s H locs := by rw [ed14]; exact hw
  exact r_x cx hr hlocks hw q hqa.symm (congrArg (fun z0 => (VC g q z0)) (sm_eq h)) dX3_init_142
def xZ (v : VD) : XD := (v, v, v, rZ, fun _ => sZ, fun _ => 0, 0)
abbrev rm_X4_init : Room := { frames := 3, cells := 52, slots := 851, locals := 80 }
set_option maxHeartbeats 4000000 in
set_option maxRecDepth 100000 in
theorem c_X4_init (l : Launch) (g : gE) (a : Nat) (N : Nat) (v : VD) (h : f_X3_init N = some v) : MX (va_AO "LikestHeir$Sheet") l yX4_init (Cond.code yX4_init cX4_init 2 none :: TB) rm_X4_init a g [(a, .inr (4, [.null, .null, .null, .null, .null, .null, .int 0]))] (fun q => XC g q (xZ v)) 52 851 := by
  refine MX.of (cc := cX4_init) (maxL := 2) (by decide) ?_
  intro p e s m below meth c cx hw hr hlocks hin hE
  have hx := cx.1.1
  have hb := cx.1.2.1
  refine en_go (lv := [(0, .ref a)]) (Nat.le_of_ble_eq_true rfl) rfl (fun ls hl => ?_)
  refine lv_aload_n hx hb dX4_init_0 rfl (lv_at hl 0 rfl) ?_
  refine x_oinit cx tw_1_20 hl.1 dX4_init_1 (Nat.le_of_ble_eq_true rfl) (Nat.le_of_ble_eq_true rfl) ?_
  refine W.eq (g2 := F0 m 4 ls []) rfl ?_
  refine lv_aload_n hx hb dX4_init_4 rfl (lv_at hl 0 rfl) ?_
  refine x_new (ci := 3) (fs := [.null, .null, .null, .null, .null, .null, .null, .null, .null, .null, .null, .null, .int 0, .int 0, .int 0, .int 0]) (C := RX3) (T := TX3) (N := 16) cx hw inT_X3 rfl tyX3 tyX3_ok tw_1_23 tw_1_24 tw_1_2 (fun j hj => by rcases (show j = 0 ∨ j = 1 ∨ j = 2 ∨ j = 3 ∨ j = 4 ∨ j = 5 ∨ j = 6 ∨ j = 7 ∨ j = 8 ∨ j = 9 ∨ j = 10 ∨ j = 11 ∨ j = 12 ∨ j = 13 ∨ j = 14 ∨ j = 15 by omega) with rfl | rfl | rfl | rfl | rfl | rfl | rfl | rfl | rfl | rfl | rfl | rfl | rfl | rfl | rfl | rfl <;> rfl) (Nat.le_of_ble_eq_true rfl) (Nat.le_of_ble_eq_true rfl) dX4_init_5 (fun b1 H hw => ?_)
  have hw : Wd g (va_A ([(a, .inr (4, [.null, .null, .null, .null, .null, .null, .int 0]))]) s.heap.size) ([(a, .inr (4, [.null, .null, .null, .null, .null, .null, .int 0]))] ++ ([(b1, .inr (3, [.null, .null, .null, .null, .null, .null, .null, .null, .null, .null, .null, .null, .int 0, .int 0, .int 0, .int 0]))])) s H locs := hw
  refine lv_dup hx hb dX4_init_8 rfl ?_
  have hw : Wd g (va_A ([(a, .inr (4, [.null, .null, .null, .null, .null, .null, .int 0]))]) s.heap.size) (([(a, .inr (4, [.null, .null, .null, .null, .null, .null, .int 0]))]) ++ [(b1, .inr (3, [.null, .null, .null, .null, .null, .null, .null, .null, .null, .null, .null, .null, .int 0, .int 0, .int 0, .int 0]))]) s H locs := hw
  refine c_X (rest := [.ref b1, .ref a]) cx hw (c_X3_init l g b1 N v h) (fun _ _ _ z => z) (fun _ _ => trivial) (cw_I 0 cx.1.2.2.2.2 tw_1_25 tw_1_26 tw_1_2 tw_1_27 rfl rfl rfl (by decide +kernel) ⟨(Nat.le_of_ble_eq_true rfl), (Nat.le_of_ble_eq_true rfl)⟩) hl.1 rfl (Nat.le_of_ble_eq_true rfl) dX4_init_9 ⟨(Nat.le_of_ble_eq_true rfl), (Nat.le_of_ble_eq_true rfl)⟩ (fun q2 H locs e3 hw => ?_)
  have hw : Wd g (va_A ([(a, .inr (4, [.null, .null, .null, .null, .null, .null, .int 0]))]) s.heap.size) ([(a, .inr (4, [.null, .null, .null, .null, .null, .null, .int 0]))] ++ (VC g q2 v)) s H locs := hw
  refine x_putF (T := TX4) (k := 0) cx hw inT_X4 rfl (by decide) tw_1_175 rfl tyX4 tyX4_ok nmX4 rfl hin rfl 0 rfl rfl rfl (Nat.le_of_ble_eq_true rfl) dX4_init_12 (fun H locs hw => ?_)
  have hw : Wd g (va_A ([(a, .inr (4, [.null, .null, .null, .null, .null, .null, .int 0]))]) s.heap.size) ([(a, .inr (4, [.ref b1, .null, .null, .null, .null, .null, .int 0]))] ++ (VC g q2 v)) s H locs := hw
  refine lv_aload_n hx hb dX4_init_15 rfl (lv_at hl 0 rfl) ?_
  refine x_new (ci := 3) (fs := [.null, .null, .null, .null, .null, .null, .null, .null, .null, .null, .null, .null, .int 0, .int 0, .int 0, .int 0]) (C := RX3) (T := TX3) (N := 16) cx hw inT_X3 rfl tyX3 tyX3_ok tw_1_23 tw_1_24 tw_1_2 (fun j hj => by rcases (show j = 0 ∨ j = 1 ∨ j = 2 ∨ j = 3 ∨ j = 4 ∨ j = 5 ∨ j = 6 ∨ j = 7 ∨ j = 8 ∨ j = 9 ∨ j = 10 ∨ j = 11 ∨ j = 12 ∨ j = 13 ∨ j = 14 ∨ j = 15 by omega) with rfl | rfl | rfl | rfl | rfl | rfl | rfl | rfl | rfl | rfl | rfl | rfl | rfl | rfl | rfl | rfl <;> rfl) (Nat.le_of_ble_eq_true rfl) (Nat.le_of_ble_eq_true rfl) dX4_init_16 (fun b4 H hw => ?_)
  have hw : Wd g (va_A ([(a, .inr (4, [.null, .null, .null, .null, .null, .null, .int 0]))]) s.heap.size) ([(a, .inr (4, [.ref b1, .null, .null, .null, .null, .null, .int 0]))] ++ (VC g q2 v ++ ([(b4, .inr (3, [.null, .null, .null, .null, .null, .null, .null, .null, .null, .null, .null, .null, .int 0, .int 0, .int 0, .int 0]))]))) s H locs := hw
  refine lv_dup hx hb dX4_init_19 rfl ?_
  have hw : Wd g (va_A ([(a, .inr (4, [.null, .null, .null, .null, .null, .null, .int 0]))]) s.heap.size) (([(a, .inr (4, [.ref b1, .null, .null, .null, .null, .null, .int 0]))] ++ (VC g q2 v)) ++ [(b4, .inr (3, [.null, .null, .null, .null, .null, .null, .null, .null, .null, .null, .null, .null, .int 0, .int 0, .int 0, .int 0]))]) s H locs := hw
  refine c_X (rest := [.ref b4, .ref a]) cx hw (c_X3_init l g b4 N v h) (fun _ _ _ z => z) (fun _ _ => trivial) (cw_I 0 cx.1.2.2.2.2 tw_1_25 tw_1_26 tw_1_2 tw_1_27 rfl rfl rfl (by decide +kernel) ⟨(Nat.le_of_ble_eq_true rfl), (Nat.le_of_ble_eq_true rfl)⟩) hl.1 rfl (Nat.le_of_ble_eq_true rfl) dX4_init_20 ⟨(Nat.le_of_ble_eq_true rfl), (Nat.le_of_ble_eq_true rfl)⟩ (fun q5 H locs e6 hw => ?_)
  have hw : Wd g (va_A ([(a, .inr (4, [.null, .null, .null, .null, .null, .null, .int 0]))]) s.heap.size) ([(a, .inr (4, [.ref b1, .null, .null, .null, .null, .null, .int 0]))] ++ (VC g q2 v ++ (VC g q5 v))) s H locs := hw
  refine x_putF (T := TX4) (k := 1) cx hw inT_X4 rfl (by decide) tw_1_176 rfl tyX4 tyX4_ok nmX4 rfl hin rfl 0 rfl rfl rfl (Nat.le_of_ble_eq_true rfl) dX4_init_23 (fun H locs hw => ?_)
  have hw : Wd g (va_A ([(a, .inr (4, [.null, .null, .null, .null, .null, .null, .int 0]))]) s.heap.size) ([(a, .inr (4, [.ref b1, .ref b4, .null, .null, .null, .null, .int 0]))] ++ (VC g q2 v ++ (VC g q5 v))) s H locs := hw
  refine lv_aload_n hx hb dX4_init_26 rfl (lv_at hl 0 rfl) ?_
  refine x_new (ci := 3) (fs := [.null, .null, .null, .null, .null, .null, .null, .null, .null, .null, .null, .null, .int 0, .int 0, .int 0, .int 0]) (C := RX3) (T := TX3) (N := 16) cx hw inT_X3 rfl tyX3 tyX3_ok tw_1_23 tw_1_24 tw_1_2 (fun j hj => by rcases (show j = 0 ∨ j = 1 ∨ j = 2 ∨ j = 3 ∨ j = 4 ∨ j = 5 ∨ j = 6 ∨ j = 7 ∨ j = 8 ∨ j = 9 ∨ j = 10 ∨ j = 11 ∨ j = 12 ∨ j = 13 ∨ j = 14 ∨ j = 15 by omega) with rfl | rfl | rfl | rfl | rfl | rfl | rfl | rfl | rfl | rfl | rfl | rfl | rfl | rfl | rfl | rfl <;> rfl) (Nat.le_of_ble_eq_true rfl) (Nat.le_of_ble_eq_true rfl) dX4_init_27 (fun b7 H hw => ?_)
  have hw : Wd g (va_A ([(a, .inr (4, [.null, .null, .null, .null, .null, .null, .int 0]))]) s.heap.size) ([(a, .inr (4, [.ref b1, .ref b4, .null, .null, .null, .null, .int 0]))] ++ (VC g q2 v ++ (VC g q5 v ++ ([(b7, .inr (3, [.null, .null, .null, .null, .null, .null, .null, .null, .null, .null, .null, .null, .int 0, .int 0, .int 0, .int 0]))])))) s H locs := hw
  refine lv_dup hx hb dX4_init_30 rfl ?_
  have hw : Wd g (va_A ([(a, .inr (4, [.null, .null, .null, .null, .null, .null, .int 0]))]) s.heap.size) (([(a, .inr (4, [.ref b1, .ref b4, .null, .null, .null, .null, .int 0]))] ++ (VC g q2 v ++ (VC g q5 v))) ++ [(b7, .inr (3, [.null, .null, .null, .null, .null, .null, .null, .null, .null, .null, .null, .null, .int 0, .int 0, .int 0, .int 0]))]) s H locs := hw
  refine c_X (rest := [.ref b7, .ref a]) cx hw (c_X3_init l g b7 N v h) (fun _ _ _ z => z) (fun _ _ => trivial) (cw_I 0 cx.1.2.2.2.2 tw_1_25 tw_1_26 tw_1_2 tw_1_27 rfl rfl rfl (by decide +kernel) ⟨(Nat.le_of_ble_eq_true rfl), (Nat.le_of_ble_eq_true rfl)⟩) hl.1 rfl (Nat.le_of_ble_eq_true rfl) dX4_init_31 ⟨(Nat.le_of_ble_eq_true rfl), (Nat.le_of_ble_eq_true rfl)⟩ (fun q8 H locs e9 hw => ?_)
  have hw : Wd g (va_A ([(a, .inr (4, [.null, .null, .null, .null, .null, .null, .int 0]))]) s.heap.size) ([(a, .inr (4, [.ref b1, .ref b4, .null, .null, .null, .null, .int 0]))] ++ (VC g q2 v ++ (VC g q5 v ++ (VC g q8 v)))) s H locs := hw
  refine x_putF (T := TX4) (k := 2) cx hw inT_X4 rfl (by decide) tw_1_177 rfl tyX4 tyX4_ok nmX4 rfl hin rfl 0 rfl rfl rfl (Nat.le_of_ble_eq_true rfl) dX4_init_34 (fun H locs hw => ?_)
  have hw : Wd g (va_A ([(a, .inr (4, [.null, .null, .null, .null, .null, .null, .int 0]))]) s.heap.size) ([(a, .inr (4, [.ref b1, .ref b4, .ref b7, .null, .null, .null, .int 0]))] ++ (VC g q2 v ++ (VC g q5 v ++ (VC g q8 v)))) s H locs := hw
  refine lv_aload_n hx hb dX4_init_37 rfl (lv_at hl 0 rfl) ?_
  refine x_new (ci := 2) (fs := [.null, .int 0, .int 0, .int 0, .int 0, .int 0]) (C := RX2) (T := TX2) (N := 6) cx hw inT_X2 rfl tyX2 tyX2_ok tw_1_112 tw_1_113 tw_1_4 (fun j hj => by rcases (show j = 0 ∨ j = 1 ∨ j = 2 ∨ j = 3 ∨ j = 4 ∨ j = 5 by omega) with rfl | rfl | rfl | rfl | rfl | rfl <;> rfl) (Nat.le_of_ble_eq_true rfl) (Nat.le_of_ble_eq_true rfl) dX4_init_38 (fun b10 H hw => ?_)
  have hw : Wd g (va_A ([(a, .inr (4, [.null, .null, .null, .null, .null, .null, .int 0]))]) s.heap.size) ([(a, .inr (4, [.ref b1, .ref b4, .ref b7, .null, .null, .null, .int 0]))] ++ (VC g q2 v ++ (VC g q5 v ++ (VC g q8 v ++ ([(b10, .inr (2, [.null, .int 0, .int 0, .int 0, .int 0, .int 0]))]))))) s H locs := hw
  refine lv_dup hx hb dX4_init_41 rfl ?_
  have hw : Wd g (va_A ([(a, .inr (4, [.null, .null, .null, .null, .null, .null, .int 0]))]) s.heap.size) (([(a, .inr (4, [.ref b1, .ref b4, .ref b7, .null, .null, .null, .int 0]))] ++ (VC g q2 v ++ (VC g q5 v ++ (VC g q8 v)))) ++ [(b10, .inr (2, [.null, .int 0, .int 0, .int 0, .int 0, .int 0]))]) s H locs := hw
  refine c_XN (rest := [.ref b10, .ref a]) cx hw (c_X2_init l g b10) (fun _ _ _ z => z) (fun _ _ => trivial) ⟨cw_N 0 cx.1.2.2.2.2 (nw_2 cx.2.2.1) tw_1_4 tw_1_116 rfl rfl (by decide +kernel) ⟨(Nat.le_of_ble_eq_true rfl), (Nat.le_of_ble_eq_true rfl)⟩, rfl, cx.1.2.2.2.2 _ tw_1_115⟩ hl.1 rfl (Nat.le_of_ble_eq_true rfl) dX4_init_42 ⟨(Nat.le_of_ble_eq_true rfl), (Nat.le_of_ble_eq_true rfl)⟩ (fun q11 H locs e12 hw => ?_)
  have hw : Wd g (va_A ([(a, .inr (4, [.null, .null, .null, .null, .null, .null, .int 0]))]) s.heap.size) ([(a, .inr (4, [.ref b1, .ref b4, .ref b7, .null, .null, .null, .int 0]))] ++ (VC g q2 v ++ (VC g q5 v ++ (VC g q8 v ++ (RC g q11 rZ))))) s H locs := hw
  refine x_putF (T := TX4) (k := 3) cx hw inT_X4 rfl (by decide) tw_1_178 rfl tyX4 tyX4_ok nmX4 rfl hin rfl 0 rfl rfl rfl (Nat.le_of_ble_eq_true rfl) dX4_init_45 (fun H locs hw => ?_)
  have hw : Wd g (va_A ([(a, .inr (4, [.null, .null, .null, .null, .null, .null, .int 0]))]) s.heap.size) ([(a, .inr (4, [.ref b1, .ref b4, .ref b7, .ref b10, .null, .null, .int 0]))] ++ (VC g q2 v ++ (VC g q5 v ++ (VC g q8 v ++ (RC g q11 rZ))))) s H locs := hw
  refine lv_aload_n hx hb dX4_init_48 rfl (lv_at hl 0 rfl) ?_
  refine lv_iconst (v := 4) hx hb dX4_init_49 (by decide) ?_
  refine x_newO (k := 4) cx hw tw_1_154 hE (by decide) (by decide) (Nat.le_of_ble_eq_true rfl) (Nat.le_of_ble_eq_true rfl) (Nat.le_of_ble_eq_true rfl) dX4_init_50 (fun b13 H hw => ?_)
  have hw : Wd g (va_A ([(a, .inr (4, [.null, .null, .null, .null, .null, .null, .int 0]))]) s.heap.size) ([(a, .inr (4, [.ref b1, .ref b4, .ref b7, .ref b10, .null, .null, .int 0]))] ++ (VC g q2 v ++ (VC g q5 v ++ (VC g q8 v ++ (RC g q11 rZ ++ ([(b13, .inl (gO g, 4, .inr (.inr (.inr (.inr (fun _ => none))))))])))))) s H locs := hw
  refine x_putF (T := TX4) (k := 4) cx hw inT_X4 rfl (by decide) tw_1_179 rfl tyX4 tyX4_ok nmX4 rfl hin rfl 0 rfl rfl rfl (Nat.le_of_ble_eq_true rfl) dX4_init_53 (fun H locs hw => ?_)
  have hw : Wd g (va_A ([(a, .inr (4, [.null, .null, .null, .null, .null, .null, .int 0]))]) s.heap.size) ([(a, .inr (4, [.ref b1, .ref b4, .ref b7, .ref b10, .ref b13, .null, .int 0]))] ++ (VC g q2 v ++ (VC g q5 v ++ (VC g q8 v ++ (RC g q11 rZ ++ ([(b13, .inl (gO g, 4, .inr (.inr (.inr (.inr (fun _ => none))))))])))))) s H locs := hw
  refine lv_aload_n hx hb dX4_init_56 rfl (lv_at hl 0 rfl) ?_
  refine lv_bipush (v := 7) hx hb dX4_init_57 (by decide) ?_
  refine x_newI (k := 7) cx hw (by decide) (by decide) (Nat.le_of_ble_eq_true rfl) (Nat.le_of_ble_eq_true rfl) (Nat.le_of_ble_eq_true rfl) dX4_init_59 (fun b14 H hw => ?_)
  have hw : Wd g (va_A ([(a, .inr (4, [.null, .null, .null, .null, .null, .null, .int 0]))]) s.heap.size) ([(a, .inr (4, [.ref b1, .ref b4, .ref b7, .ref b10, .ref b13, .null, .int 0]))] ++ (VC g q2 v ++ (VC g q5 v ++ (VC g q8 v ++ (RC g q11 rZ ++ ([(b13, .inl (gO g, 4, .inr (.inr (.inr (.inr (fun _ => none))))))] ++ ([(b14, .inl (gI g, 7, .inl (fun _ => 0)))]))))))) s H locs := hw
  refine x_putF (T := TX4) (k := 5) cx hw inT_X4 rfl (by decide) tw_1_180 rfl tyX4 tyX4_ok nmX4 rfl hin rfl 0 rfl rfl rfl (Nat.le_of_ble_eq_true rfl) dX4_init_61 (fun H locs hw => ?_)
  have hw : Wd g (va_A ([(a, .inr (4, [.null, .null, .null, .null, .null, .null, .int 0]))]) s.heap.size) ([(a, .inr (4, [.ref b1, .ref b4, .ref b7, .ref b10, .ref b13, .ref b14, .int 0]))] ++ (VC g q2 v ++ (VC g q5 v ++ (VC g q8 v ++ (RC g q11 rZ ++ ([(b13, .inl (gO g, 4, .inr (.inr (.inr (.inr (fun _ => none))))))] ++ ([(b14, .inl (gI g, 7, .inl (fun _ => 0)))]))))))) s H locs := hw
  refine lv_iconst (v := 0) hx hb dX4_init_64 (by decide) ?_
  refine lv_istore_n (lv' := [(1, .int 0), (0, .ref a)]) hx hb dX4_init_65 rfl hl (by decide) rfl (fun ls hl => ?_)
  refine lv_iload_n hx hb dX4_init_66 rfl (lv_at hl 0 rfl) ?_
  refine lv_iconst (v := 4) hx hb dX4_init_67 (by decide) ?_
  refine lv_icmp_ge (tgt := 90) hx hb dX4_init_68 (by decide) (fun c9 => False.elim (by revert c9; decide)) (fun _ => ?_)
  refine lv_aload_n hx hb dX4_init_71 rfl (lv_at hl 1 rfl) ?_
  refine gf_X4_31 cx hw 0 rfl rfl dX4_init_72 ?_
  refine lv_iload_n hx hb dX4_init_75 rfl (lv_at hl 0 rfl) ?_
  refine x_new (ci := 0) (fs := [.null, .int 0, .int 0]) (C := RX0) (T := TX0) (N := 3) cx hw inT_X0 rfl tyX0 tyX0_ok tw_1_154 tw_1_156 tw_1_6 (fun j hj => by rcases (show j = 0 ∨ j = 1 ∨ j = 2 by omega) with rfl | rfl | rfl <;> rfl) (Nat.le_of_ble_eq_true rfl) (Nat.le_of_ble_eq_true rfl) dX4_init_76 (fun b15 H hw => ?_)
  have hw : Wd g (va_A ([(a, .inr (4, [.null, .null, .null, .null, .null, .null, .int 0]))]) s.heap.size) ([(a, .inr (4, [.ref b1, .ref b4, .ref b7, .ref b10, .ref b13, .ref b14, .int 0]))] ++ (VC g q2 v ++ (VC g q5 v ++ (VC g q8 v ++ (RC g q11 rZ ++ ([(b13, .inl (gO g, 4, .inr (.inr (.inr (.inr (fun _ => none))))))] ++ ([(b14, .inl (gI g, 7, .inl (fun _ => 0)))] ++ ([(b15, .inr (0, [.null, .int 0, .int 0]))])))))))) s H locs := hw
  refine lv_dup hx hb dX4_init_79 rfl ?_
  have hw : Wd g (va_A ([(a, .inr (4, [.null, .null, .null, .null, .null, .null, .int 0]))]) s.heap.size) (([(a, .inr (4, [.ref b1, .ref b4, .ref b7, .ref b10, .ref b13, .ref b14, .int 0]))] ++ (VC g q2 v ++ (VC g q5 v ++ (VC g q8 v ++ (RC g q11 rZ ++ ([(b13, .inl (gO g, 4, .inr (.inr (.inr (.inr (fun _ => none))))))] ++ ([(b14, .inl (gI g, 7, .inl (fun _ => 0)))]))))))) ++ [(b15, .inr (0, [.null, .int 0, .int 0]))]) s H locs := hw
  refine c_XN (rest := [.ref b15, .int (0 : Int32), .ref b13]) cx hw (c_X0_init l g b15) (fun _ _ _ z => z) (fun _ _ => trivial) ⟨cw_N 0 cx.1.2.2.2.2 (nw_4 cx.2.2.1) tw_1_6 tw_1_159 rfl rfl (by decide +kernel) ⟨(Nat.le_of_ble_eq_true rfl), (Nat.le_of_ble_eq_true rfl)⟩, rfl, cx.1.2.2.2.2 _ tw_1_158⟩ hl.1 rfl (Nat.le_of_ble_eq_true rfl) dX4_init_80 ⟨(Nat.le_of_ble_eq_true rfl), (Nat.le_of_ble_eq_true rfl)⟩ (fun q16 H locs e17 hw => ?_)
  have hw : Wd g (va_A ([(a, .inr (4, [.null, .null, .null, .null, .null, .null, .int 0]))]) s.heap.size) ([(a, .inr (4, [.ref b1, .ref b4, .ref b7, .ref b10, .ref b13, .ref b14, .int 0]))] ++ (VC g q2 v ++ (VC g q5 v ++ (VC g q8 v ++ (RC g q11 rZ ++ ([(b13, .inl (gO g, 4, .inr (.inr (.inr (.inr (fun _ => none))))))] ++ ([(b14, .inl (gI g, 7, .inl (fun _ => 0)))] ++ (SC g q16 sZ)))))))) s H locs := hw
  subst e17
  refine x_astq cx hw 43 45 rfl rfl (vp_in_iff.mpr (by decide)) dX4_init_83 (fun H locs hw => ?_)
  have hw : Wd g (va_A ([(a, .inr (4, [.null, .null, .null, .null, .null, .null, .int 0]))]) s.heap.size) ([(a, .inr (4, [.ref b1, .ref b4, .ref b7, .ref b10, .ref b13, .ref b14, .int 0]))] ++ (VC g q2 v ++ (VC g q5 v ++ (VC g q8 v ++ (RC g q11 rZ ++ ([(b13, .inl (gO g, 4, .inr (.inr (.inr (.inr (va_up (fun _ => none) ((0 : Int32)).toNatClampNeg (some (q16 0))))))))] ++ ([(b14, .inl (gI g, 7, .inl (fun _ => 0)))] ++ (SC g q16 sZ)))))))) s H locs := hw
  refine lv_iinc (v := 1) (lv' := [(1, .int 1), (0, .ref a)]) hx hb dX4_init_84 hl (k := 0) rfl (by decide) (by decide) rfl (fun ls hl => ?_)
  refine lv_goto (tgt := 66) hx hb dX4_init_87 (by decide) ?_
  refine lv_iload_n hx hb dX4_init_66 rfl (lv_at hl 0 rfl) ?_
  refine lv_iconst (v := 4) hx hb dX4_init_67 (by decide) ?_
  refine lv_icmp_ge (tgt := 90) hx hb dX4_init_68 (by decide) (fun c9 => False.elim (by revert c9; decide)) (fun _ => ?_)
  refine lv_aload_n hx hb dX4_init_71 rfl (lv_at hl 1 rfl) ?_
  refine gf_X4_31 cx hw 0 rfl rfl dX4_init_72 ?_
  refine lv_iload_n hx hb dX4_init_75 rfl (lv_at hl 0 rfl) ?_
  refine x_new (ci := 0) (fs := [.null, .int 0, .int 0]) (C := RX0) (T := TX0) (N := 3) cx hw inT_X0 rfl tyX0 tyX0_ok tw_1_154 tw_1_156 tw_1_6 (fun j hj => by rcases (show j = 0 ∨ j = 1 ∨ j = 2 by omega) with rfl | rfl | rfl <;> rfl) (Nat.le_of_ble_eq_true rfl) (Nat.le_of_ble_eq_true rfl) dX4_init_76 (fun b18 H hw => ?_)
  have hw : Wd g (va_A ([(a, .inr (4, [.null, .null, .null, .null, .null, .null, .int 0]))]) s.heap.size) ([(a, .inr (4, [.ref b1, .ref b4, .ref b7, .ref b10, .ref b13, .ref b14, .int 0]))] ++ (VC g q2 v ++ (VC g q5 v ++ (VC g q8 v ++ (RC g q11 rZ ++ ([(b13, .inl (gO g, 4, .inr (.inr (.inr (.inr (va_up (fun _ => none) ((0 : Int32)).toNatClampNeg (some (q16 0))))))))] ++ ([(b14, .inl (gI g, 7, .inl (fun _ => 0)))] ++ (SC g q16 sZ ++ ([(b18, .inr (0, [.null, .int 0, .int 0]))]))))))))) s H locs := hw
  refine lv_dup hx hb dX4_init_79 rfl ?_
  have hw : Wd g (va_A ([(a, .inr (4, [.null, .null, .null, .null, .null, .null, .int 0]))]) s.heap.size) (([(a, .inr (4, [.ref b1, .ref b4, .ref b7, .ref b10, .ref b13, .ref b14, .int 0]))] ++ (VC g q2 v ++ (VC g q5 v ++ (VC g q8 v ++ (RC g q11 rZ ++ ([(b13, .inl (gO g, 4, .inr (.inr (.inr (.inr (va_up (fun _ => none) ((0 : Int32)).toNatClampNeg (some (q16 0))))))))] ++ ([(b14, .inl (gI g, 7, .inl (fun _ => 0)))] ++ (SC g q16 sZ)))))))) ++ [(b18, .inr (0, [.null, .int 0, .int 0]))]) s H locs := hw
  refine c_XN (rest := [.ref b18, .int (1 : Int32), .ref b13]) cx hw (c_X0_init l g b18) (fun _ _ _ z => z) (fun _ _ => trivial) ⟨cw_N 0 cx.1.2.2.2.2 (nw_4 cx.2.2.1) tw_1_6 tw_1_159 rfl rfl (by decide +kernel) ⟨(Nat.le_of_ble_eq_true rfl), (Nat.le_of_ble_eq_true rfl)⟩, rfl, cx.1.2.2.2.2 _ tw_1_158⟩ hl.1 rfl (Nat.le_of_ble_eq_true rfl) dX4_init_80 ⟨(Nat.le_of_ble_eq_true rfl), (Nat.le_of_ble_eq_true rfl)⟩ (fun q19 H locs e20 hw => ?_)
  have hw : Wd g (va_A ([(a, .inr (4, [.null, .null, .null, .null, .null, .null, .int 0]))]) s.heap.size) ([(a, .inr (4, [.ref b1, .ref b4, .ref b7, .ref b10, .ref b13, .ref b14, .int 0]))] ++ (VC g q2 v ++ (VC g q5 v ++ (VC g q8 v ++ (RC g q11 rZ ++ ([(b13, .inl (gO g, 4, .inr (.inr (.inr (.inr (va_up (fun _ => none) ((0 : Int32)).toNatClampNeg (some (q16 0))))))))] ++ ([(b14, .inl (gI g, 7, .inl (fun _ => 0)))] ++ (SC g q16 sZ ++ (SC g q19 sZ))))))))) s H locs := hw
  subst e20
  refine x_astq cx hw 43 47 rfl rfl (vp_in_iff.mpr (by decide)) dX4_init_83 (fun H locs hw => ?_)
  have hw : Wd g (va_A ([(a, .inr (4, [.null, .null, .null, .null, .null, .null, .int 0]))]) s.heap.size) ([(a, .inr (4, [.ref b1, .ref b4, .ref b7, .ref b10, .ref b13, .ref b14, .int 0]))] ++ (VC g q2 v ++ (VC g q5 v ++ (VC g q8 v ++ (RC g q11 rZ ++ ([(b13, .inl (gO g, 4, .inr (.inr (.inr (.inr (va_up (va_up (fun _ => none) ((0 : Int32)).toNatClampNeg (some (q16 0))) ((1 : Int32)).toNatClampNeg (some (q19 0))))))))] ++ ([(b14, .inl (gI g, 7, .inl (fun _ => 0)))] ++ (SC g q16 sZ ++ (SC g q19 sZ))))))))) s H locs := hw
  refine lv_iinc (v := 2) (lv' := [(1, .int 2), (0, .ref a)]) hx hb dX4_init_84 hl (k := 0) rfl (by decide) (by decide) rfl (fun ls hl => ?_)
  refine lv_goto (tgt := 66) hx hb dX4_init_87 (by decide) ?_
  refine lv_iload_n hx hb dX4_init_66 rfl (lv_at hl 0 rfl) ?_
  refine lv_iconst (v := 4) hx hb dX4_init_67 (by decide) ?_
  refine lv_icmp_ge (tgt := 90) hx hb dX4_init_68 (by decide) (fun c9 => False.elim (by revert c9; decide)) (fun _ => ?_)
  refine lv_aload_n hx hb dX4_init_71 rfl (lv_at hl 1 rfl) ?_
  refine gf_X4_31 cx hw 0 rfl rfl dX4_init_72 ?_
  refine lv_iload_n hx hb dX4_init_75 rfl (lv_at hl 0 rfl) ?_
  refine x_new (ci := 0) (fs := [.null, .int 0, .int 0]) (C := RX0) (T := TX0) (N := 3) cx hw inT_X0 rfl tyX0 tyX0_ok tw_1_154 tw_1_156 tw_1_6 (fun j hj => by rcases (show j = 0 ∨ j = 1 ∨ j = 2 by omega) with rfl | rfl | rfl <;> rfl) (Nat.le_of_ble_eq_true rfl) (Nat.le_of_ble_eq_true rfl) dX4_init_76 (fun b21 H hw => ?_)
  have hw : Wd g (va_A ([(a, .inr (4, [.null, .null, .null, .null, .null, .null, .int 0]))]) s.heap.size) ([(a, .inr (4, [.ref b1, .ref b4, .ref b7, .ref b10, .ref b13, .ref b14, .int 0]))] ++ (VC g q2 v ++ (VC g q5 v ++ (VC g q8 v ++ (RC g q11 rZ ++ ([(b13, .inl (gO g, 4, .inr (.inr (.inr (.inr (va_up (va_up (fun _ => none) ((0 : Int32)).toNatClampNeg (some (q16 0))) ((1 : Int32)).toNatClampNeg (some (q19 0))))))))] ++ ([(b14, .inl (gI g, 7, .inl (fun _ => 0)))] ++ (SC g q16 sZ ++ (SC g q19 sZ ++ ([(b21, .inr (0, [.null, .int 0, .int 0]))])))))))))) s H locs := hw
  refine lv_dup hx hb dX4_init_79 rfl ?_
  have hw : Wd g (va_A ([(a, .inr (4, [.null, .null, .null, .null, .null, .null, .int 0]))]) s.heap.size) (([(a, .inr (4, [.ref b1, .ref b4, .ref b7, .ref b10, .ref b13, .ref b14, .int 0]))] ++ (VC g q2 v ++ (VC g q5 v ++ (VC g q8 v ++ (RC g q11 rZ ++ ([(b13, .inl (gO g, 4, .inr (.inr (.inr (.inr (va_up (va_up (fun _ => none) ((0 : Int32)).toNatClampNeg (some (q16 0))) ((1 : Int32)).toNatClampNeg (some (q19 0))))))))] ++ ([(b14, .inl (gI g, 7, .inl (fun _ => 0)))] ++ (SC g q16 sZ ++ (SC g q19 sZ))))))))) ++ [(b21, .inr (0, [.null, .int 0, .int 0]))]) s H locs := hw
  refine c_XN (rest := [.ref b21, .int (2 : Int32), .ref b13]) cx hw (c_X0_init l g b21) (fun _ _ _ z => z) (fun _ _ => trivial) ⟨cw_N 0 cx.1.2.2.2.2 (nw_4 cx.2.2.1) tw_1_6 tw_1_159 rfl rfl (by decide +kernel) ⟨(Nat.le_of_ble_eq_true rfl), (Nat.le_of_ble_eq_true rfl)⟩, rfl, cx.1.2.2.2.2 _ tw_1_158⟩ hl.1 rfl (Nat.le_of_ble_eq_true rfl) dX4_init_80 ⟨(Nat.le_of_ble_eq_true rfl), (Nat.le_of_ble_eq_true rfl)⟩ (fun q22 H locs e23 hw => ?_)
  have hw : Wd g (va_A ([(a, .inr (4, [.null, .null, .null, .null, .null, .null, .int 0]))]) s.heap.size) ([(a, .inr (4, [.ref b1, .ref b4, .ref b7, .ref b10, .ref b13, .ref b14, .int 0]))] ++ (VC g q2 v ++ (VC g q5 v ++ (VC g q8 v ++ (RC g q11 rZ ++ ([(b13, .inl (gO g, 4, .inr (.inr (.inr (.inr (va_up (va_up (fun _ => none) ((0 : Int32)).toNatClampNeg (some (q16 0))) ((1 : Int32)).toNatClampNeg (some (q19 0))))))))] ++ ([(b14, .inl (gI g, 7, .inl (fun _ => 0)))] ++ (SC g q16 sZ ++ (SC g q19 sZ ++ (SC g q22 sZ)))))))))) s H locs := hw
  subst e23
  refine x_astq cx hw 43 49 rfl rfl (vp_in_iff.mpr (by decide)) dX4_init_83 (fun H locs hw => ?_)
  have hw : Wd g (va_A ([(a, .inr (4, [.null, .null, .null, .null, .null, .null, .int 0]))]) s.heap.size) ([(a, .inr (4, [.ref b1, .ref b4, .ref b7, .ref b10, .ref b13, .ref b14, .int 0]))] ++ (VC g q2 v ++ (VC g q5 v ++ (VC g q8 v ++ (RC g q11 rZ ++ ([(b13, .inl (gO g, 4, .inr (.inr (.inr (.inr (va_up (va_up (va_up (fun _ => none) ((0 : Int32)).toNatClampNeg (some (q16 0))) ((1 : Int32)).toNatClampNeg (some (q19 0))) ((2 : Int32)).toNatClampNeg (some (q22 0))))))))] ++ ([(b14, .inl (gI g, 7, .inl (fun _ => 0)))] ++ (SC g q16 sZ ++ (SC g q19 sZ ++ (SC g q22 sZ)))))))))) s H locs := hw
  refine lv_iinc (v := 3) (lv' := [(1, .int 3), (0, .ref a)]) hx hb dX4_init_84 hl (k := 0) rfl (by decide) (by decide) rfl (fun ls hl => ?_)
  refine lv_goto (tgt := 66) hx hb dX4_init_87 (by decide) ?_
  refine lv_iload_n hx hb dX4_init_66 rfl (lv_at hl 0 rfl) ?_
  refine lv_iconst (v := 4) hx hb dX4_init_67 (by decide) ?_
  refine lv_icmp_ge (tgt := 90) hx hb dX4_init_68 (by decide) (fun c9 => False.elim (by revert c9; decide)) (fun _ => ?_)
  refine lv_aload_n hx hb dX4_init_71 rfl (lv_at hl 1 rfl) ?_
  refine gf_X4_31 cx hw 0 rfl rfl dX4_init_72 ?_
  refine lv_iload_n hx hb dX4_init_75 rfl (lv_at hl 0 rfl) ?_
  refine x_new (ci := 0) (fs := [.null, .int 0, .int 0]) (C := RX0) (T := TX0) (N := 3) cx hw inT_X0 rfl tyX0 tyX0_ok tw_1_154 tw_1_156 tw_1_6 (fun j hj => by rcases (show j = 0 ∨ j = 1 ∨ j = 2 by omega) with rfl | rfl | rfl <;> rfl) (Nat.le_of_ble_eq_true rfl) (Nat.le_of_ble_eq_true rfl) dX4_init_76 (fun b24 H hw => ?_)
  have hw : Wd g (va_A ([(a, .inr (4, [.null, .null, .null, .null, .null, .null, .int 0]))]) s.heap.size) ([(a, .inr (4, [.ref b1, .ref b4, .ref b7, .ref b10, .ref b13, .ref b14, .int 0]))] ++ (VC g q2 v ++ (VC g q5 v ++ (VC g q8 v ++ (RC g q11 rZ ++ ([(b13, .inl (gO g, 4, .inr (.inr (.inr (.inr (va_up (va_up (va_up (fun _ => none) ((0 : Int32)).toNatClampNeg (some (q16 0))) ((1 : Int32)).toNatClampNeg (some (q19 0))) ((2 : Int32)).toNatClampNeg (some (q22 0))))))))] ++ ([(b14, .inl (gI g, 7, .inl (fun _ => 0)))] ++ (SC g q16 sZ ++ (SC g q19 sZ ++ (SC g q22 sZ ++ ([(b24, .inr (0, [.null, .int 0, .int 0]))]))))))))))) s H locs := hw
  refine lv_dup hx hb dX4_init_79 rfl ?_
  have hw : Wd g (va_A ([(a, .inr (4, [.null, .null, .null, .null, .null, .null, .int 0]))]) s.heap.size) (([(a, .inr (4, [.ref b1, .ref b4, .ref b7, .ref b10, .ref b13, .ref b14, .int 0]))] ++ (VC g q2 v ++ (VC g q5 v ++ (VC g q8 v ++ (RC g q11 rZ ++ ([(b13, .inl (gO g, 4, .inr (.inr (.inr (.inr (va_up (va_up (va_up (fun _ => none) ((0 : Int32)).toNatClampNeg (some (q16 0))) ((1 : Int32)).toNatClampNeg (some (q19 0))) ((2 : Int32)).toNatClampNeg (some (q22 0))))))))] ++ ([(b14, .inl (gI g, 7, .inl (fun _ => 0)))] ++ (SC g q16 sZ ++ (SC g q19 sZ ++ (SC g q22 sZ)))))))))) ++ [(b24, .inr (0, [.null, .int 0, .int 0]))]) s H locs := hw
  refine c_XN (rest := [.ref b24, .int (3 : Int32), .ref b13]) cx hw (c_X0_init l g b24) (fun _ _ _ z => z) (fun _ _ => trivial) ⟨cw_N 0 cx.1.2.2.2.2 (nw_4 cx.2.2.1) tw_1_6 tw_1_159 rfl rfl (by decide +kernel) ⟨(Nat.le_of_ble_eq_true rfl), (Nat.le_of_ble_eq_true rfl)⟩, rfl, cx.1.2.2.2.2 _ tw_1_158⟩ hl.1 rfl (Nat.le_of_ble_eq_true rfl) dX4_init_80 ⟨(Nat.le_of_ble_eq_true rfl), (Nat.le_of_ble_eq_true rfl)⟩ (fun q25 H locs e26 hw => ?_)
  have hw : Wd g (va_A ([(a, .inr (4, [.null, .null, .null, .null, .null, .null, .int 0]))]) s.heap.size) ([(a, .inr (4, [.ref b1, .ref b4, .ref b7, .ref b10, .ref b13, .ref b14, .int 0]))] ++ (VC g q2 v ++ (VC g q5 v ++ (VC g q8 v ++ (RC g q11 rZ ++ ([(b13, .inl (gO g, 4, .inr (.inr (.inr (.inr (va_up (va_up (va_up (fun _ => none) ((0 : Int32)).toNatClampNeg (some (q16 0))) ((1 : Int32)).toNatClampNeg (some (q19 0))) ((2 : Int32)).toNatClampNeg (some (q22 0))))))))] ++ ([(b14, .inl (gI g, 7, .inl (fun _ => 0)))] ++ (SC g q16 sZ ++ (SC g q19 sZ ++ (SC g q22 sZ ++ (SC g q25 sZ))))))))))) s H locs := hw
  subst e26
  refine x_astq cx hw 43 51 rfl rfl (vp_in_iff.mpr (by decide)) dX4_init_83 (fun H locs hw => ?_)
  have hw : Wd g (va_A ([(a, .inr (4, [.null, .null, .null, .null, .null, .null, .int 0]))]) s.heap.size) ([(a, .inr (4, [.ref b1, .ref b4, .ref b7, .ref b10, .ref b13, .ref b14, .int 0]))] ++ (VC g q2 v ++ (VC g q5 v ++ (VC g q8 v ++ (RC g q11 rZ ++ ([(b13, .inl (gO g, 4, .inr (.inr (.inr (.inr (va_up (va_up (va_up (va_up (fun _ => none) ((0 : Int32)).toNatClampNeg (some (q16 0))) ((1 : Int32)).toNatClampNeg (some (q19 0))) ((2 : Int32)).toNatClampNeg (some (q22 0))) ((3 : Int32)).toNatClampNeg (some (q25 0))))))))] ++ ([(b14, .inl (gI g, 7, .inl (fun _ => 0)))] ++ (SC g q16 sZ ++ (SC g q19 sZ ++ (SC g q22 sZ ++ (SC g q25 sZ))))))))))) s H locs := hw
  refine lv_iinc (v := 4) (lv' := [(1, .int 4), (0, .ref a)]) hx hb dX4_init_84 hl (k := 0) rfl (by decide) (by decide) rfl (fun ls hl => ?_)
  refine lv_goto (tgt := 66) hx hb dX4_init_87 (by decide) ?_
  refine lv_iload_n hx hb dX4_init_66 rfl (lv_at hl 0 rfl) ?_
  refine lv_iconst (v := 4) hx hb dX4_init_67 (by decide) ?_
  refine lv_icmp_ge (tgt := 90) hx hb dX4_init_68 (by decide) (fun _ => ?_) (fun c9 => False.elim (by revert c9; decide))
  refine W.widen (k := 52) (n := 851) (Nat.le_of_ble_eq_true rfl) (Nat.le_of_ble_eq_true rfl) ?_
  subst e3
  subst e6
  subst e9
  subst e12
  have hw := hw.refs (k := 43) (f' := shR (qL [a, (q2 0), (q2 1), (q2 2), (q2 3), (q2 4), (q2 5), (q2 6), (q2 7), (q2 8), (q2 9), (q2 10), (q2 11), (q2 12), (q5 0), (q5 1), (q5 2), (q5 3), (q5 4), (q5 5), (q5 6), (q5 7), (q5 8), (q5 9), (q5 10), (q5 11), (q5 12), (q8 0), (q8 1), (q8 2), (q8 3), (q8 4), (q8 5), (q8 6), (q8 7), (q8 8), (q8 9), (q8 10), (q8 11), (q8 12), (q11 0), (q11 1), (q11 2), b13, b14, (q16 0), (q16 1), (q19 0), (q19 1), (q22 0), (q22 1), (q25 0), (q25 1)])) rfl (fun i hi => by rcases (show i = 0 ∨ i = 1 ∨ i = 2 ∨ i = 3 by omega) with rfl | rfl | rfl | rfl <;> rfl)
  exact r_x cx hr hlocks hw (qL [a, (q2 0), (q2 1), (q2 2), (q2 3), (q2 4), (q2 5), (q2 6), (q2 7), (q2 8), (q2 9), (q2 10), (q2 11), (q2 12), (q5 0), (q5 1), (q5 2), (q5 3), (q5 4), (q5 5), (q5 6), (q5 7), (q5 8), (q5 9), (q5 10), (q5 11), (q5 12), (q8 0), (q8 1), (q8 2), (q8 3), (q8 4), (q8 5), (q8 6), (q8 7), (q8 8), (q8 9), (q8 10), (q8 11), (q8 12), (q11 0), (q11 1), (q11 2), b13, b14, (q16 0), (q16 1), (q19 0), (q19 1), (q22 0), (q22 1), (q25 0), (q25 1)]) rfl rfl dX4_init_90
abbrev rm_X5_init : Room := { frames := 1, cells := 9, slots := 1100, locals := 40 }
def mZ : MD := (fun _ => 0, fun _ => 0, fun _ => 0, fun _ => 0, 0, fun _ => 0, fun _ => 0, 0, upd (upd (upd (upd (fun _ => 0) (0 : Int32).toNatClampNeg (-1)) (1 : Int32).toNatClampNeg (-1)) (2 : Int32).toNatClampNeg (-1)) (3 : Int32).toNatClampNeg (-1), fun _ => 0, fun _ => 0, 0, -1, 0, 0, 0, 0, 0, 0)
def f_X5_init_L102 (N : Nat)   : Nat → Int32 → MD → Option (MD)
  | 0, _, _ => none
  | n102 + 1, a1, d_ =>
  if (9 : Int32) ≤ a1 then
    some d_
  else
    (ck ((3 : Int32) + a1) 201).bind fun _ =>
    lt (m_set_s d_ (upd (m_s d_) (((3 : Int32) + a1)).toNatClampNeg (1 : Int32))) fun d3 =>
    (ck ((12 : Int32) + a1) 201).bind fun _ =>
    lt (m_set_s d3 (upd (m_s d3) (((12 : Int32) + a1)).toNatClampNeg (2 : Int32))) fun d5 =>
    lt (a1 + 1) fun x6 =>
    f_X5_init_L102 N   n102 x6 d5
def f_X5_init (N : Nat) : Option (MD) :=
  f_X5_init_L102 N   N (0 : Int32) mZ
set_option maxHeartbeats 4000000 in
set_option maxRecDepth 100000 in
theorem c_X5_init (l : Launch) (g : gE) (a : Nat) (N : Nat) (d' : MD) (h : f_X5_init N = some d') : MX (fun _ => True) l yX5_init (Cond.code yX5_init cX5_init 2 none :: TB) rm_X5_init a g [(a, .inr (5, [.null, .null, .null, .null, .int 0, .null, .null, .int 0, .null, .null, .null, .int 0, .int 0, .int 0, .int 0, .int 0, .int 0, .int 0, .int 0]))] (fun q => MC g q d') 9 1100 := by
  refine MX.of (cc := cX5_init) (maxL := 2) (by decide) ?_
  intro p e s m below meth c cx hw hr hlocks hin hE
  have hx := cx.1.1
  have hb := cx.1.2.1
  refine en_go (lv := [(0, .ref a)]) (Nat.le_of_ble_eq_true rfl) rfl (fun ls hl => ?_)
  refine lv_aload_n hx hb dX5_init_0 rfl (lv_at hl 0 rfl) ?_
  refine x_oinit cx tw_4_8 hl.1 dX5_init_1 (Nat.le_of_ble_eq_true rfl) (Nat.le_of_ble_eq_true rfl) ?_
  refine W.eq (g2 := F0 m 4 ls []) rfl ?_
  refine lv_aload_n hx hb dX5_init_4 rfl (lv_at hl 0 rfl) ?_
  refine lv_sipush (v := 201) hx hb dX5_init_5 (by decide) ?_
  refine x_newI (k := 201) cx hw (by decide) (by decide) (Nat.le_of_ble_eq_true rfl) (Nat.le_of_ble_eq_true rfl) (Nat.le_of_ble_eq_true rfl) dX5_init_8 (fun b1 H hw => ?_)
  have hw : Wd g (va_A ([(a, .inr (5, [.null, .null, .null, .null, .int 0, .null, .null, .int 0, .null, .null, .null, .int 0, .int 0, .int 0, .int 0, .int 0, .int 0, .int 0, .int 0]))]) s.heap.size) ([(a, .inr (5, [.null, .null, .null, .null, .int 0, .null, .null, .int 0, .null, .null, .null, .int 0, .int 0, .int 0, .int 0, .int 0, .int 0, .int 0, .int 0]))] ++ ([(b1, .inl (gI g, 201, .inl (fun _ => 0)))])) s H locs := hw
  refine x_putF (T := TX5) (k := 0) cx hw inT_X5 rfl (by decide) tw_4_9 rfl tyX5 tyX5_ok nmX5 rfl hin rfl 0 rfl rfl rfl (Nat.le_of_ble_eq_true rfl) dX5_init_10 (fun H locs hw => ?_)
  have hw : Wd g (va_A ([(a, .inr (5, [.null, .null, .null, .null, .int 0, .null, .null, .int 0, .null, .null, .null, .int 0, .int 0, .int 0, .int 0, .int 0, .int 0, .int 0, .int 0]))]) s.heap.size) ([(a, .inr (5, [.ref b1, .null, .null, .null, .int 0, .null, .null, .int 0, .null, .null, .null, .int 0, .int 0, .int 0, .int 0, .int 0, .int 0, .int 0, .int 0]))] ++ ([(b1, .inl (gI g, 201, .inl (fun _ => 0)))])) s H locs := hw
  refine lv_aload_n hx hb dX5_init_13 rfl (lv_at hl 0 rfl) ?_
  refine lv_sipush (v := 201) hx hb dX5_init_14 (by decide) ?_
  refine x_newI (k := 201) cx hw (by decide) (by decide) (Nat.le_of_ble_eq_true rfl) (Nat.le_of_ble_eq_true rfl) (Nat.le_of_ble_eq_true rfl) dX5_init_17 (fun b2 H hw => ?_)
  have hw : Wd g (va_A ([(a, .inr (5, [.null, .null, .null, .null, .int 0, .null, .null, .int 0, .null, .null, .null, .int 0, .int 0, .int 0, .int 0, .int 0, .int 0, .int 0, .int 0]))]) s.heap.size) ([(a, .inr (5, [.ref b1, .null, .null, .null, .int 0, .null, .null, .int 0, .null, .null, .null, .int 0, .int 0, .int 0, .int 0, .int 0, .int 0, .int 0, .int 0]))] ++ ([(b1, .inl (gI g, 201, .inl (fun _ => 0)))] ++ ([(b2, .inl (gI g, 201, .inl (fun _ => 0)))]))) s H locs := hw
  refine x_putF (T := TX5) (k := 1) cx hw inT_X5 rfl (by decide) tw_4_10 rfl tyX5 tyX5_ok nmX5 rfl hin rfl 0 rfl rfl rfl (Nat.le_of_ble_eq_true rfl) dX5_init_19 (fun H locs hw => ?_)
  have hw : Wd g (va_A ([(a, .inr (5, [.null, .null, .null, .null, .int 0, .null, .null, .int 0, .null, .null, .null, .int 0, .int 0, .int 0, .int 0, .int 0, .int 0, .int 0, .int 0]))]) s.heap.size) ([(a, .inr (5, [.ref b1, .ref b2, .null, .null, .int 0, .null, .null, .int 0, .null, .null, .null, .int 0, .int 0, .int 0, .int 0, .int 0, .int 0, .int 0, .int 0]))] ++ ([(b1, .inl (gI g, 201, .inl (fun _ => 0)))] ++ ([(b2, .inl (gI g, 201, .inl (fun _ => 0)))]))) s H locs := hw
  refine lv_aload_n hx hb dX5_init_22 rfl (lv_at hl 0 rfl) ?_
  refine lv_sipush (v := 201) hx hb dX5_init_23 (by decide) ?_
  refine x_newI (k := 201) cx hw (by decide) (by decide) (Nat.le_of_ble_eq_true rfl) (Nat.le_of_ble_eq_true rfl) (Nat.le_of_ble_eq_true rfl) dX5_init_26 (fun b3 H hw => ?_)
  have hw : Wd g (va_A ([(a, .inr (5, [.null, .null, .null, .null, .int 0, .null, .null, .int 0, .null, .null, .null, .int 0, .int 0, .int 0, .int 0, .int 0, .int 0, .int 0, .int 0]))]) s.heap.size) ([(a, .inr (5, [.ref b1, .ref b2, .null, .null, .int 0, .null, .null, .int 0, .null, .null, .null, .int 0, .int 0, .int 0, .int 0, .int 0, .int 0, .int 0, .int 0]))] ++ ([(b1, .inl (gI g, 201, .inl (fun _ => 0)))] ++ ([(b2, .inl (gI g, 201, .inl (fun _ => 0)))] ++ ([(b3, .inl (gI g, 201, .inl (fun _ => 0)))])))) s H locs := hw
  refine x_putF (T := TX5) (k := 2) cx hw inT_X5 rfl (by decide) tw_4_11 rfl tyX5 tyX5_ok nmX5 rfl hin rfl 0 rfl rfl rfl (Nat.le_of_ble_eq_true rfl) dX5_init_28 (fun H locs hw => ?_)
  have hw : Wd g (va_A ([(a, .inr (5, [.null, .null, .null, .null, .int 0, .null, .null, .int 0, .null, .null, .null, .int 0, .int 0, .int 0, .int 0, .int 0, .int 0, .int 0, .int 0]))]) s.heap.size) ([(a, .inr (5, [.ref b1, .ref b2, .ref b3, .null, .int 0, .null, .null, .int 0, .null, .null, .null, .int 0, .int 0, .int 0, .int 0, .int 0, .int 0, .int 0, .int 0]))] ++ ([(b1, .inl (gI g, 201, .inl (fun _ => 0)))] ++ ([(b2, .inl (gI g, 201, .inl (fun _ => 0)))] ++ ([(b3, .inl (gI g, 201, .inl (fun _ => 0)))])))) s H locs := hw
  refine lv_aload_n hx hb dX5_init_31 rfl (lv_at hl 0 rfl) ?_
  refine lv_sipush (v := 201) hx hb dX5_init_32 (by decide) ?_
  refine x_newI (k := 201) cx hw (by decide) (by decide) (Nat.le_of_ble_eq_true rfl) (Nat.le_of_ble_eq_true rfl) (Nat.le_of_ble_eq_true rfl) dX5_init_35 (fun b4 H hw => ?_)
  have hw : Wd g (va_A ([(a, .inr (5, [.null, .null, .null, .null, .int 0, .null, .null, .int 0, .null, .null, .null, .int 0, .int 0, .int 0, .int 0, .int 0, .int 0, .int 0, .int 0]))]) s.heap.size) ([(a, .inr (5, [.ref b1, .ref b2, .ref b3, .null, .int 0, .null, .null, .int 0, .null, .null, .null, .int 0, .int 0, .int 0, .int 0, .int 0, .int 0, .int 0, .int 0]))] ++ ([(b1, .inl (gI g, 201, .inl (fun _ => 0)))] ++ ([(b2, .inl (gI g, 201, .inl (fun _ => 0)))] ++ ([(b3, .inl (gI g, 201, .inl (fun _ => 0)))] ++ ([(b4, .inl (gI g, 201, .inl (fun _ => 0)))]))))) s H locs := hw
  refine x_putF (T := TX5) (k := 3) cx hw inT_X5 rfl (by decide) tw_4_12 rfl tyX5 tyX5_ok nmX5 rfl hin rfl 0 rfl rfl rfl (Nat.le_of_ble_eq_true rfl) dX5_init_37 (fun H locs hw => ?_)
  have hw : Wd g (va_A ([(a, .inr (5, [.null, .null, .null, .null, .int 0, .null, .null, .int 0, .null, .null, .null, .int 0, .int 0, .int 0, .int 0, .int 0, .int 0, .int 0, .int 0]))]) s.heap.size) ([(a, .inr (5, [.ref b1, .ref b2, .ref b3, .ref b4, .int 0, .null, .null, .int 0, .null, .null, .null, .int 0, .int 0, .int 0, .int 0, .int 0, .int 0, .int 0, .int 0]))] ++ ([(b1, .inl (gI g, 201, .inl (fun _ => 0)))] ++ ([(b2, .inl (gI g, 201, .inl (fun _ => 0)))] ++ ([(b3, .inl (gI g, 201, .inl (fun _ => 0)))] ++ ([(b4, .inl (gI g, 201, .inl (fun _ => 0)))]))))) s H locs := hw
  refine lv_aload_n hx hb dX5_init_40 rfl (lv_at hl 0 rfl) ?_
  refine lv_bipush (v := 8) hx hb dX5_init_41 (by decide) ?_
  refine x_newI (k := 8) cx hw (by decide) (by decide) (Nat.le_of_ble_eq_true rfl) (Nat.le_of_ble_eq_true rfl) (Nat.le_of_ble_eq_true rfl) dX5_init_43 (fun b5 H hw => ?_)
  have hw : Wd g (va_A ([(a, .inr (5, [.null, .null, .null, .null, .int 0, .null, .null, .int 0, .null, .null, .null, .int 0, .int 0, .int 0, .int 0, .int 0, .int 0, .int 0, .int 0]))]) s.heap.size) ([(a, .inr (5, [.ref b1, .ref b2, .ref b3, .ref b4, .int 0, .null, .null, .int 0, .null, .null, .null, .int 0, .int 0, .int 0, .int 0, .int 0, .int 0, .int 0, .int 0]))] ++ ([(b1, .inl (gI g, 201, .inl (fun _ => 0)))] ++ ([(b2, .inl (gI g, 201, .inl (fun _ => 0)))] ++ ([(b3, .inl (gI g, 201, .inl (fun _ => 0)))] ++ ([(b4, .inl (gI g, 201, .inl (fun _ => 0)))] ++ ([(b5, .inl (gI g, 8, .inl (fun _ => 0)))])))))) s H locs := hw
  refine x_putF (T := TX5) (k := 5) cx hw inT_X5 rfl (by decide) tw_4_14 rfl tyX5 tyX5_ok nmX5 rfl hin rfl 0 rfl rfl rfl (Nat.le_of_ble_eq_true rfl) dX5_init_45 (fun H locs hw => ?_)
  have hw : Wd g (va_A ([(a, .inr (5, [.null, .null, .null, .null, .int 0, .null, .null, .int 0, .null, .null, .null, .int 0, .int 0, .int 0, .int 0, .int 0, .int 0, .int 0, .int 0]))]) s.heap.size) ([(a, .inr (5, [.ref b1, .ref b2, .ref b3, .ref b4, .int 0, .ref b5, .null, .int 0, .null, .null, .null, .int 0, .int 0, .int 0, .int 0, .int 0, .int 0, .int 0, .int 0]))] ++ ([(b1, .inl (gI g, 201, .inl (fun _ => 0)))] ++ ([(b2, .inl (gI g, 201, .inl (fun _ => 0)))] ++ ([(b3, .inl (gI g, 201, .inl (fun _ => 0)))] ++ ([(b4, .inl (gI g, 201, .inl (fun _ => 0)))] ++ ([(b5, .inl (gI g, 8, .inl (fun _ => 0)))])))))) s H locs := hw
  refine lv_aload_n hx hb dX5_init_48 rfl (lv_at hl 0 rfl) ?_
  refine lv_bipush (v := 120) hx hb dX5_init_49 (by decide) ?_
  refine x_newI (k := 120) cx hw (by decide) (by decide) (Nat.le_of_ble_eq_true rfl) (Nat.le_of_ble_eq_true rfl) (Nat.le_of_ble_eq_true rfl) dX5_init_51 (fun b6 H hw => ?_)
  have hw : Wd g (va_A ([(a, .inr (5, [.null, .null, .null, .null, .int 0, .null, .null, .int 0, .null, .null, .null, .int 0, .int 0, .int 0, .int 0, .int 0, .int 0, .int 0, .int 0]))]) s.heap.size) ([(a, .inr (5, [.ref b1, .ref b2, .ref b3, .ref b4, .int 0, .ref b5, .null, .int 0, .null, .null, .null, .int 0, .int 0, .int 0, .int 0, .int 0, .int 0, .int 0, .int 0]))] ++ ([(b1, .inl (gI g, 201, .inl (fun _ => 0)))] ++ ([(b2, .inl (gI g, 201, .inl (fun _ => 0)))] ++ ([(b3, .inl (gI g, 201, .inl (fun _ => 0)))] ++ ([(b4, .inl (gI g, 201, .inl (fun _ => 0)))] ++ ([(b5, .inl (gI g, 8, .inl (fun _ => 0)))] ++ ([(b6, .inl (gI g, 120, .inl (fun _ => 0)))]))))))) s H locs := hw
  refine x_putF (T := TX5) (k := 6) cx hw inT_X5 rfl (by decide) tw_4_15 rfl tyX5 tyX5_ok nmX5 rfl hin rfl 0 rfl rfl rfl (Nat.le_of_ble_eq_true rfl) dX5_init_53 (fun H locs hw => ?_)
  have hw : Wd g (va_A ([(a, .inr (5, [.null, .null, .null, .null, .int 0, .null, .null, .int 0, .null, .null, .null, .int 0, .int 0, .int 0, .int 0, .int 0, .int 0, .int 0, .int 0]))]) s.heap.size) ([(a, .inr (5, [.ref b1, .ref b2, .ref b3, .ref b4, .int 0, .ref b5, .ref b6, .int 0, .null, .null, .null, .int 0, .int 0, .int 0, .int 0, .int 0, .int 0, .int 0, .int 0]))] ++ ([(b1, .inl (gI g, 201, .inl (fun _ => 0)))] ++ ([(b2, .inl (gI g, 201, .inl (fun _ => 0)))] ++ ([(b3, .inl (gI g, 201, .inl (fun _ => 0)))] ++ ([(b4, .inl (gI g, 201, .inl (fun _ => 0)))] ++ ([(b5, .inl (gI g, 8, .inl (fun _ => 0)))] ++ ([(b6, .inl (gI g, 120, .inl (fun _ => 0)))]))))))) s H locs := hw
  refine lv_aload_n hx hb dX5_init_56 rfl (lv_at hl 0 rfl) ?_
  refine lv_iconst (v := 4) hx hb dX5_init_57 (by decide) ?_
  refine x_newI (k := 4) cx hw (by decide) (by decide) (Nat.le_of_ble_eq_true rfl) (Nat.le_of_ble_eq_true rfl) (Nat.le_of_ble_eq_true rfl) dX5_init_58 (fun b7 H hw => ?_)
  have hw : Wd g (va_A ([(a, .inr (5, [.null, .null, .null, .null, .int 0, .null, .null, .int 0, .null, .null, .null, .int 0, .int 0, .int 0, .int 0, .int 0, .int 0, .int 0, .int 0]))]) s.heap.size) ([(a, .inr (5, [.ref b1, .ref b2, .ref b3, .ref b4, .int 0, .ref b5, .ref b6, .int 0, .null, .null, .null, .int 0, .int 0, .int 0, .int 0, .int 0, .int 0, .int 0, .int 0]))] ++ ([(b1, .inl (gI g, 201, .inl (fun _ => 0)))] ++ ([(b2, .inl (gI g, 201, .inl (fun _ => 0)))] ++ ([(b3, .inl (gI g, 201, .inl (fun _ => 0)))] ++ ([(b4, .inl (gI g, 201, .inl (fun _ => 0)))] ++ ([(b5, .inl (gI g, 8, .inl (fun _ => 0)))] ++ ([(b6, .inl (gI g, 120, .inl (fun _ => 0)))] ++ ([(b7, .inl (gI g, 4, .inl (fun _ => 0)))])))))))) s H locs := hw
  refine lv_dup hx hb dX5_init_60 rfl ?_
  refine lv_iconst (v := 0) hx hb dX5_init_61 (by decide) ?_
  refine lv_iconst (v := -1) hx hb dX5_init_62 (by decide) ?_
  refine x_iast cx hw 7 rfl (vp_in_iff.mpr (by decide)) dX5_init_63 (fun H locs hw => ?_)
  have hw : Wd g (va_A ([(a, .inr (5, [.null, .null, .null, .null, .int 0, .null, .null, .int 0, .null, .null, .null, .int 0, .int 0, .int 0, .int 0, .int 0, .int 0, .int 0, .int 0]))]) s.heap.size) ([(a, .inr (5, [.ref b1, .ref b2, .ref b3, .ref b4, .int 0, .ref b5, .ref b6, .int 0, .null, .null, .null, .int 0, .int 0, .int 0, .int 0, .int 0, .int 0, .int 0, .int 0]))] ++ ([(b1, .inl (gI g, 201, .inl (fun _ => 0)))] ++ ([(b2, .inl (gI g, 201, .inl (fun _ => 0)))] ++ ([(b3, .inl (gI g, 201, .inl (fun _ => 0)))] ++ ([(b4, .inl (gI g, 201, .inl (fun _ => 0)))] ++ ([(b5, .inl (gI g, 8, .inl (fun _ => 0)))] ++ ([(b6, .inl (gI g, 120, .inl (fun _ => 0)))] ++ ([(b7, .inl (gI g, 4, .inl (upd (fun _ => 0) ((0 : Int32)).toNatClampNeg (-1 : Int32))))])))))))) s H locs := hw
  refine lv_dup hx hb dX5_init_64 rfl ?_
  refine lv_iconst (v := 1) hx hb dX5_init_65 (by decide) ?_
  refine lv_iconst (v := -1) hx hb dX5_init_66 (by decide) ?_
  refine x_iast cx hw 7 rfl (vp_in_iff.mpr (by decide)) dX5_init_67 (fun H locs hw => ?_)
  have hw : Wd g (va_A ([(a, .inr (5, [.null, .null, .null, .null, .int 0, .null, .null, .int 0, .null, .null, .null, .int 0, .int 0, .int 0, .int 0, .int 0, .int 0, .int 0, .int 0]))]) s.heap.size) ([(a, .inr (5, [.ref b1, .ref b2, .ref b3, .ref b4, .int 0, .ref b5, .ref b6, .int 0, .null, .null, .null, .int 0, .int 0, .int 0, .int 0, .int 0, .int 0, .int 0, .int 0]))] ++ ([(b1, .inl (gI g, 201, .inl (fun _ => 0)))] ++ ([(b2, .inl (gI g, 201, .inl (fun _ => 0)))] ++ ([(b3, .inl (gI g, 201, .inl (fun _ => 0)))] ++ ([(b4, .inl (gI g, 201, .inl (fun _ => 0)))] ++ ([(b5, .inl (gI g, 8, .inl (fun _ => 0)))] ++ ([(b6, .inl (gI g, 120, .inl (fun _ => 0)))] ++ ([(b7, .inl (gI g, 4, .inl (upd (upd (fun _ => 0) ((0 : Int32)).toNatClampNeg (-1 : Int32)) ((1 : Int32)).toNatClampNeg (-1 : Int32))))])))))))) s H locs := hw
  refine lv_dup hx hb dX5_init_68 rfl ?_
  refine lv_iconst (v := 2) hx hb dX5_init_69 (by decide) ?_
  refine lv_iconst (v := -1) hx hb dX5_init_70 (by decide) ?_
  refine x_iast cx hw 7 rfl (vp_in_iff.mpr (by decide)) dX5_init_71 (fun H locs hw => ?_)
  have hw : Wd g (va_A ([(a, .inr (5, [.null, .null, .null, .null, .int 0, .null, .null, .int 0, .null, .null, .null, .int 0, .int 0, .int 0, .int 0, .int 0, .int 0, .int 0, .int 0]))]) s.heap.size) ([(a, .inr (5, [.ref b1, .ref b2, .ref b3, .ref b4, .int 0, .ref b5, .ref b6, .int 0, .null, .null, .null, .int 0, .int 0, .int 0, .int 0, .int 0, .int 0, .int 0, .int 0]))] ++ ([(b1, .inl (gI g, 201, .inl (fun _ => 0)))] ++ ([(b2, .inl (gI g, 201, .inl (fun _ => 0)))] ++ ([(b3, .inl (gI g, 201, .inl (fun _ => 0)))] ++ ([(b4, .inl (gI g, 201, .inl (fun _ => 0)))] ++ ([(b5, .inl (gI g, 8, .inl (fun _ => 0)))] ++ ([(b6, .inl (gI g, 120, .inl (fun _ => 0)))] ++ ([(b7, .inl (gI g, 4, .inl (upd (upd (upd (fun _ => 0) ((0 : Int32)).toNatClampNeg (-1 : Int32)) ((1 : Int32)).toNatClampNeg (-1 : Int32)) ((2 : Int32)).toNatClampNeg (-1 : Int32))))])))))))) s H locs := hw
  refine lv_dup hx hb dX5_init_72 rfl ?_
  refine lv_iconst (v := 3) hx hb dX5_init_73 (by decide) ?_
  refine lv_iconst (v := -1) hx hb dX5_init_74 (by decide) ?_
  refine x_iast cx hw 7 rfl (vp_in_iff.mpr (by decide)) dX5_init_75 (fun H locs hw => ?_)
  have hw : Wd g (va_A ([(a, .inr (5, [.null, .null, .null, .null, .int 0, .null, .null, .int 0, .null, .null, .null, .int 0, .int 0, .int 0, .int 0, .int 0, .int 0, .int 0, .int 0]))]) s.heap.size) ([(a, .inr (5, [.ref b1, .ref b2, .ref b3, .ref b4, .int 0, .ref b5, .ref b6, .int 0, .null, .null, .null, .int 0, .int 0, .int 0, .int 0, .int 0, .int 0, .int 0, .int 0]))] ++ ([(b1, .inl (gI g, 201, .inl (fun _ => 0)))] ++ ([(b2, .inl (gI g, 201, .inl (fun _ => 0)))] ++ ([(b3, .inl (gI g, 201, .inl (fun _ => 0)))] ++ ([(b4, .inl (gI g, 201, .inl (fun _ => 0)))] ++ ([(b5, .inl (gI g, 8, .inl (fun _ => 0)))] ++ ([(b6, .inl (gI g, 120, .inl (fun _ => 0)))] ++ ([(b7, .inl (gI g, 4, .inl (upd (upd (upd (upd (fun _ => 0) ((0 : Int32)).toNatClampNeg (-1 : Int32)) ((1 : Int32)).toNatClampNeg (-1 : Int32)) ((2 : Int32)).toNatClampNeg (-1 : Int32)) ((3 : Int32)).toNatClampNeg (-1 : Int32))))])))))))) s H locs := hw
  refine x_putF (T := TX5) (k := 8) cx hw inT_X5 rfl (by decide) tw_4_17 rfl tyX5 tyX5_ok nmX5 rfl hin rfl 0 rfl rfl rfl (Nat.le_of_ble_eq_true rfl) dX5_init_76 (fun H locs hw => ?_)
  have hw : Wd g (va_A ([(a, .inr (5, [.null, .null, .null, .null, .int 0, .null, .null, .int 0, .null, .null, .null, .int 0, .int 0, .int 0, .int 0, .int 0, .int 0, .int 0, .int 0]))]) s.heap.size) ([(a, .inr (5, [.ref b1, .ref b2, .ref b3, .ref b4, .int 0, .ref b5, .ref b6, .int 0, .ref b7, .null, .null, .int 0, .int 0, .int 0, .int 0, .int 0, .int 0, .int 0, .int 0]))] ++ ([(b1, .inl (gI g, 201, .inl (fun _ => 0)))] ++ ([(b2, .inl (gI g, 201, .inl (fun _ => 0)))] ++ ([(b3, .inl (gI g, 201, .inl (fun _ => 0)))] ++ ([(b4, .inl (gI g, 201, .inl (fun _ => 0)))] ++ ([(b5, .inl (gI g, 8, .inl (fun _ => 0)))] ++ ([(b6, .inl (gI g, 120, .inl (fun _ => 0)))] ++ ([(b7, .inl (gI g, 4, .inl (upd (upd (upd (upd (fun _ => 0) ((0 : Int32)).toNatClampNeg (-1 : Int32)) ((1 : Int32)).toNatClampNeg (-1 : Int32)) ((2 : Int32)).toNatClampNeg (-1 : Int32)) ((3 : Int32)).toNatClampNeg (-1 : Int32))))])))))))) s H locs := hw
  refine lv_aload_n hx hb dX5_init_79 rfl (lv_at hl 0 rfl) ?_
  refine lv_iconst (v := 4) hx hb dX5_init_80 (by decide) ?_
  refine x_newI (k := 4) cx hw (by decide) (by decide) (Nat.le_of_ble_eq_true rfl) (Nat.le_of_ble_eq_true rfl) (Nat.le_of_ble_eq_true rfl) dX5_init_81 (fun b8 H hw => ?_)
  have hw : Wd g (va_A ([(a, .inr (5, [.null, .null, .null, .null, .int 0, .null, .null, .int 0, .null, .null, .null, .int 0, .int 0, .int 0, .int 0, .int 0, .int 0, .int 0, .int 0]))]) s.heap.size) ([(a, .inr (5, [.ref b1, .ref b2, .ref b3, .ref b4, .int 0, .ref b5, .ref b6, .int 0, .ref b7, .null, .null, .int 0, .int 0, .int 0, .int 0, .int 0, .int 0, .int 0, .int 0]))] ++ ([(b1, .inl (gI g, 201, .inl (fun _ => 0)))] ++ ([(b2, .inl (gI g, 201, .inl (fun _ => 0)))] ++ ([(b3, .inl (gI g, 201, .inl (fun _ => 0)))] ++ ([(b4, .inl (gI g, 201, .inl (fun _ => 0)))] ++ ([(b5, .inl (gI g, 8, .inl (fun _ => 0)))] ++ ([(b6, .inl (gI g, 120, .inl (fun _ => 0)))] ++ ([(b7, .inl (gI g, 4, .inl (upd (upd (upd (upd (fun _ => 0) ((0 : Int32)).toNatClampNeg (-1 : Int32)) ((1 : Int32)).toNatClampNeg (-1 : Int32)) ((2 : Int32)).toNatClampNeg (-1 : Int32)) ((3 : Int32)).toNatClampNeg (-1 : Int32))))] ++ ([(b8, .inl (gI g, 4, .inl (fun _ => 0)))]))))))))) s H locs := hw
  refine x_putF (T := TX5) (k := 9) cx hw inT_X5 rfl (by decide) tw_4_18 rfl tyX5 tyX5_ok nmX5 rfl hin rfl 0 rfl rfl rfl (Nat.le_of_ble_eq_true rfl) dX5_init_83 (fun H locs hw => ?_)
  have hw : Wd g (va_A ([(a, .inr (5, [.null, .null, .null, .null, .int 0, .null, .null, .int 0, .null, .null, .null, .int 0, .int 0, .int 0, .int 0, .int 0, .int 0, .int 0, .int 0]))]) s.heap.size) ([(a, .inr (5, [.ref b1, .ref b2, .ref b3, .ref b4, .int 0, .ref b5, .ref b6, .int 0, .ref b7, .ref b8, .null, .int 0, .int 0, .int 0, .int 0, .int 0, .int 0, .int 0, .int 0]))] ++ ([(b1, .inl (gI g, 201, .inl (fun _ => 0)))] ++ ([(b2, .inl (gI g, 201, .inl (fun _ => 0)))] ++ ([(b3, .inl (gI g, 201, .inl (fun _ => 0)))] ++ ([(b4, .inl (gI g, 201, .inl (fun _ => 0)))] ++ ([(b5, .inl (gI g, 8, .inl (fun _ => 0)))] ++ ([(b6, .inl (gI g, 120, .inl (fun _ => 0)))] ++ ([(b7, .inl (gI g, 4, .inl (upd (upd (upd (upd (fun _ => 0) ((0 : Int32)).toNatClampNeg (-1 : Int32)) ((1 : Int32)).toNatClampNeg (-1 : Int32)) ((2 : Int32)).toNatClampNeg (-1 : Int32)) ((3 : Int32)).toNatClampNeg (-1 : Int32))))] ++ ([(b8, .inl (gI g, 4, .inl (fun _ => 0)))]))))))))) s H locs := hw
  refine lv_aload_n hx hb dX5_init_86 rfl (lv_at hl 0 rfl) ?_
  refine lv_sipush (v := 160) hx hb dX5_init_87 (by decide) ?_
  refine x_newJ (k := 160) cx hw (by decide) (by decide) (Nat.le_of_ble_eq_true rfl) (Nat.le_of_ble_eq_true rfl) (Nat.le_of_ble_eq_true rfl) dX5_init_90 (fun b9 H hw => ?_)
  have hw : Wd g (va_A ([(a, .inr (5, [.null, .null, .null, .null, .int 0, .null, .null, .int 0, .null, .null, .null, .int 0, .int 0, .int 0, .int 0, .int 0, .int 0, .int 0, .int 0]))]) s.heap.size) ([(a, .inr (5, [.ref b1, .ref b2, .ref b3, .ref b4, .int 0, .ref b5, .ref b6, .int 0, .ref b7, .ref b8, .null, .int 0, .int 0, .int 0, .int 0, .int 0, .int 0, .int 0, .int 0]))] ++ ([(b1, .inl (gI g, 201, .inl (fun _ => 0)))] ++ ([(b2, .inl (gI g, 201, .inl (fun _ => 0)))] ++ ([(b3, .inl (gI g, 201, .inl (fun _ => 0)))] ++ ([(b4, .inl (gI g, 201, .inl (fun _ => 0)))] ++ ([(b5, .inl (gI g, 8, .inl (fun _ => 0)))] ++ ([(b6, .inl (gI g, 120, .inl (fun _ => 0)))] ++ ([(b7, .inl (gI g, 4, .inl (upd (upd (upd (upd (fun _ => 0) ((0 : Int32)).toNatClampNeg (-1 : Int32)) ((1 : Int32)).toNatClampNeg (-1 : Int32)) ((2 : Int32)).toNatClampNeg (-1 : Int32)) ((3 : Int32)).toNatClampNeg (-1 : Int32))))] ++ ([(b8, .inl (gI g, 4, .inl (fun _ => 0)))] ++ ([(b9, .inl (gJ g, 160, .inr (.inl (fun _ => 0))))])))))))))) s H locs := hw
  refine x_putF (T := TX5) (k := 10) cx hw inT_X5 rfl (by decide) tw_4_19 rfl tyX5 tyX5_ok nmX5 rfl hin rfl 0 rfl rfl rfl (Nat.le_of_ble_eq_true rfl) dX5_init_92 (fun H locs hw => ?_)
  have hw : Wd g (va_A ([(a, .inr (5, [.null, .null, .null, .null, .int 0, .null, .null, .int 0, .null, .null, .null, .int 0, .int 0, .int 0, .int 0, .int 0, .int 0, .int 0, .int 0]))]) s.heap.size) ([(a, .inr (5, [.ref b1, .ref b2, .ref b3, .ref b4, .int 0, .ref b5, .ref b6, .int 0, .ref b7, .ref b8, .ref b9, .int 0, .int 0, .int 0, .int 0, .int 0, .int 0, .int 0, .int 0]))] ++ ([(b1, .inl (gI g, 201, .inl (fun _ => 0)))] ++ ([(b2, .inl (gI g, 201, .inl (fun _ => 0)))] ++ ([(b3, .inl (gI g, 201, .inl (fun _ => 0)))] ++ ([(b4, .inl (gI g, 201, .inl (fun _ => 0)))] ++ ([(b5, .inl (gI g, 8, .inl (fun _ => 0)))] ++ ([(b6, .inl (gI g, 120, .inl (fun _ => 0)))] ++ ([(b7, .inl (gI g, 4, .inl (upd (upd (upd (upd (fun _ => 0) ((0 : Int32)).toNatClampNeg (-1 : Int32)) ((1 : Int32)).toNatClampNeg (-1 : Int32)) ((2 : Int32)).toNatClampNeg (-1 : Int32)) ((3 : Int32)).toNatClampNeg (-1 : Int32))))] ++ ([(b8, .inl (gI g, 4, .inl (fun _ => 0)))] ++ ([(b9, .inl (gJ g, 160, .inr (.inl (fun _ => 0))))])))))))))) s H locs := hw
  refine lv_aload_n hx hb dX5_init_95 rfl (lv_at hl 0 rfl) ?_
  refine lv_iconst (v := -1) hx hb dX5_init_96 (by decide) ?_
  refine pf_X5_38 cx hw 0 rfl rfl rfl (Nat.le_of_ble_eq_true rfl) dX5_init_97 (fun H locs hw => ?_)
  have hw : Wd g (va_A ([(a, .inr (5, [.null, .null, .null, .null, .int 0, .null, .null, .int 0, .null, .null, .null, .int 0, .int 0, .int 0, .int 0, .int 0, .int 0, .int 0, .int 0]))]) s.heap.size) ([(a, .inr (5, [.ref b1, .ref b2, .ref b3, .ref b4, .int 0, .ref b5, .ref b6, .int 0, .ref b7, .ref b8, .ref b9, .int 0, .int (-1 : Int32), .int 0, .int 0, .int 0, .int 0, .int 0, .int 0]))] ++ ([(b1, .inl (gI g, 201, .inl (fun _ => 0)))] ++ ([(b2, .inl (gI g, 201, .inl (fun _ => 0)))] ++ ([(b3, .inl (gI g, 201, .inl (fun _ => 0)))] ++ ([(b4, .inl (gI g, 201, .inl (fun _ => 0)))] ++ ([(b5, .inl (gI g, 8, .inl (fun _ => 0)))] ++ ([(b6, .inl (gI g, 120, .inl (fun _ => 0)))] ++ ([(b7, .inl (gI g, 4, .inl (upd (upd (upd (upd (fun _ => 0) ((0 : Int32)).toNatClampNeg (-1 : Int32)) ((1 : Int32)).toNatClampNeg (-1 : Int32)) ((2 : Int32)).toNatClampNeg (-1 : Int32)) ((3 : Int32)).toNatClampNeg (-1 : Int32))))] ++ ([(b8, .inl (gI g, 4, .inl (fun _ => 0)))] ++ ([(b9, .inl (gJ g, 160, .inr (.inl (fun _ => 0))))])))))))))) s H locs := hw
  have hw : Wd g (va_A ([(a, .inr (5, [.null, .null, .null, .null, .int 0, .null, .null, .int 0, .null, .null, .null, .int 0, .int 0, .int 0, .int 0, .int 0, .int 0, .int 0, .int 0]))]) s.heap.size) (MC g (qL [a, b1, b2, b3, b4, b5, b6, b7, b8, b9]) mZ) s H locs := hw
  refine W.widen (k := 9) (n := 1100) (Nat.le_of_ble_eq_true rfl) (Nat.le_of_ble_eq_true rfl) ?_
  obtain ⟨q, hq⟩ : ∃ q, q = (qL [a, b1, b2, b3, b4, b5, b6, b7, b8, b9]) := ⟨_, rfl⟩
  rw [← hq] at hw
  have hqa : a = q 0 := by rw [hq]; rfl
  have hl : lv_has ls 2 [(0, .ref (q 0))] := by rw [← hqa]; exact hl
  have L102 : ∀ (n102 : Nat) (a1 : Int32) (d_ : MD) (H : Heap) (locs : List Loc) (ls : Array Slot), Wd g (va_A ([(a, .inr (5, [.null, .null, .null, .null, .int 0, .null, .null, .int 0, .null, .null, .null, .int 0, .int 0, .int 0, .int 0, .int 0, .int 0, .int 0, .int 0]))]) s.heap.size) ((MC g q d_)) s H locs → lv_has ls 2 [(0, .ref (q 0)), (1, .int a1)] → f_X5_init_L102 N   n102 a1 d_ = some d' → W p l e rm_X5_init s m ([.ref a] : List Value).toArray below meth c H locs 9 1100 (MQ below (QX g (fun q => MC g q d') a (va_A ([(a, .inr (5, [.null, .null, .null, .null, .int 0, .null, .null, .int 0, .null, .null, .null, .int 0, .int 0, .int 0, .int 0, .int 0, .int 0, .int 0, .int 0]))]) s.heap.size)) ([.ref a] : List Value).toArray s 9 1100 (va_A ([(a, .inr (5, [.null, .null, .null, .null, .int 0, .null, .null, .int 0, .null, .null, .null, .int 0, .int 0, .int 0, .int 0, .int 0, .int 0, .int 0, .int 0]))]) s.heap.size)) (F0 m 102 ls []) := by
    intro n102
    induction n102 with
    | zero => intro a1 d_ H locs ls hw hl h; exact (Option.some_ne_none _ h.symm).elim
    | succ n102 ih102 =>
      intro a1 d_ H locs ls hw hl h
      rw [f_X5_init_L102] at h
      refine lv_iload_n hx hb dX5_init_102 rfl (lv_at hl 1 rfl) ?_
      refine lv_bipush (v := 9) hx hb dX5_init_103 (by decide) ?_
      refine lv_icmp_ge (tgt := 133) hx hb dX5_init_105 (by decide) (fun c7 => ?_) (fun c7 => ?_)
      · replace h := ite_t c7 h
        exact r_x cx hr hlocks hw q hqa.symm (congrArg (fun z0 => (MC g q z0)) (sm_eq h)) dX5_init_133
      · replace h := ite_f c7 h
        refine lv_aload_n hx hb dX5_init_108 rfl (lv_at hl 0 rfl) ?_
        refine gf_X5_7 cx hw 0 rfl rfl dX5_init_109 ?_
        refine lv_iconst (v := 3) hx hb dX5_init_112 (by decide) ?_
        refine lv_iload_n hx hb dX5_init_113 rfl (lv_at hl 1 rfl) ?_
        refine lv_iadd hx hb dX5_init_114 ?_
        refine lv_iconst (v := 1) hx hb dX5_init_115 (by decide) ?_
        have i8 := ck_in h
        replace h := ck_nx h
        refine x_iast cx hw 1 rfl i8 dX5_init_116 (fun H locs hw => ?_)
        obtain ⟨d9, ed9, h⟩ := lt_ex h
        have hw : Wd g (va_A ([(a, .inr (5, [.null, .null, .null, .null, .int 0, .null, .null, .int 0, .null, .null, .null, .int 0, .int 0, .int 0, .int 0, .int 0, .int 0, .int 0, .int 0]))]) s.heap.size) ((MC g q d9)) s H locs := by rw [ed9]; exact hw
        refine lv_aload_n hx hb dX5_init_117 rfl (lv_at hl 0 rfl) ?_
        refine gf_X5_7 cx hw 0 rfl rfl dX5_init_118 ?_
        refine lv_bipush (v := 12) hx hb dX5_init_121 (by decide) ?_
        refine lv_iload_n hx hb dX5_init_123 rfl (lv_at hl 1 rfl) ?_
        refine lv_iadd hx hb dX5_init_124 ?_
        refine lv_iconst (v := 2) hx hb dX5_init_125 (by decide) ?_
        have i10 := ck_in h
        replace h := ck_nx h
        refine x_iast cx hw 1 rfl i10 dX5_init_126 (fun H locs hw => ?_)
        obtain ⟨d11, ed11, h⟩ := lt_ex h
        have hw : Wd g (va_A ([(a, .inr (5, [.null, .null, .null, .null, .int 0, .null, .null, .int 0, .null, .null, .null, .int 0, .int 0, .int 0, .int 0, .int 0, .int 0, .int 0, .int 0]))]) s.heap.size) ((MC g q d11)) s H locs := by rw [ed11]; exact hw
        obtain ⟨x12, ex12⟩ : ∃ y : Int32, y = (a1 + 1) := ⟨_, rfl⟩
        replace h := lt_nx ex12 h
        refine lv_iinc (v := x12) (lv' := [(1, .int x12), (0, .ref (q 0))]) hx hb dX5_init_127 hl (k := 1) rfl (by rw [ex12]; rfl) (by decide) rfl (fun ls hl => ?_)
        refine lv_goto (tgt := 102) hx hb dX5_init_130 (by decide) ?_
        exact ih102 x12 d11 _ _ _ hw (lv_sub hl [1, 0] rfl) h
  unfold f_X5_init at h
  refine lv_iconst (v := 0) hx hb dX5_init_100 (by decide) ?_
  refine lv_istore_n (lv' := [(1, .int (0 : Int32)), (0, .ref (q 0))]) hx hb dX5_init_101 rfl hl (by decide) rfl (fun ls hl => ?_)
  exact L102 N (0 : Int32) mZ _ _ _ hw (lv_sub hl [1, 0] rfl) h
