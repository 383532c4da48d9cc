section CLINKS
variable {R : Room} {s : State} {args : Array Value}
theorem cl_X3_48 (ht : ∀ w ∈ TB, w.before args s = true) (hR : rm_J7_fill_53178.frames + 1 ≤ R.frames ∧ 8 + (4 + 11) + rm_J7_fill_53178.locals ≤ R.locals) : CallB R s args RX3 48 yJ7_fill_53178 cJ7_fill_53178 4 none (Cond.code yJ7_fill_53178 cJ7_fill_53178 4 none :: TB) rm_J7_fill_53178 0 0 2 ∧ (Cond.static yJ7_fill_53178).before args s = true := cw_S 2 ht tw_1_29 tw_1_30 tw_1_3 tw_1_31 rfl rfl (by decide +kernel) hR
end CLINKS
abbrev rm_X0_init : Room := { frames := 1, cells := 1, slots := 40, locals := 40 }
def sZ : SD := (fun _ => 0, 0, 0)
set_option maxHeartbeats 4000000 in
set_option maxRecDepth 100000 in
theorem c_X0_init (l : Launch) (g : gE) (a : Nat) : MX (fun _ => True) l yX0_init (Cond.code yX0_init cX0_init 1 none :: TB) rm_X0_init a g [(a, .inr (0, [.null, .int 0, .int 0]))] (fun q => SC g q sZ) 1 40 := by
  refine MX.of (cc := cX0_init) (maxL := 1) (by decide) ?_
  intro p e s m below meth c cx hw hr hlocks hin hE
  have hx := cx.1.1
  have hb := cx.1.2.1
  refine en_go (lv := [(0, .ref a)]) (Nat.le_of_ble_eq_true rfl) rfl (fun ls hl => ?_)
  refine lv_aload_n hx hb dX0_init_0 rfl (lv_at hl 0 rfl) ?_
  refine x_oinit cx tw_1_160 hl.1 dX0_init_1 (Nat.le_of_ble_eq_true rfl) (Nat.le_of_ble_eq_true rfl) ?_
  refine W.eq (g2 := F0 m 4 ls []) rfl ?_
  refine lv_aload_n hx hb dX0_init_4 rfl (lv_at hl 0 rfl) ?_
  refine lv_bipush (v := 40) hx hb dX0_init_5 (by decide) ?_
  refine x_newJ (k := 40) cx hw (by decide) (by decide) (Nat.le_of_ble_eq_true rfl) (Nat.le_of_ble_eq_true rfl) (Nat.le_of_ble_eq_true rfl) dX0_init_7 (fun b1 H hw => ?_)
  have hw : Wd g (va_A ([(a, .inr (0, [.null, .int 0, .int 0]))]) s.heap.size) ([(a, .inr (0, [.null, .int 0, .int 0]))] ++ ([(b1, .inl (gJ g, 40, .inr (.inl (fun _ => 0))))])) s H _ := hw
  refine x_putF (T := TX0) (k := 0) cx hw inT_X0 rfl (by decide) tw_1_161 rfl tyX0 tyX0_ok nmX0 rfl hin rfl 0 rfl rfl rfl (Nat.le_of_ble_eq_true rfl) dX0_init_9 (fun H locs hw => ?_)
  have hw : Wd g (va_A ([(a, .inr (0, [.null, .int 0, .int 0]))]) s.heap.size) ([(a, .inr (0, [.ref b1, .int 0, .int 0]))] ++ ([(b1, .inl (gJ g, 40, .inr (.inl (fun _ => 0))))])) s H _ := hw
  refine W.widen (k := 1) (n := 40) (Nat.le_of_ble_eq_true rfl) (Nat.le_of_ble_eq_true rfl) ?_
  exact r_x cx hr hlocks hw (qL [a, b1]) rfl rfl dX0_init_12
abbrev rm_X1_init : Room := { frames := 1, cells := 1, slots := 120, locals := 40 }
def tZ : TD := (fun _ => 0, 0)
set_option maxHeartbeats 4000000 in
set_option maxRecDepth 100000 in
theorem c_X1_init (l : Launch) (g : gE) (a : Nat) : MX (fun _ => True) l yX1_init (Cond.code yX1_init cX1_init 1 none :: TB) rm_X1_init a g [(a, .inr (1, [.null, .int 0]))] (fun q => TC g q tZ) 1 120 := by
  refine MX.of (cc := cX1_init) (maxL := 1) (by decide) ?_
  intro p e s m below meth c cx hw hr hlocks hin hE
  have hx := cx.1.1
  have hb := cx.1.2.1
  refine en_go (lv := [(0, .ref a)]) (Nat.le_of_ble_eq_true rfl) rfl (fun ls hl => ?_)
  refine lv_aload_n hx hb dX1_init_0 rfl (lv_at hl 0 rfl) ?_
  refine x_oinit cx tw_1_123 hl.1 dX1_init_1 (Nat.le_of_ble_eq_true rfl) (Nat.le_of_ble_eq_true rfl) ?_
  refine W.eq (g2 := F0 m 4 ls []) rfl ?_
  refine lv_aload_n hx hb dX1_init_4 rfl (lv_at hl 0 rfl) ?_
  refine lv_bipush (v := 120) hx hb dX1_init_5 (by decide) ?_
  refine x_newB (k := 120) cx hw (by decide) (by decide) (Nat.le_of_ble_eq_true rfl) (Nat.le_of_ble_eq_true rfl) (Nat.le_of_ble_eq_true rfl) dX1_init_7 (fun b1 H hw => ?_)
  have hw : Wd g (va_A ([(a, .inr (1, [.null, .int 0]))]) s.heap.size) ([(a, .inr (1, [.null, .int 0]))] ++ ([(b1, .inl (gB g, 120, .inl (fun _ => 0)))])) s H _ := hw
  refine x_putF (T := TX1) (k := 0) cx hw inT_X1 rfl (by decide) tw_1_124 rfl tyX1 tyX1_ok nmX1 rfl hin rfl 0 rfl rfl rfl (Nat.le_of_ble_eq_true rfl) dX1_init_9 (fun H locs hw => ?_)
  have hw : Wd g (va_A ([(a, .inr (1, [.null, .int 0]))]) s.heap.size) ([(a, .inr (1, [.ref b1, .int 0]))] ++ ([(b1, .inl (gB g, 120, .inl (fun _ => 0)))])) s H _ := hw
  refine W.widen (k := 1) (n := 120) (Nat.le_of_ble_eq_true rfl) (Nat.le_of_ble_eq_true rfl) ?_
  exact r_x cx hr hlocks hw (qL [a, b1]) rfl rfl dX1_init_12
abbrev rm_X2_init : Room := { frames := 2, cells := 2, slots := 122, locals := 60 }
def rZ : RD := (tZ, 0, 0, 0, 0, 0)
set_option maxHeartbeats 4000000 in
set_option maxRecDepth 100000 in
theorem c_X2_init (l : Launch) (g : gE) (a : Nat) : MX (fun _ => True) l yX2_init (Cond.code yX2_init cX2_init 1 none :: TB) rm_X2_init a g [(a, .inr (2, [.null, .int 0, .int 0, .int 0, .int 0, .int 0]))] (fun q => RC g q rZ) 2 122 := by
  refine MX.of (cc := cX2_init) (maxL := 1) (by decide) ?_
  intro p e s m below meth c cx hw hr hlocks hin hE
  have hx := cx.1.1
  have hb := cx.1.2.1
  refine en_go (lv := [(0, .ref a)]) (Nat.le_of_ble_eq_true rfl) rfl (fun ls hl => ?_)
  refine lv_aload_n hx hb dX2_init_0 rfl (lv_at hl 0 rfl) ?_
  refine x_oinit cx tw_1_117 hl.1 dX2_init_1 (Nat.le_of_ble_eq_true rfl) (Nat.le_of_ble_eq_true rfl) ?_
  refine W.eq (g2 := F0 m 4 ls []) rfl ?_
  refine lv_aload_n hx hb dX2_init_4 rfl (lv_at hl 0 rfl) ?_
  refine x_new (ci := 1) (fs := [.null, .int 0]) (C := RX1) (T := TX1) (N := 2) cx hw inT_X1 rfl tyX1 tyX1_ok tw_1_118 tw_1_119 tw_1_5 (fun j hj => by rcases (show j = 0 ∨ j = 1 by omega) with rfl | rfl <;> rfl) (Nat.le_of_ble_eq_true rfl) (Nat.le_of_ble_eq_true rfl) dX2_init_5 (fun b1 H hw => ?_)
  have hw : Wd g (va_A ([(a, .inr (2, [.null, .int 0, .int 0, .int 0, .int 0, .int 0]))]) s.heap.size) ([(a, .inr (2, [.null, .int 0, .int 0, .int 0, .int 0, .int 0]))] ++ ([(b1, .inr (1, [.null, .int 0]))])) s H _ := hw
  refine lv_dup hx hb dX2_init_8 rfl ?_
  have hw : Wd g (va_A ([(a, .inr (2, [.null, .int 0, .int 0, .int 0, .int 0, .int 0]))]) s.heap.size) (([(a, .inr (2, [.null, .int 0, .int 0, .int 0, .int 0, .int 0]))]) ++ [(b1, .inr (1, [.null, .int 0]))]) s H _ := hw
  refine c_XN (rest := [.ref b1, .ref a]) cx hw (c_X1_init l g b1) (fun _ _ _ z => z) (fun _ _ => trivial) ⟨cw_N 0 cx.1.2.2.2.2 (nw_3 cx.2.2.1) tw_1_5 tw_1_122 rfl rfl (by decide +kernel) ⟨(Nat.le_of_ble_eq_true rfl), (Nat.le_of_ble_eq_true rfl)⟩, rfl, cx.1.2.2.2.2 _ tw_1_121⟩ hl.1 rfl (Nat.le_of_ble_eq_true rfl) dX2_init_9 ⟨(Nat.le_of_ble_eq_true rfl), (Nat.le_of_ble_eq_true rfl)⟩ (fun q2 H locs e3 hw => ?_)
  have hw : Wd g (va_A ([(a, .inr (2, [.null, .int 0, .int 0, .int 0, .int 0, .int 0]))]) s.heap.size) ([(a, .inr (2, [.null, .int 0, .int 0, .int 0, .int 0, .int 0]))] ++ (TC g q2 tZ)) s H _ := hw
  refine x_putF (T := TX2) (k := 0) cx hw inT_X2 rfl (by decide) tw_1_134 rfl tyX2 tyX2_ok nmX2 rfl hin rfl 0 rfl rfl rfl (Nat.le_of_ble_eq_true rfl) dX2_init_12 (fun H locs hw => ?_)
  have hw : Wd g (va_A ([(a, .inr (2, [.null, .int 0, .int 0, .int 0, .int 0, .int 0]))]) s.heap.size) ([(a, .inr (2, [.ref b1, .int 0, .int 0, .int 0, .int 0, .int 0]))] ++ (TC g q2 tZ)) s H _ := hw
  refine W.widen (k := 2) (n := 122) (Nat.le_of_ble_eq_true rfl) (Nat.le_of_ble_eq_true rfl) ?_
  subst e3
  exact r_x cx hr hlocks hw (qL [a, q2 0, q2 1]) rfl rfl dX2_init_15
