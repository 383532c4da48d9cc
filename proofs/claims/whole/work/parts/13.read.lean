def f_X2_isLetter (N : Nat)  (p0 : Int32)  : Option (Int32) :=
  if p0 < (97 : Int32) then
    some (0 : Int32)
  else
    if (122 : Int32) < p0 then
      some (0 : Int32)
    else
      some (1 : Int32)
def f_X2_isDigit (N : Nat)  (p0 : Int32)  : Option (Int32) :=
  if p0 < (48 : Int32) then
    some (0 : Int32)
  else
    if (57 : Int32) < p0 then
      some (0 : Int32)
    else
      some (1 : Int32)
def f_X2_nextToken_J262 (N : Nat)   (t1 : Int32) (d_ : RD) : Option (RD) :=
  lt (r_set_token d_ t1) fun d40 =>
  lt (r_set_end d40 ((r_end d40) + (1 : Int32))) fun d41 =>
  some d41
def f_X2_nextToken_J234 (N : Nat)  (K166 : RD → Option (RD)) (t1 : Int32) (d_ : RD) : Option (RD) :=
  lt (r_set_number d_ t1) fun d38 =>
  lt (r_set_end d38 ((r_end d38) + (1 : Int32))) fun d39 =>
  K166 d39
def f_X2_nextToken_L166 (N : Nat)   : Nat → RD → Option (RD)
  | 0, _ => none
  | n166 + 1, d_ =>
  if (t_length (r_tape d_)) ≤ (r_end d_) then
    some d_
  else
    (f_X1_byteAt N (r_end d_) (r_tape d_)).bind fun x30 =>
    (f_X2_isDigit N x30).bind fun x32 =>
    if x32 = 0 then
      some d_
    else
      if (r_number d_) ≤ (99999999 : Int32) then
        (f_X1_byteAt N (r_end d_) (r_tape d_)).bind fun x36 =>
        f_X2_nextToken_J234 N  (f_X2_nextToken_L166 N   n166) ((((10 : Int32) * (r_number d_)) + x36) - (48 : Int32)) d_
      else
        f_X2_nextToken_J234 N  (f_X2_nextToken_L166 N   n166) (1000000000 : Int32) d_
def f_X2_nextToken_L110 (N : Nat)   : Nat → RD → Option (RD)
  | 0, _ => none
  | n110 + 1, d_ =>
  if (t_length (r_tape d_)) ≤ (r_end d_) then
    some d_
  else
    (f_X1_byteAt N (r_end d_) (r_tape d_)).bind fun x23 =>
    (f_X2_isLetter N x23).bind fun x25 =>
    if x25 = 0 then
      some d_
    else
      lt (r_set_end d_ ((r_end d_) + (1 : Int32))) fun d28 =>
      f_X2_nextToken_L110 N   n110 d28
def f_X2_nextToken_J51 (N : Nat)   (d_ : RD) : Option (RD) :=
  lt (r_set_end d_ (r_start d_)) fun d7 =>
  lt (r_set_number d7 (0 : Int32)) fun d8 =>
  (f_X1_byteAt N (r_start d8) (r_tape d8)).bind fun x9 =>
  if (r_start d8) < (t_length (r_tape d8)) then
    (f_X2_isLetter N x9).bind fun x12 =>
    if x12 = 0 then
      (f_X2_isDigit N x9).bind fun x15 =>
      if x15 = 0 then
        if x9 = (59 : Int32) then
          f_X2_nextToken_J262 N   (3 : Int32) d8
        else
          f_X2_nextToken_J262 N   (4 : Int32) d8
      else
        lt (r_set_token d8 (2 : Int32)) fun d19 =>
        f_X2_nextToken_L166 N   N d19
    else
      lt (r_set_token d8 (1 : Int32)) fun d20 =>
      f_X2_nextToken_L110 N   N d20
  else
    lt (r_set_token d8 (0 : Int32)) fun d21 =>
    some d21
def f_X2_nextToken_L8 (N : Nat)   : Nat → RD → Option (RD)
  | 0, _ => none
  | n8 + 1, d_ =>
  if (t_length (r_tape d_)) ≤ (r_start d_) then
    f_X2_nextToken_J51 N   d_
  else
    (f_X1_byteAt N (r_start d_) (r_tape d_)).bind fun x3 =>
    if x3 = (32 : Int32) then
      lt (r_set_start d_ ((r_start d_) + (1 : Int32))) fun d6 =>
      f_X2_nextToken_L8 N   n8 d6
    else
      f_X2_nextToken_J51 N   d_
def f_X2_nextToken (N : Nat)   (d : RD) : Option (RD) :=
  lt (r_set_start d (r_end d)) fun d1 =>
  f_X2_nextToken_L8 N   N d1
def f_X2_takeNumber (N : Nat)  (p1 : Int32) (p2 : Int32) (d : RD) : Option (Int32 × RD) :=
  if (r_token d) = (2 : Int32) then
    (f_X4_isWithin N (r_number d) p1 p2).bind fun x3 =>
    if x3 = 0 then
      lt (r_set_isFaulty d (1 : Int32)) fun d9 =>
      some ((-1 : Int32), d9)
    else
      lt (r_number d) fun x6 =>
      (f_X2_nextToken N d).bind fun d7 =>
      some (x6, d7)
  else
    lt (r_set_isFaulty d (1 : Int32)) fun d2 =>
    some ((-1 : Int32), d2)
def f_X2_lookHere_L9 (N : Nat) (d : RD)  : Nat → Int32 → Int32 → Option (Int32)
  | 0, _, _ => none
  | n9 + 1, a1, a2 =>
  if a2 < (r_start d) then
    some a1
  else
    lt (((r_end d) - (1 : Int32)) - a2) fun x3 =>
    (f_X1_byteAt N a2 (r_tape d)).bind fun x4 =>
    lt (x4 - (48 : Int32)) fun x6 =>
    (f_X4_isWithin N x6 (0 : Int32) (3 : Int32)).bind fun x7 =>
    if x7 = 0 then
      some (-1 : Int32)
    else
      if (9 : Int32) ≤ x3 then
        lt (a2 + (-1)) fun x11 =>
        f_X2_lookHere_L9 N d  n9 a1 x11
      else
        (f_X4_withWay N a1 x3 x6).bind fun x12 =>
        lt (a2 + (-1)) fun x14 =>
        f_X2_lookHere_L9 N d  n9 x12 x14
def f_X2_lookHere (N : Nat)   (d : RD) : Option (Int32) :=
  lt ((r_end d) - (1 : Int32)) fun x1 =>
  f_X2_lookHere_L9 N d  N (0 : Int32) x1
theorem ct_R__1_2__T (g : gE) (q : Nat → Nat) (d : RD)  : Ct ((RC g q d)) ((TC g (qs 1 q) (r_tape d))) ((RC g q d)) ((TC g (qs 1 q) (r_tape d))) := ⟨[1, 2], [0], rfl, rfl, rfl, by decide, fun k hk => ct_cov (n := 3) (by decide) k hk, by decide⟩
set_option maxHeartbeats 4000000 in
set_option maxRecDepth 100000 in
theorem c_X2_isLetter (l : Launch) (g : gE)  (N : Nat) (p0 : Int32)  (r : Int32) (h : f_X2_isLetter N  p0 = some r) : MO l yX2_isLetter (Cond.code yX2_isLetter cX2_isLetter 1 (some .boolean) :: TB) rm_X2_isLetter [.int p0] g (([] : va_W)) (([] : va_W)) (some (.int r)) 0 0 := by
  refine MO.of (cc := cX2_isLetter) (maxL := 1) (ret := (some .boolean)) (by decide) ?_
  intro p e s m below meth c cx hw hr hlocks _
  have hx := cx.1.1
  have hb := cx.1.2.1
  refine en_go (lv := [(0, .int p0)]) (Nat.le_of_ble_eq_true rfl) rfl (fun ls hl => ?_)
  unfold f_X2_isLetter at h
  refine lv_iload_n hx hb dX2_isLetter_0 rfl (lv_at hl 0 rfl) ?_
  refine lv_bipush (v := 97) hx hb dX2_isLetter_1 (by decide) ?_
  refine lv_icmp_lt (tgt := 16) hx hb dX2_isLetter_3 (by decide) (fun c1 => ?_) (fun c1 => ?_)
  · replace h := ite_t c1 h
    refine lv_iconst (v := 0) hx hb dX2_isLetter_16 (by decide) ?_
    exact r_z cx hr hlocks rfl hw (sm_eq h) rfl dX2_isLetter_17
  · replace h := ite_f c1 h
    refine lv_iload_n hx hb dX2_isLetter_6 rfl (lv_at hl 0 rfl) ?_
    refine lv_bipush (v := 122) hx hb dX2_isLetter_7 (by decide) ?_
    refine lv_icmp_gt (tgt := 16) hx hb dX2_isLetter_9 (by decide) (fun c2 => ?_) (fun c2 => ?_)
    · replace h := ite_t c2 h
      refine lv_iconst (v := 0) hx hb dX2_isLetter_16 (by decide) ?_
      exact r_z cx hr hlocks rfl hw (sm_eq h) rfl dX2_isLetter_17
    · replace h := ite_f c2 h
      refine lv_iconst (v := 1) hx hb dX2_isLetter_12 (by decide) ?_
      refine lv_goto (tgt := 17) hx hb dX2_isLetter_13 (by decide) ?_
      exact r_z cx hr hlocks rfl hw (sm_eq h) rfl dX2_isLetter_17
set_option maxHeartbeats 4000000 in
set_option maxRecDepth 100000 in
theorem c_X2_isDigit (l : Launch) (g : gE)  (N : Nat) (p0 : Int32)  (r : Int32) (h : f_X2_isDigit N  p0 = some r) : MO l yX2_isDigit (Cond.code yX2_isDigit cX2_isDigit 1 (some .boolean) :: TB) rm_X2_isDigit [.int p0] g (([] : va_W)) (([] : va_W)) (some (.int r)) 0 0 := by
  refine MO.of (cc := cX2_isDigit) (maxL := 1) (ret := (some .boolean)) (by decide) ?_
  intro p e s m below meth c cx hw hr hlocks _
  have hx := cx.1.1
  have hb := cx.1.2.1
  refine en_go (lv := [(0, .int p0)]) (Nat.le_of_ble_eq_true rfl) rfl (fun ls hl => ?_)
  unfold f_X2_isDigit at h
  refine lv_iload_n hx hb dX2_isDigit_0 rfl (lv_at hl 0 rfl) ?_
  refine lv_bipush (v := 48) hx hb dX2_isDigit_1 (by decide) ?_
  refine lv_icmp_lt (tgt := 16) hx hb dX2_isDigit_3 (by decide) (fun c1 => ?_) (fun c1 => ?_)
  · replace h := ite_t c1 h
    refine lv_iconst (v := 0) hx hb dX2_isDigit_16 (by decide) ?_
    exact r_z cx hr hlocks rfl hw (sm_eq h) rfl dX2_isDigit_17
  · replace h := ite_f c1 h
    refine lv_iload_n hx hb dX2_isDigit_6 rfl (lv_at hl 0 rfl) ?_
    refine lv_bipush (v := 57) hx hb dX2_isDigit_7 (by decide) ?_
    refine lv_icmp_gt (tgt := 16) hx hb dX2_isDigit_9 (by decide) (fun c2 => ?_) (fun c2 => ?_)
    · replace h := ite_t c2 h
      refine lv_iconst (v := 0) hx hb dX2_isDigit_16 (by decide) ?_
      exact r_z cx hr hlocks rfl hw (sm_eq h) rfl dX2_isDigit_17
    · replace h := ite_f c2 h
      refine lv_iconst (v := 1) hx hb dX2_isDigit_12 (by decide) ?_
      refine lv_goto (tgt := 17) hx hb dX2_isDigit_13 (by decide) ?_
      exact r_z cx hr hlocks rfl hw (sm_eq h) rfl dX2_isDigit_17
set_option maxHeartbeats 4000000 in
set_option maxRecDepth 100000 in
theorem c_X2_nextToken (l : Launch) (g : gE) (q : Nat → Nat) (N : Nat)  (d : RD) (d' : RD) (h : f_X2_nextToken N  d = some d') : MO l yX2_nextToken (Cond.code yX2_nextToken cX2_nextToken 2 none :: TB) rm_X2_nextToken [.ref (q 0)] g ((RC g q d)) ((RC g q d')) none 0 0 := by
  refine MO.of (cc := cX2_nextToken) (maxL := 2) (ret := none) (by decide) ?_
  intro p e s m below meth c cx hw hr hlocks _
  have hx := cx.1.1
  have hb := cx.1.2.1
  refine en_go (lv := [(0, .ref (q 0))]) (Nat.le_of_ble_eq_true rfl) rfl (fun ls hl => ?_)
  have J262 : ∀ (t1 : Int32) (d_ : RD) (H : Heap) (locs : List Loc) (ls : Array Slot), Wd g (va_A ((RC g q d)) s.heap.size) ((RC g q d_)) s H locs → lv_has ls 2 [(0, .ref (q 0))] → f_X2_nextToken_J262 N   t1 d_ = some d' → W p l e rm_X2_nextToken s m ([.ref (q 0)] : List Value).toArray below meth c H locs 0 0 (MQ below (QO none g ((RC g q d')) (va_A ((RC g q d)) s.heap.size)) ([.ref (q 0)] : List Value).toArray s 0 0 (va_A ((RC g q d)) s.heap.size)) (F0 m 262 ls [.int t1, .ref (q 0)]) := by
    intro t1 d_ H locs ls hw hl h
    unfold f_X2_nextToken_J262 at h
    refine pf_X2_33 cx hw 0 rfl rfl rfl (Nat.le_of_ble_eq_true rfl) dX2_nextToken_262 (fun H locs hw => ?_)
    obtain ⟨d42, ed42, h⟩ := lt_ex h
    have hw : Wd g (va_A ((RC g q d)) s.heap.size) ((RC g q d42)) s H locs := by rw [ed42]; exact hw
    refine lv_aload_n hx hb dX2_nextToken_265 rfl (lv_at hl 0 rfl) ?_
    refine lv_dup hx hb dX2_nextToken_266 rfl ?_
    refine gf_X2_18 cx hw 0 rfl rfl dX2_nextToken_267 ?_
    refine lv_iconst (v := 1) hx hb dX2_nextToken_270 (by decide) ?_
    refine lv_iadd hx hb dX2_nextToken_271 ?_
    refine pf_X2_18 cx hw 0 rfl rfl rfl (Nat.le_of_ble_eq_true rfl) dX2_nextToken_272 (fun H locs hw => ?_)
    obtain ⟨d43, ed43, h⟩ := lt_ex h
    have hw : Wd g (va_A ((RC g q d)) s.heap.size) ((RC g q d43)) s H locs := by rw [ed43]; exact hw
    exact r_v cx hr hlocks hw (congrArg (fun z0 => (RC g q z0)) (sm_eq h)) dX2_nextToken_275
  have L166 : ∀ (n166 : Nat) (d_ : RD) (H : Heap) (locs : List Loc) (ls : Array Slot), Wd g (va_A ((RC g q d)) s.heap.size) ((RC g q d_)) s H locs → lv_has ls 2 [(0, .ref (q 0))] → f_X2_nextToken_L166 N   n166 d_ = some d' → W p l e rm_X2_nextToken s m ([.ref (q 0)] : List Value).toArray below meth c H locs 0 0 (MQ below (QO none g ((RC g q d')) (va_A ((RC g q d)) s.heap.size)) ([.ref (q 0)] : List Value).toArray s 0 0 (va_A ((RC g q d)) s.heap.size)) (F0 m 166 ls []) := by
    intro n166
    induction n166 with
    | zero => intro d_ H locs ls hw hl h; exact (Option.some_ne_none _ h.symm).elim
    | succ n166 ih166 =>
      have J234 : ∀ (t1 : Int32) (d_ : RD) (H : Heap) (locs : List Loc) (ls : Array Slot), Wd g (va_A ((RC g q d)) s.heap.size) ((RC g q d_)) s H locs → lv_has ls 2 [(0, .ref (q 0))] → f_X2_nextToken_J234 N  (f_X2_nextToken_L166 N   n166) t1 d_ = some d' → W p l e rm_X2_nextToken s m ([.ref (q 0)] : List Value).toArray below meth c H locs 0 0 (MQ below (QO none g ((RC g q d')) (va_A ((RC g q d)) s.heap.size)) ([.ref (q 0)] : List Value).toArray s 0 0 (va_A ((RC g q d)) s.heap.size)) (F0 m 234 ls [.int t1, .ref (q 0)]) := by
        intro t1 d_ H locs ls hw hl h
        unfold f_X2_nextToken_J234 at h
        refine pf_X2_115 cx hw 0 rfl rfl rfl (Nat.le_of_ble_eq_true rfl) dX2_nextToken_234 (fun H locs hw => ?_)
        obtain ⟨d44, ed44, h⟩ := lt_ex h
        have hw : Wd g (va_A ((RC g q d)) s.heap.size) ((RC g q d44)) s H locs := by rw [ed44]; exact hw
        refine lv_aload_n hx hb dX2_nextToken_237 rfl (lv_at hl 0 rfl) ?_
        refine lv_dup hx hb dX2_nextToken_238 rfl ?_
        refine gf_X2_18 cx hw 0 rfl rfl dX2_nextToken_239 ?_
        refine lv_iconst (v := 1) hx hb dX2_nextToken_242 (by decide) ?_
        refine lv_iadd hx hb dX2_nextToken_243 ?_
        refine pf_X2_18 cx hw 0 rfl rfl rfl (Nat.le_of_ble_eq_true rfl) dX2_nextToken_244 (fun H locs hw => ?_)
        obtain ⟨d45, ed45, h⟩ := lt_ex h
        have hw : Wd g (va_A ((RC g q d)) s.heap.size) ((RC g q d45)) s H locs := by rw [ed45]; exact hw
        refine lv_goto (tgt := 166) hx hb dX2_nextToken_247 (by decide) ?_
        exact ih166 d45 _ _ _ hw (lv_sub hl [0] rfl) h
      intro d_ H locs ls hw hl h
      rw [f_X2_nextToken_L166] at h
      refine lv_aload_n hx hb dX2_nextToken_166 rfl (lv_at hl 0 rfl) ?_
      refine gf_X2_18 cx hw 0 rfl rfl dX2_nextToken_167 ?_
      refine lv_aload_n hx hb dX2_nextToken_170 rfl (lv_at hl 0 rfl) ?_
      refine gf_X2_12 cx hw 0 rfl rfl dX2_nextToken_171 ?_
      refine gf_X2_155 cx hw 1 rfl rfl dX2_nextToken_174 ?_
      refine lv_icmp_ge (tgt := 275) hx hb dX2_nextToken_177 (by decide) (fun c46 => ?_) (fun c46 => ?_)
      · replace h := ite_t c46 h
        exact r_v cx hr hlocks hw (congrArg (fun z0 => (RC g q z0)) (sm_eq h)) dX2_nextToken_275
      · replace h := ite_f c46 h
        refine lv_aload_n hx hb dX2_nextToken_180 rfl (lv_at hl 0 rfl) ?_
        refine gf_X2_12 cx hw 0 rfl rfl dX2_nextToken_181 ?_
        refine lv_aload_n hx hb dX2_nextToken_184 rfl (lv_at hl 0 rfl) ?_
        refine gf_X2_18 cx hw 0 rfl rfl dX2_nextToken_185 ?_
        obtain ⟨x47, g48, h⟩ := bd_ex h
        refine c_V (As := [.int (r_end d_)]) (rest := []) (w' := (RC g q d_)) cx hw (c_X1_byteAt l g (qs 1 q) N (r_end d_) (r_tape d_) x47 g48) (cl_X2_122 cx.1.2.2.2.2 ⟨Nat.le_of_ble_eq_true rfl, Nat.le_of_ble_eq_true rfl⟩) (x_recv cx hw (ci := 1) rfl 1 rfl) (ct_R__1_2__T g q d_ ) hl.1 rfl rfl (Nat.le_of_ble_eq_true rfl) dX2_nextToken_188 ⟨Nat.le_of_ble_eq_true rfl, Nat.le_of_ble_eq_true rfl⟩ (st1 := [.int x47]) rfl (fun H locs hw => ?_)
        obtain ⟨x49, g50, h⟩ := bd_ex h
        refine c_S (As := [.int x47]) (rest := []) (w' := (RC g q d_)) cx hw (c_X2_isDigit l g  N x47  x49 g50) (cl_X2_161 cx.1.2.2.2.2 ⟨Nat.le_of_ble_eq_true rfl, Nat.le_of_ble_eq_true rfl⟩) Ct.nil hl.1 rfl rfl (Nat.le_of_ble_eq_true rfl) dX2_nextToken_191 ⟨Nat.le_of_ble_eq_true rfl, Nat.le_of_ble_eq_true rfl⟩ (st1 := [.int x49]) rfl (fun H locs hw => ?_)
        refine lv_if_eq (tgt := 275) hx hb dX2_nextToken_194 (by decide) (fun c51 => ?_) (fun c51 => ?_)
        · replace h := ite_t c51 h
          exact r_v cx hr hlocks hw (congrArg (fun z0 => (RC g q z0)) (sm_eq h)) dX2_nextToken_275
        · replace h := ite_f c51 h
          refine lv_aload_n hx hb dX2_nextToken_197 rfl (lv_at hl 0 rfl) ?_
          refine lv_aload_n hx hb dX2_nextToken_198 rfl (lv_at hl 0 rfl) ?_
          refine gf_X2_115 cx hw 0 rfl rfl dX2_nextToken_199 ?_
          refine lv_ldc hx hb cx.1.2.2.2.1 (cx.1.2.2.2.2 _ tw_3_46) dX2_nextToken_202 ?_
          refine lv_icmp_le (tgt := 212) hx hb dX2_nextToken_204 (by decide) (fun c52 => ?_) (fun c52 => ?_)
          · replace h := ite_t c52 h
            refine lv_bipush (v := 10) hx hb dX2_nextToken_212 (by decide) ?_
            refine lv_aload_n hx hb dX2_nextToken_214 rfl (lv_at hl 0 rfl) ?_
            refine gf_X2_115 cx hw 0 rfl rfl dX2_nextToken_215 ?_
            refine lv_imul hx hb dX2_nextToken_218 ?_
            refine lv_aload_n hx hb dX2_nextToken_219 rfl (lv_at hl 0 rfl) ?_
            refine gf_X2_12 cx hw 0 rfl rfl dX2_nextToken_220 ?_
            refine lv_aload_n hx hb dX2_nextToken_223 rfl (lv_at hl 0 rfl) ?_
            refine gf_X2_18 cx hw 0 rfl rfl dX2_nextToken_224 ?_
            obtain ⟨x53, g54, h⟩ := bd_ex h
            refine c_V (As := [.int (r_end d_)]) (rest := [.int ((10 : Int32) * (r_number d_)), .ref (q 0)]) (w' := (RC g q d_)) cx hw (c_X1_byteAt l g (qs 1 q) N (r_end d_) (r_tape d_) x53 g54) (cl_X2_122 cx.1.2.2.2.2 ⟨Nat.le_of_ble_eq_true rfl, Nat.le_of_ble_eq_true rfl⟩) (x_recv cx hw (ci := 1) rfl 1 rfl) (ct_R__1_2__T g q d_ ) hl.1 rfl rfl (Nat.le_of_ble_eq_true rfl) dX2_nextToken_227 ⟨Nat.le_of_ble_eq_true rfl, Nat.le_of_ble_eq_true rfl⟩ (st1 := [.int x53, .int ((10 : Int32) * (r_number d_)), .ref (q 0)]) rfl (fun H locs hw => ?_)
            refine lv_iadd hx hb dX2_nextToken_230 ?_
            refine lv_bipush (v := 48) hx hb dX2_nextToken_231 (by decide) ?_
            refine lv_isub hx hb dX2_nextToken_233 ?_
            exact J234 ((((10 : Int32) * (r_number d_)) + x53) - (48 : Int32)) d_ _ _ _ hw (lv_sub hl [0] rfl) h
          · replace h := ite_f c52 h
            refine lv_ldc hx hb cx.1.2.2.2.1 (cx.1.2.2.2.2 _ tw_3_47) dX2_nextToken_207 ?_
            refine lv_goto (tgt := 234) hx hb dX2_nextToken_209 (by decide) ?_
            exact J234 (1000000000 : Int32) d_ _ _ _ hw (lv_sub hl [0] rfl) h
  have L110 : ∀ (n110 : Nat) (d_ : RD) (H : Heap) (locs : List Loc) (ls : Array Slot), Wd g (va_A ((RC g q d)) s.heap.size) ((RC g q d_)) s H locs → lv_has ls 2 [(0, .ref (q 0))] → f_X2_nextToken_L110 N   n110 d_ = some d' → W p l e rm_X2_nextToken s m ([.ref (q 0)] : List Value).toArray below meth c H locs 0 0 (MQ below (QO none g ((RC g q d')) (va_A ((RC g q d)) s.heap.size)) ([.ref (q 0)] : List Value).toArray s 0 0 (va_A ((RC g q d)) s.heap.size)) (F0 m 110 ls []) := by
    intro n110
    induction n110 with
    | zero => intro d_ H locs ls hw hl h; exact (Option.some_ne_none _ h.symm).elim
    | succ n110 ih110 =>
      intro d_ H locs ls hw hl h
      rw [f_X2_nextToken_L110] at h
      refine lv_aload_n hx hb dX2_nextToken_110 rfl (lv_at hl 0 rfl) ?_
      refine gf_X2_18 cx hw 0 rfl rfl dX2_nextToken_111 ?_
      refine lv_aload_n hx hb dX2_nextToken_114 rfl (lv_at hl 0 rfl) ?_
      refine gf_X2_12 cx hw 0 rfl rfl dX2_nextToken_115 ?_
      refine gf_X2_155 cx hw 1 rfl rfl dX2_nextToken_118 ?_
      refine lv_icmp_ge (tgt := 275) hx hb dX2_nextToken_121 (by decide) (fun c55 => ?_) (fun c55 => ?_)
      · replace h := ite_t c55 h
        exact r_v cx hr hlocks hw (congrArg (fun z0 => (RC g q z0)) (sm_eq h)) dX2_nextToken_275
      · replace h := ite_f c55 h
        refine lv_aload_n hx hb dX2_nextToken_124 rfl (lv_at hl 0 rfl) ?_
        refine gf_X2_12 cx hw 0 rfl rfl dX2_nextToken_125 ?_
        refine lv_aload_n hx hb dX2_nextToken_128 rfl (lv_at hl 0 rfl) ?_
        refine gf_X2_18 cx hw 0 rfl rfl dX2_nextToken_129 ?_
        obtain ⟨x56, g57, h⟩ := bd_ex h
        refine c_V (As := [.int (r_end d_)]) (rest := []) (w' := (RC g q d_)) cx hw (c_X1_byteAt l g (qs 1 q) N (r_end d_) (r_tape d_) x56 g57) (cl_X2_122 cx.1.2.2.2.2 ⟨Nat.le_of_ble_eq_true rfl, Nat.le_of_ble_eq_true rfl⟩) (x_recv cx hw (ci := 1) rfl 1 rfl) (ct_R__1_2__T g q d_ ) hl.1 rfl rfl (Nat.le_of_ble_eq_true rfl) dX2_nextToken_132 ⟨Nat.le_of_ble_eq_true rfl, Nat.le_of_ble_eq_true rfl⟩ (st1 := [.int x56]) rfl (fun H locs hw => ?_)
        obtain ⟨x58, g59, h⟩ := bd_ex h
        refine c_S (As := [.int x56]) (rest := []) (w' := (RC g q d_)) cx hw (c_X2_isLetter l g  N x56  x58 g59) (cl_X2_157 cx.1.2.2.2.2 ⟨Nat.le_of_ble_eq_true rfl, Nat.le_of_ble_eq_true rfl⟩) Ct.nil hl.1 rfl rfl (Nat.le_of_ble_eq_true rfl) dX2_nextToken_135 ⟨Nat.le_of_ble_eq_true rfl, Nat.le_of_ble_eq_true rfl⟩ (st1 := [.int x58]) rfl (fun H locs hw => ?_)
        refine lv_if_eq (tgt := 275) hx hb dX2_nextToken_138 (by decide) (fun c60 => ?_) (fun c60 => ?_)
        · replace h := ite_t c60 h
          exact r_v cx hr hlocks hw (congrArg (fun z0 => (RC g q z0)) (sm_eq h)) dX2_nextToken_275
        · replace h := ite_f c60 h
          refine lv_aload_n hx hb dX2_nextToken_141 rfl (lv_at hl 0 rfl) ?_
          refine lv_dup hx hb dX2_nextToken_142 rfl ?_
          refine gf_X2_18 cx hw 0 rfl rfl dX2_nextToken_143 ?_
          refine lv_iconst (v := 1) hx hb dX2_nextToken_146 (by decide) ?_
          refine lv_iadd hx hb dX2_nextToken_147 ?_
          refine pf_X2_18 cx hw 0 rfl rfl rfl (Nat.le_of_ble_eq_true rfl) dX2_nextToken_148 (fun H locs hw => ?_)
          obtain ⟨d61, ed61, h⟩ := lt_ex h
          have hw : Wd g (va_A ((RC g q d)) s.heap.size) ((RC g q d61)) s H locs := by rw [ed61]; exact hw
          refine lv_goto (tgt := 110) hx hb dX2_nextToken_151 (by decide) ?_
          exact ih110 d61 _ _ _ hw (lv_sub hl [0] rfl) h
  have J51 : ∀ (d_ : RD) (H : Heap) (locs : List Loc) (ls : Array Slot), Wd g (va_A ((RC g q d)) s.heap.size) ((RC g q d_)) s H locs → lv_has ls 2 [(0, .ref (q 0))] → f_X2_nextToken_J51 N   d_ = some d' → W p l e rm_X2_nextToken s m ([.ref (q 0)] : List Value).toArray below meth c H locs 0 0 (MQ below (QO none g ((RC g q d')) (va_A ((RC g q d)) s.heap.size)) ([.ref (q 0)] : List Value).toArray s 0 0 (va_A ((RC g q d)) s.heap.size)) (F0 m 51 ls []) := by
    intro d_ H locs ls hw hl h
    unfold f_X2_nextToken_J51 at h
    refine lv_aload_n hx hb dX2_nextToken_51 rfl (lv_at hl 0 rfl) ?_
    refine lv_aload_n hx hb dX2_nextToken_52 rfl (lv_at hl 0 rfl) ?_
    refine gf_X2_36 cx hw 0 rfl rfl dX2_nextToken_53 ?_
    refine pf_X2_18 cx hw 0 rfl rfl rfl (Nat.le_of_ble_eq_true rfl) dX2_nextToken_56 (fun H locs hw => ?_)
    obtain ⟨d62, ed62, h⟩ := lt_ex h
    have hw : Wd g (va_A ((RC g q d)) s.heap.size) ((RC g q d62)) s H locs := by rw [ed62]; exact hw
    refine lv_aload_n hx hb dX2_nextToken_59 rfl (lv_at hl 0 rfl) ?_
    refine lv_iconst (v := 0) hx hb dX2_nextToken_60 (by decide) ?_
    refine pf_X2_115 cx hw 0 rfl rfl rfl (Nat.le_of_ble_eq_true rfl) dX2_nextToken_61 (fun H locs hw => ?_)
    obtain ⟨d63, ed63, h⟩ := lt_ex h
    have hw : Wd g (va_A ((RC g q d)) s.heap.size) ((RC g q d63)) s H locs := by rw [ed63]; exact hw
    refine lv_aload_n hx hb dX2_nextToken_64 rfl (lv_at hl 0 rfl) ?_
    refine gf_X2_12 cx hw 0 rfl rfl dX2_nextToken_65 ?_
    refine lv_aload_n hx hb dX2_nextToken_68 rfl (lv_at hl 0 rfl) ?_
    refine gf_X2_36 cx hw 0 rfl rfl dX2_nextToken_69 ?_
    obtain ⟨x64, g65, h⟩ := bd_ex h
    refine c_V (As := [.int (r_start d63)]) (rest := []) (w' := (RC g q d63)) cx hw (c_X1_byteAt l g (qs 1 q) N (r_start d63) (r_tape d63) x64 g65) (cl_X2_122 cx.1.2.2.2.2 ⟨Nat.le_of_ble_eq_true rfl, Nat.le_of_ble_eq_true rfl⟩) (x_recv cx hw (ci := 1) rfl 1 rfl) (ct_R__1_2__T g q d63 ) hl.1 rfl rfl (Nat.le_of_ble_eq_true rfl) dX2_nextToken_72 ⟨Nat.le_of_ble_eq_true rfl, Nat.le_of_ble_eq_true rfl⟩ (st1 := [.int x64]) rfl (fun H locs hw => ?_)
    refine lv_istore_n (lv' := [(1, .int x64), (0, .ref (q 0))]) hx hb dX2_nextToken_75 rfl hl (by decide) rfl (fun ls hl => ?_)
    refine lv_aload_n hx hb dX2_nextToken_76 rfl (lv_at hl 1 rfl) ?_
    refine gf_X2_36 cx hw 0 rfl rfl dX2_nextToken_77 ?_
    refine lv_aload_n hx hb dX2_nextToken_80 rfl (lv_at hl 1 rfl) ?_
    refine gf_X2_12 cx hw 0 rfl rfl dX2_nextToken_81 ?_
    refine gf_X2_155 cx hw 1 rfl rfl dX2_nextToken_84 ?_
    refine lv_icmp_lt (tgt := 98) hx hb dX2_nextToken_87 (by decide) (fun c66 => ?_) (fun c66 => ?_)
    · replace h := ite_t c66 h
      refine lv_iload_n hx hb dX2_nextToken_98 rfl (lv_at hl 0 rfl) ?_
      obtain ⟨x67, g68, h⟩ := bd_ex h
      refine c_S (As := [.int x64]) (rest := []) (w' := (RC g q d63)) cx hw (c_X2_isLetter l g  N x64  x67 g68) (cl_X2_157 cx.1.2.2.2.2 ⟨Nat.le_of_ble_eq_true rfl, Nat.le_of_ble_eq_true rfl⟩) Ct.nil hl.1 rfl rfl (Nat.le_of_ble_eq_true rfl) dX2_nextToken_99 ⟨Nat.le_of_ble_eq_true rfl, Nat.le_of_ble_eq_true rfl⟩ (st1 := [.int x67]) rfl (fun H locs hw => ?_)
      refine lv_if_eq (tgt := 154) hx hb dX2_nextToken_102 (by decide) (fun c69 => ?_) (fun c69 => ?_)
      · replace h := ite_t c69 h
        refine lv_iload_n hx hb dX2_nextToken_154 rfl (lv_at hl 0 rfl) ?_
        obtain ⟨x70, g71, h⟩ := bd_ex h
        refine c_S (As := [.int x64]) (rest := []) (w' := (RC g q d63)) cx hw (c_X2_isDigit l g  N x64  x70 g71) (cl_X2_161 cx.1.2.2.2.2 ⟨Nat.le_of_ble_eq_true rfl, Nat.le_of_ble_eq_true rfl⟩) Ct.nil hl.1 rfl rfl (Nat.le_of_ble_eq_true rfl) dX2_nextToken_155 ⟨Nat.le_of_ble_eq_true rfl, Nat.le_of_ble_eq_true rfl⟩ (st1 := [.int x70]) rfl (fun H locs hw => ?_)
        refine lv_if_eq (tgt := 250) hx hb dX2_nextToken_158 (by decide) (fun c72 => ?_) (fun c72 => ?_)
        · replace h := ite_t c72 h
          refine lv_aload_n hx hb dX2_nextToken_250 rfl (lv_at hl 1 rfl) ?_
          refine lv_iload_n hx hb dX2_nextToken_251 rfl (lv_at hl 0 rfl) ?_
          refine lv_bipush (v := 59) hx hb dX2_nextToken_252 (by decide) ?_
          refine lv_icmp_ne (tgt := 261) hx hb dX2_nextToken_254 (by decide) (fun c73 => ?_) (fun c73 => ?_)
          · replace h := ite_f c73 h
            refine lv_iconst (v := 4) hx hb dX2_nextToken_261 (by decide) ?_
            exact J262 (4 : Int32) d63 _ _ _ hw (lv_sub hl [1] rfl) h
          · replace h := ite_t c73 h
            refine lv_iconst (v := 3) hx hb dX2_nextToken_257 (by decide) ?_
            refine lv_goto (tgt := 262) hx hb dX2_nextToken_258 (by decide) ?_
            exact J262 (3 : Int32) d63 _ _ _ hw (lv_sub hl [1] rfl) h
        · replace h := ite_f c72 h
          refine lv_aload_n hx hb dX2_nextToken_161 rfl (lv_at hl 1 rfl) ?_
          refine lv_iconst (v := 2) hx hb dX2_nextToken_162 (by decide) ?_
          refine pf_X2_33 cx hw 0 rfl rfl rfl (Nat.le_of_ble_eq_true rfl) dX2_nextToken_163 (fun H locs hw => ?_)
          obtain ⟨d74, ed74, h⟩ := lt_ex h
          have hw : Wd g (va_A ((RC g q d)) s.heap.size) ((RC g q d74)) s H locs := by rw [ed74]; exact hw
          exact L166 N d74 _ _ _ hw (lv_sub hl [1] rfl) h
      · replace h := ite_f c69 h
        refine lv_aload_n hx hb dX2_nextToken_105 rfl (lv_at hl 1 rfl) ?_
        refine lv_iconst (v := 1) hx hb dX2_nextToken_106 (by decide) ?_
        refine pf_X2_33 cx hw 0 rfl rfl rfl (Nat.le_of_ble_eq_true rfl) dX2_nextToken_107 (fun H locs hw => ?_)
        obtain ⟨d75, ed75, h⟩ := lt_ex h
        have hw : Wd g (va_A ((RC g q d)) s.heap.size) ((RC g q d75)) s H locs := by rw [ed75]; exact hw
        exact L110 N d75 _ _ _ hw (lv_sub hl [1] rfl) h
    · replace h := ite_f c66 h
      refine lv_aload_n hx hb dX2_nextToken_90 rfl (lv_at hl 1 rfl) ?_
      refine lv_iconst (v := 0) hx hb dX2_nextToken_91 (by decide) ?_
      refine pf_X2_33 cx hw 0 rfl rfl rfl (Nat.le_of_ble_eq_true rfl) dX2_nextToken_92 (fun H locs hw => ?_)
      obtain ⟨d76, ed76, h⟩ := lt_ex h
      have hw : Wd g (va_A ((RC g q d)) s.heap.size) ((RC g q d76)) s H locs := by rw [ed76]; exact hw
      refine lv_goto (tgt := 275) hx hb dX2_nextToken_95 (by decide) ?_
      exact r_v cx hr hlocks hw (congrArg (fun z0 => (RC g q z0)) (sm_eq h)) dX2_nextToken_275
  have L8 : ∀ (n8 : Nat) (d_ : RD) (H : Heap) (locs : List Loc) (ls : Array Slot), Wd g (va_A ((RC g q d)) s.heap.size) ((RC g q d_)) s H locs → lv_has ls 2 [(0, .ref (q 0))] → f_X2_nextToken_L8 N   n8 d_ = some d' → W p l e rm_X2_nextToken s m ([.ref (q 0)] : List Value).toArray below meth c H locs 0 0 (MQ below (QO none g ((RC g q d')) (va_A ((RC g q d)) s.heap.size)) ([.ref (q 0)] : List Value).toArray s 0 0 (va_A ((RC g q d)) s.heap.size)) (F0 m 8 ls []) := by
    intro n8
    induction n8 with
    | zero => intro d_ H locs ls hw hl h; exact (Option.some_ne_none _ h.symm).elim
    | succ n8 ih8 =>
      intro d_ H locs ls hw hl h
      rw [f_X2_nextToken_L8] at h
      refine lv_aload_n hx hb dX2_nextToken_8 rfl (lv_at hl 0 rfl) ?_
      refine gf_X2_36 cx hw 0 rfl rfl dX2_nextToken_9 ?_
      refine lv_aload_n hx hb dX2_nextToken_12 rfl (lv_at hl 0 rfl) ?_
      refine gf_X2_12 cx hw 0 rfl rfl dX2_nextToken_13 ?_
      refine gf_X2_155 cx hw 1 rfl rfl dX2_nextToken_16 ?_
      refine lv_icmp_ge (tgt := 51) hx hb dX2_nextToken_19 (by decide) (fun c77 => ?_) (fun c77 => ?_)
      · replace h := ite_t c77 h
        exact J51 d_ _ _ _ hw (lv_sub hl [0] rfl) h
      · replace h := ite_f c77 h
        refine lv_aload_n hx hb dX2_nextToken_22 rfl (lv_at hl 0 rfl) ?_
        refine gf_X2_12 cx hw 0 rfl rfl dX2_nextToken_23 ?_
        refine lv_aload_n hx hb dX2_nextToken_26 rfl (lv_at hl 0 rfl) ?_
        refine gf_X2_36 cx hw 0 rfl rfl dX2_nextToken_27 ?_
        obtain ⟨x78, g79, h⟩ := bd_ex h
        refine c_V (As := [.int (r_start d_)]) (rest := []) (w' := (RC g q d_)) cx hw (c_X1_byteAt l g (qs 1 q) N (r_start d_) (r_tape d_) x78 g79) (cl_X2_122 cx.1.2.2.2.2 ⟨Nat.le_of_ble_eq_true rfl, Nat.le_of_ble_eq_true rfl⟩) (x_recv cx hw (ci := 1) rfl 1 rfl) (ct_R__1_2__T g q d_ ) hl.1 rfl rfl (Nat.le_of_ble_eq_true rfl) dX2_nextToken_30 ⟨Nat.le_of_ble_eq_true rfl, Nat.le_of_ble_eq_true rfl⟩ (st1 := [.int x78]) rfl (fun H locs hw => ?_)
        refine lv_bipush (v := 32) hx hb dX2_nextToken_33 (by decide) ?_
        refine lv_icmp_ne (tgt := 51) hx hb dX2_nextToken_35 (by decide) (fun c80 => ?_) (fun c80 => ?_)
        · replace h := ite_f c80 h
          exact J51 d_ _ _ _ hw (lv_sub hl [0] rfl) h
        · replace h := ite_t c80 h
          refine lv_aload_n hx hb dX2_nextToken_38 rfl (lv_at hl 0 rfl) ?_
          refine lv_dup hx hb dX2_nextToken_39 rfl ?_
          refine gf_X2_36 cx hw 0 rfl rfl dX2_nextToken_40 ?_
          refine lv_iconst (v := 1) hx hb dX2_nextToken_43 (by decide) ?_
          refine lv_iadd hx hb dX2_nextToken_44 ?_
          refine pf_X2_36 cx hw 0 rfl rfl rfl (Nat.le_of_ble_eq_true rfl) dX2_nextToken_45 (fun H locs hw => ?_)
          obtain ⟨d81, ed81, h⟩ := lt_ex h
          have hw : Wd g (va_A ((RC g q d)) s.heap.size) ((RC g q d81)) s H locs := by rw [ed81]; exact hw
          refine lv_goto (tgt := 8) hx hb dX2_nextToken_48 (by decide) ?_
          exact ih8 d81 _ _ _ hw (lv_sub hl [0] rfl) h
  unfold f_X2_nextToken at h
  refine lv_aload_n hx hb dX2_nextToken_0 rfl (lv_at hl 0 rfl) ?_
  refine lv_aload_n hx hb dX2_nextToken_1 rfl (lv_at hl 0 rfl) ?_
  refine gf_X2_18 cx hw 0 rfl rfl dX2_nextToken_2 ?_
  refine pf_X2_36 cx hw 0 rfl rfl rfl (Nat.le_of_ble_eq_true rfl) dX2_nextToken_5 (fun H locs hw => ?_)
  obtain ⟨d1, ed1, h⟩ := lt_ex h
  have hw : Wd g (va_A ((RC g q d)) s.heap.size) ((RC g q d1)) s H locs := by rw [ed1]; exact hw
  exact L8 N d1 _ _ _ hw (lv_sub hl [0] rfl) h
set_option maxHeartbeats 4000000 in
set_option maxRecDepth 100000 in
theorem c_X2_takeNumber (l : Launch) (g : gE) (q : Nat → Nat) (N : Nat) (p1 : Int32) (p2 : Int32) (d : RD) (r : Int32) (d' : RD) (h : f_X2_takeNumber N  p1 p2 d = some (r, d')) : MO l yX2_takeNumber (Cond.code yX2_takeNumber cX2_takeNumber 4 (some .int) :: TB) rm_X2_takeNumber [.ref (q 0), .int p1, .int p2] g ((RC g q d)) ((RC g q d')) (some (.int r)) 0 0 := by
  refine MO.of (cc := cX2_takeNumber) (maxL := 4) (ret := (some .int)) (by decide) ?_
  intro p e s m below meth c cx hw hr hlocks _
  have hx := cx.1.1
  have hb := cx.1.2.1
  refine en_go (lv := [(0, .ref (q 0)), (1, .int p1), (2, .int p2)]) (Nat.le_of_ble_eq_true rfl) rfl (fun ls hl => ?_)
  unfold f_X2_takeNumber at h
  refine lv_aload_n hx hb dX2_takeNumber_0 rfl (lv_at hl 0 rfl) ?_
  refine gf_X2_33 cx hw 0 rfl rfl dX2_takeNumber_1 ?_
  refine lv_iconst (v := 2) hx hb dX2_takeNumber_4 (by decide) ?_
  refine lv_icmp_ne (tgt := 20) hx hb dX2_takeNumber_5 (by decide) (fun c1 => ?_) (fun c1 => ?_)
  · replace h := ite_f c1 h
    refine lv_aload_n hx hb dX2_takeNumber_20 rfl (lv_at hl 0 rfl) ?_
    refine lv_iconst (v := 1) hx hb dX2_takeNumber_21 (by decide) ?_
    refine pf_X2_22 cx hw 0 rfl rfl rfl (Nat.le_of_ble_eq_true rfl) dX2_takeNumber_22 (fun H locs hw => ?_)
    obtain ⟨d2, ed2, h⟩ := lt_ex h
    have hw : Wd g (va_A ((RC g q d)) s.heap.size) ((RC g q d2)) s H locs := by rw [ed2]; exact hw
    refine lv_iconst (v := -1) hx hb dX2_takeNumber_25 (by decide) ?_
    exact r_i cx hr hlocks hw (pr1 h) (congrArg (fun z0 => (RC g q z0)) (pr2 h)) dX2_takeNumber_26
  · replace h := ite_t c1 h
    refine lv_aload_n hx hb dX2_takeNumber_8 rfl (lv_at hl 0 rfl) ?_
    refine gf_X2_115 cx hw 0 rfl rfl dX2_takeNumber_9 ?_
    refine lv_iload_n hx hb dX2_takeNumber_12 rfl (lv_at hl 1 rfl) ?_
    refine lv_iload_n hx hb dX2_takeNumber_13 rfl (lv_at hl 2 rfl) ?_
    obtain ⟨x3, g4, h⟩ := bd_ex h
    refine c_SN (As := [.int (r_number d), .int p1, .int p2]) (rest := []) (w' := (RC g q d)) cx hw (c_X4_isWithin l g  N (r_number d) p1 p2  x3 g4) (cl_X2_118 cx.1.2.2.2.2 cx.2.2.1 ⟨Nat.le_of_ble_eq_true rfl, Nat.le_of_ble_eq_true rfl⟩) Ct.nil hl.1 rfl rfl (Nat.le_of_ble_eq_true rfl) dX2_takeNumber_14 ⟨Nat.le_of_ble_eq_true rfl, Nat.le_of_ble_eq_true rfl⟩ (st1 := [.int x3]) rfl (fun H locs hw => ?_)
    refine lv_if_ne (tgt := 27) hx hb dX2_takeNumber_17 (by decide) (fun c5 => ?_) (fun c5 => ?_)
    · replace h := ite_f c5 h
      refine lv_aload_n hx hb dX2_takeNumber_27 rfl (lv_at hl 0 rfl) ?_
      refine gf_X2_115 cx hw 0 rfl rfl dX2_takeNumber_28 ?_
      refine lv_topi (fun x6 ex6 => ?_)
      replace h := lt_nx ex6 h
      refine lv_istore_n (lv' := [(3, .int x6), (0, .ref (q 0)), (1, .int p1), (2, .int p2)]) hx hb dX2_takeNumber_31 rfl hl (by decide) rfl (fun ls hl => ?_)
      refine lv_aload_n hx hb dX2_takeNumber_32 rfl (lv_at hl 1 rfl) ?_
      obtain ⟨d7, g8, h⟩ := bd_ex h
      refine c_V (As := []) (rest := []) (w' := (RC g q d7)) cx hw (c_X2_nextToken l g q N  d d7 g8) (cl_X2_26 cx.1.2.2.2.2 ⟨Nat.le_of_ble_eq_true rfl, Nat.le_of_ble_eq_true rfl⟩) (x_recv cx hw (ci := 2) rfl 0 rfl) (Ct.all (RC_ll ..)) hl.1 rfl rfl (Nat.le_of_ble_eq_true rfl) dX2_takeNumber_33 ⟨Nat.le_of_ble_eq_true rfl, Nat.le_of_ble_eq_true rfl⟩ (st1 := []) rfl (fun H locs hw => ?_)
      refine lv_iload_n hx hb dX2_takeNumber_36 rfl (lv_at hl 0 rfl) ?_
      exact r_i cx hr hlocks hw (pr1 h) (congrArg (fun z0 => (RC g q z0)) (pr2 h)) dX2_takeNumber_37
    · replace h := ite_t c5 h
      refine lv_aload_n hx hb dX2_takeNumber_20 rfl (lv_at hl 0 rfl) ?_
      refine lv_iconst (v := 1) hx hb dX2_takeNumber_21 (by decide) ?_
      refine pf_X2_22 cx hw 0 rfl rfl rfl (Nat.le_of_ble_eq_true rfl) dX2_takeNumber_22 (fun H locs hw => ?_)
      obtain ⟨d9, ed9, h⟩ := lt_ex h
      have hw : Wd g (va_A ((RC g q d)) s.heap.size) ((RC g q d9)) s H locs := by rw [ed9]; exact hw
      refine lv_iconst (v := -1) hx hb dX2_takeNumber_25 (by decide) ?_
      exact r_i cx hr hlocks hw (pr1 h) (congrArg (fun z0 => (RC g q z0)) (pr2 h)) dX2_takeNumber_26
set_option maxHeartbeats 4000000 in
set_option maxRecDepth 100000 in
theorem c_X2_lookHere (l : Launch) (g : gE) (q : Nat → Nat) (N : Nat)  (d : RD) (r : Int32) (h : f_X2_lookHere N  d = some r) : MO l yX2_lookHere (Cond.code yX2_lookHere cX2_lookHere 5 (some .int) :: TB) rm_X2_lookHere [.ref (q 0)] g ((RC g q d)) ((RC g q d)) (some (.int r)) 0 0 := by
  refine MO.of (cc := cX2_lookHere) (maxL := 5) (ret := (some .int)) (by decide) ?_
  intro p e s m below meth c cx hw hr hlocks _
  have hx := cx.1.1
  have hb := cx.1.2.1
  refine en_go (lv := [(0, .ref (q 0))]) (Nat.le_of_ble_eq_true rfl) rfl (fun ls hl => ?_)
  have L9 : ∀ (n9 : Nat) (a1 : Int32) (a2 : Int32) (H : Heap) (locs : List Loc) (ls : Array Slot), Wd g (va_A ((RC g q d)) s.heap.size) ((RC g q d)) s H locs → lv_has ls 5 [(0, .ref (q 0)), (1, .int a1), (2, .int a2)] → f_X2_lookHere_L9 N d  n9 a1 a2 = some r → W p l e rm_X2_lookHere s m ([.ref (q 0)] : List Value).toArray below meth c H locs 0 0 (MQ below (QO (some (.int r)) g ((RC g q d)) (va_A ((RC g q d)) s.heap.size)) ([.ref (q 0)] : List Value).toArray s 0 0 (va_A ((RC g q d)) s.heap.size)) (F0 m 9 ls []) := by
    intro n9
    induction n9 with
    | zero => intro a1 a2 H locs ls hw hl h; exact (Option.some_ne_none _ h.symm).elim
    | succ n9 ih9 =>
      intro a1 a2 H locs ls hw hl h
      rw [f_X2_lookHere_L9] at h
      refine lv_iload_n hx hb dX2_lookHere_9 rfl (lv_at hl 2 rfl) ?_
      refine lv_aload_n hx hb dX2_lookHere_10 rfl (lv_at hl 0 rfl) ?_
      refine gf_X2_36 cx hw 0 rfl rfl dX2_lookHere_11 ?_
      refine lv_icmp_lt (tgt := 71) hx hb dX2_lookHere_14 (by decide) (fun c15 => ?_) (fun c15 => ?_)
      · replace h := ite_t c15 h
        refine lv_iload_n hx hb dX2_lookHere_71 rfl (lv_at hl 1 rfl) ?_
        exact r_i cx hr hlocks hw (sm_eq h) rfl dX2_lookHere_72
      · replace h := ite_f c15 h
        refine lv_aload_n hx hb dX2_lookHere_17 rfl (lv_at hl 0 rfl) ?_
        refine gf_X2_18 cx hw 0 rfl rfl dX2_lookHere_18 ?_
        refine lv_iconst (v := 1) hx hb dX2_lookHere_21 (by decide) ?_
        refine lv_isub hx hb dX2_lookHere_22 ?_
        refine lv_iload_n hx hb dX2_lookHere_23 rfl (lv_at hl 2 rfl) ?_
        refine lv_isub hx hb dX2_lookHere_24 ?_
        refine lv_topi (fun x16 ex16 => ?_)
        replace h := lt_nx ex16 h
        refine lv_istore_n (lv' := [(3, .int x16), (0, .ref (q 0)), (1, .int a1), (2, .int a2)]) hx hb dX2_lookHere_25 rfl hl (by decide) rfl (fun ls hl => ?_)
        refine lv_aload_n hx hb dX2_lookHere_26 rfl (lv_at hl 1 rfl) ?_
        refine gf_X2_12 cx hw 0 rfl rfl dX2_lookHere_27 ?_
        refine lv_iload_n hx hb dX2_lookHere_30 rfl (lv_at hl 3 rfl) ?_
        obtain ⟨x17, g18, h⟩ := bd_ex h
        refine c_V (As := [.int a2]) (rest := []) (w' := (RC g q d)) cx hw (c_X1_byteAt l g (qs 1 q) N a2 (r_tape d) x17 g18) (cl_X2_122 cx.1.2.2.2.2 ⟨Nat.le_of_ble_eq_true rfl, Nat.le_of_ble_eq_true rfl⟩) (x_recv cx hw (ci := 1) rfl 1 rfl) (ct_R__1_2__T g q d ) hl.1 rfl rfl (Nat.le_of_ble_eq_true rfl) dX2_lookHere_31 ⟨Nat.le_of_ble_eq_true rfl, Nat.le_of_ble_eq_true rfl⟩ (st1 := [.int x17]) rfl (fun H locs hw => ?_)
        refine lv_bipush (v := 48) hx hb dX2_lookHere_34 (by decide) ?_
        refine lv_isub hx hb dX2_lookHere_36 ?_
        refine lv_topi (fun x19 ex19 => ?_)
        replace h := lt_nx ex19 h
        refine lv_istore (lv' := [(4, .int x19), (3, .int x16), (0, .ref (q 0)), (1, .int a1), (2, .int a2)]) hx hb dX2_lookHere_37 hl (by decide) rfl (fun ls hl => ?_)
        refine lv_iload hx hb dX2_lookHere_39 (lv_at hl 0 rfl) ?_
        refine lv_iconst (v := 0) hx hb dX2_lookHere_41 (by decide) ?_
        refine lv_iconst (v := 3) hx hb dX2_lookHere_42 (by decide) ?_
        obtain ⟨x20, g21, h⟩ := bd_ex h
        refine c_SN (As := [.int x19, .int (0 : Int32), .int (3 : Int32)]) (rest := []) (w' := (RC g q d)) cx hw (c_X4_isWithin l g  N x19 (0 : Int32) (3 : Int32)  x20 g21) (cl_X2_118 cx.1.2.2.2.2 cx.2.2.1 ⟨Nat.le_of_ble_eq_true rfl, Nat.le_of_ble_eq_true rfl⟩) Ct.nil hl.1 rfl rfl (Nat.le_of_ble_eq_true rfl) dX2_lookHere_43 ⟨Nat.le_of_ble_eq_true rfl, Nat.le_of_ble_eq_true rfl⟩ (st1 := [.int x20]) rfl (fun H locs hw => ?_)
        refine lv_if_ne (tgt := 51) hx hb dX2_lookHere_46 (by decide) (fun c22 => ?_) (fun c22 => ?_)
        · replace h := ite_f c22 h
          refine lv_iload_n hx hb dX2_lookHere_51 rfl (lv_at hl 1 rfl) ?_
          refine lv_bipush (v := 9) hx hb dX2_lookHere_52 (by decide) ?_
          refine lv_icmp_ge (tgt := 65) hx hb dX2_lookHere_54 (by decide) (fun c23 => ?_) (fun c23 => ?_)
          · replace h := ite_t c23 h
            obtain ⟨x24, ex24⟩ : ∃ y : Int32, y = (a2 + (-1)) := ⟨_, rfl⟩
            replace h := lt_nx ex24 h
            refine lv_iinc (v := x24) (lv' := [(2, .int x24), (4, .int x19), (3, .int x16), (0, .ref (q 0)), (1, .int a1)]) hx hb dX2_lookHere_65 hl (k := 4) rfl (by rw [ex24]; rfl) (by decide) rfl (fun ls hl => ?_)
            refine lv_goto (tgt := 9) hx hb dX2_lookHere_68 (by decide) ?_
            exact ih9 a1 x24 _ _ _ hw (lv_sub hl [3, 4, 0] rfl) h
          · replace h := ite_f c23 h
            refine lv_iload_n hx hb dX2_lookHere_57 rfl (lv_at hl 3 rfl) ?_
            refine lv_iload_n hx hb dX2_lookHere_58 rfl (lv_at hl 1 rfl) ?_
            refine lv_iload hx hb dX2_lookHere_59 (lv_at hl 0 rfl) ?_
            obtain ⟨x25, g26, h⟩ := bd_ex h
            refine c_SN (As := [.int a1, .int x16, .int x19]) (rest := []) (w' := (RC g q d)) cx hw (c_X4_withWay l g  N a1 x16 x19  x25 g26) (cl_X2_126 cx.1.2.2.2.2 cx.2.2.1 ⟨Nat.le_of_ble_eq_true rfl, Nat.le_of_ble_eq_true rfl⟩) Ct.nil hl.1 rfl rfl (Nat.le_of_ble_eq_true rfl) dX2_lookHere_61 ⟨Nat.le_of_ble_eq_true rfl, Nat.le_of_ble_eq_true rfl⟩ (st1 := [.int x25]) rfl (fun H locs hw => ?_)
            refine lv_istore_n (lv' := [(1, .int x25), (4, .int x19), (3, .int x16), (0, .ref (q 0)), (2, .int a2)]) hx hb dX2_lookHere_64 rfl hl (by decide) rfl (fun ls hl => ?_)
            obtain ⟨x27, ex27⟩ : ∃ y : Int32, y = (a2 + (-1)) := ⟨_, rfl⟩
            replace h := lt_nx ex27 h
            refine lv_iinc (v := x27) (lv' := [(2, .int x27), (1, .int x25), (4, .int x19), (3, .int x16), (0, .ref (q 0))]) hx hb dX2_lookHere_65 hl (k := 4) rfl (by rw [ex27]; rfl) (by decide) rfl (fun ls hl => ?_)
            refine lv_goto (tgt := 9) hx hb dX2_lookHere_68 (by decide) ?_
            exact ih9 x25 x27 _ _ _ hw (lv_sub hl [4, 1, 0] rfl) h
        · replace h := ite_t c22 h
          refine lv_iconst (v := -1) hx hb dX2_lookHere_49 (by decide) ?_
          exact r_i cx hr hlocks hw (sm_eq h) rfl dX2_lookHere_50
  unfold f_X2_lookHere at h
  refine lv_iconst (v := 0) hx hb dX2_lookHere_0 (by decide) ?_
  refine lv_istore_n (lv' := [(1, .int (0 : Int32)), (0, .ref (q 0))]) hx hb dX2_lookHere_1 rfl hl (by decide) rfl (fun ls hl => ?_)
  refine lv_aload_n hx hb dX2_lookHere_2 rfl (lv_at hl 1 rfl) ?_
  refine gf_X2_18 cx hw 0 rfl rfl dX2_lookHere_3 ?_
  refine lv_iconst (v := 1) hx hb dX2_lookHere_6 (by decide) ?_
  refine lv_isub hx hb dX2_lookHere_7 ?_
  refine lv_topi (fun x1 ex1 => ?_)
  replace h := lt_nx ex1 h
  refine lv_istore_n (lv' := [(2, .int x1), (1, .int (0 : Int32)), (0, .ref (q 0))]) hx hb dX2_lookHere_8 rfl hl (by decide) rfl (fun ls hl => ?_)
  exact L9 N (0 : Int32) x1 _ _ _ hw (lv_sub hl [2, 1, 0] rfl) h
