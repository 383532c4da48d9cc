/-! CONSTRUCTORS: the addresses that come are told by their being -/
def PREx (E : State → Prop) (g : gE) (w : va_W) (sz : Nat) (U : State) : Prop := PRE g w sz U ∧ E U
def QX (g : gE) (F : (Nat → Nat) → va_W) (a : Nat) (A : Nat → Prop) : Array Value → State → Outcome → State → Prop := fun _ st oc t => oc = .returned none ∧ (∃ q : Nat → Nat, q 0 = a ∧ POS g (F q) A t) ∧ va_F A st t
def MX (E : State → Prop) (l : Launch) (y : MethodName) (ws : List Cond) (rm : Room) (a : Nat) (g : gE) (w : va_W) (F : (Nat → Nat) → va_W) (mc ms : Nat) : Prop :=
  ∀ sz : Nat, Met l y ws rm (va_Pc [.ref a] (PREx E g w sz)) (QX g F a (va_A w sz)) mc ms (va_A w sz)
theorem MX.of {E : State → Prop} {l : Launch} {y : MethodName} {rm : Room} {a : Nat} {g : gE} {w : va_W} {F : (Nat → Nat) → va_W} {mc ms : Nat} {cc : ByteArray} {maxL : Nat} (hy : plainName y.cls = true)
    (body : ∀ (p : Program) (e : Env) (s : State) (m : MethodId) (below : List Frame) (meth : Method) (c : Code), Cx p m c cc maxL s ([.ref a] : List Value).toArray y.cls g (va_A w s.heap.size) → Wd g (va_A w s.heap.size) w s s.heap [] → meth.sig.returnType = none → meth.locks = false → meth.name = y.name → E s →
      W p l e rm s m ([.ref a] : List Value).toArray below meth c s.heap [] 0 0 (MQ below (QX g F a (va_A w s.heap.size)) ([.ref a] : List Value).toArray s mc ms (va_A w s.heap.size)) (entryFrame m ([.ref a] : List Value).toArray maxL)) : MX E l y (Cond.code y cc maxL none :: TB) rm a g w F mc ms := by
  intro sz
  refine Met.ofW (cc := cc) (maxL := maxL) (ret := none) hy rfl ?_
  intro p e s m args below meth c s₁ B hml hv
  obtain ⟨rfl, ⟨hsz, hP, hK, hD, hN, hX⟩, hE⟩ := hv
  subst hsz
  have hts := atoms_spec (ws := Cond.code y cc maxL none :: TB) B.pre
  exact body p e s m below meth c ⟨⟨B.exec, B.bytes, hml, findClass_of_methodNamed B.named, fun w hw => hts w (List.mem_cons_of_mem _ hw)⟩, hK, hN, fun q h => Or.inr h, hX⟩ ⟨hP, hD.self, va_S.rf⟩ B.returns B.notSynchronized (name_of_methodNamed B.named B.method).1 hE
theorem join_tail {A0 : Nat → Prop} {D : va_G} {cl : List vw_C} {w1 wc wc' : va_W} {H H1 : Heap} (hP : va_P D cl (w1 ++ wc) H) (hD : va_D A0 (w1 ++ wc)) (hk : ∀ q : Nat, q < H.size → ¬ va_A wc H.size q → H1[q]? = H[q]?) (hF : ∀ q, va_A wc H.size q → A0 q) (hP1 : va_P D cl wc' H1) (hD1 : va_D (va_A wc H.size) wc') : va_P D cl (w1 ++ wc') H1 ∧ va_D A0 (w1 ++ wc') := by
  have lft : ∀ (k : Nat) (q : Nat × va_E), w1[k]? = some q → (w1 ++ wc)[k]? = some q := fun k q h => by rw [List.getElem?_append_left (List.getElem?_eq_some_iff.mp h).1]; exact h
  have rgt : ∀ (k : Nat) (q : Nat × va_E), wc[k]? = some q → (w1 ++ wc)[w1.length + k]? = some q := fun k q h => by rw [List.getElem?_append_right (Nat.le_add_right _ _), Nat.add_sub_cancel_left]; exact h
  have apart : ∀ (k : Nat) (q : Nat × va_E), w1[k]? = some q → q.1 < H.size ∧ ¬ va_A wc H.size q.1 := by
    intro k q hq
    have hl := (hP k q (lft k q hq)).lt
    refine ⟨hl, fun h => ?_⟩
    rcases h with ⟨k2, e, h⟩ | h
    · have hij := hD.1 k (w1.length + k2) q (q.1, e) (lft k q hq) (rgt k2 _ h) rfl
      have := (List.getElem?_eq_some_iff.mp hq).1
      omega
    · omega
  refine ⟨va_P.app (fun k q hq => (hP k q (lft k q hq)).kept (hk q.1 (apart k q hq).1 (apart k q hq).2)) hP1, va_D.app ⟨fun i j p q hp hq hpq => hD.1 i j p q (lft i p hp) (lft j q hq) hpq, fun k q hq => hD.2 k q (lft k q hq)⟩ (hD1.weaken (fun k q _ h => hF q.1 h)) (fun i j x y hx hy hxy => ?_)⟩
  exact (apart i x hx).2 (by rw [hxy]; exact hD1.2 j y hy)
theorem sub_tail {w1 wc : va_W} : ∀ (k : Nat) (q : Nat × va_E), wc[k]? = some q → (w1 ++ wc)[w1.length + k]? = some q := fun k q h => by rw [List.getElem?_append_right (Nat.le_add_right _ _), Nat.add_sub_cancel_left]; exact h
section CORE3
variable {p : Program} {l : Launch} {e : Env} {R : Room} {s : State} {m : MethodId} {args : Array Value} {below : List Frame} {meth : Method} {c : Code} {H : Heap} {locs : List Loc} {cells slots : Nat} {Q : State → Prop}
variable {pc : Nat} {ls : Array Slot} {st0 rest : List Value} {cc : ByteArray} {nL : Nat} {own : String} {g : gE} {A : Nat → Prop} {w w0 w1 wc : va_W} {mc ms : Nat} {F : (Nat → Nat) → va_W} {E : State → Prop}
variable {y : MethodName} {bytes : ByteArray} {maxL n index : Nat} {ret : Option FieldType} {ws : List Cond} {rm : Room} {C host : String} {b : Addr} {As : List Value}
theorem callX_go {a : Array Value} (hr : va_Run p l e R s m args below meth c H locs cells slots mc ms (F0 m pc ls st0) rest (QX g F b (va_A wc H.size) a) (va_A wc H.size))
    (hw : Wd g A (w1 ++ wc) s H locs) (hA : ∀ q, s.heap.size ≤ q → A q)
    (kk : ∀ (q : Nat → Nat) (H1 : Heap) (locs1 : List Loc), q 0 = b → Wd g A (w1 ++ F q) s H1 locs1 → W p l e R s m args below meth c H1 locs1 (cells + mc) (slots + ms) Q (F0 m (pc + 3) ls rest)) : W p l e R s m args below meth c H locs cells slots Q (F0 m pc ls st0) := by
  intro T hT X
  obtain ⟨hP, hD, hS⟩ := hw
  obtain ⟨v', st₀, t, T', L, h0, X', hL, e1, e2, ⟨hv, ⟨q, hq, b1, -, b3⟩, hz, hk⟩, st⟩ := hr T hT X
  cases hv
  rw [h0] at hz hk
  have hf : ∀ q, va_A wc H.size q → A q := by
    intro q hq
    rcases hq with ⟨k, e, h⟩ | h
    · exact hD.2 _ _ (sub_tail (w1 := w1) k _ h)
    · exact hA q (Nat.le_trans hS.1 h)
  have hk' : ∀ q : Nat, q < H.size → ¬ va_A wc H.size q → T'.heap[q]? = H[q]? := fun q h1 h2 => by rw [e1]; exact hk q h1 h2
  have z := join_tail hP hD hk' hf (by rw [e1]; exact b1) b3
  obtain ⟨t2, a1, c1⟩ := kk q T'.heap (locs ++ L) hq ⟨z.1, z.2,
    Nat.le_trans hS.1 (by rw [e1]; exact hz), fun q h1 h2 => by rw [hk' q (Nat.lt_of_lt_of_le h1 hS.1) (fun z => h2 (hf q z))]; exact hS.2.1 q h1 h2, fun q hq => by
      rcases List.mem_append.mp hq with h | h
      · exact hS.2.2 q h
      · exact hf _ (hL q h)⟩ T' rfl X'
  exact ⟨t2, st t2 a1, c1⟩
theorem preX_of (hw : Wd g A (w1 ++ wc) s H locs) (cx : Cx p m c cc nL s args own g A) (hE : ∀ U : State, s.WarmedH U.vm → E U) : ∀ U : State, U.heap = H → s.WarmedH U.vm → va_Pc [.ref b] (PREx E g wc H.size) ([.ref b] : List Value).toArray U := fun U hU hW => by
  have hf : ∀ q, va_A wc H.size q → A q := by
    intro q hq
    rcases hq with ⟨k, e, h⟩ | h
    · exact hw.2.1.2 _ _ (sub_tail (w1 := w1) k _ h)
    · exact cx.2.2.2.1 q (Nat.le_trans hw.2.2.1 h)
  exact ⟨rfl, ⟨by rw [hU], by rw [hU]; exact fun k q h => hw.1 _ q (sub_tail k q h), va_K.moved hW.alike cx.2.1, ⟨fun i j p q hp hq hpq => Nat.add_left_cancel (hw.2.1.1 _ _ p q (sub_tail i p hp) (sub_tail j q hq) hpq), fun _ _ _ => trivial⟩, cx.2.2.1.warm hW, cx.2.2.2.2.go hw.2.2 hf hU hW⟩, hE U hW⟩
theorem MX.blind {av : List Value} {sz : Nat} (hE : ∀ U V : State, V.vm = U.vm → E U → E V) : FrameBlind (va_Pc av (PREx E g w sz)) := fun a U gf mk q => by
  obtain ⟨q0, ⟨q1, qP, qK, qD, qN, qX⟩, qE⟩ := q
  exact ⟨q0, ⟨q1, qP, va_K.moved (u := U) (U := U.calling gf mk a) (Vm.Alike.refl U.vm) qK, qD, NW.same (s := U) rfl qN, SX.same (U := U) rfl rfl qX⟩, hE U _ rfl qE⟩
theorem c_X (cx : Cx p m c cc nL s args own g A) (hw : Wd g A (w1 ++ wc) s H locs) (hM : MX E l y ws rm b g wc F mc ms) (hEv : ∀ U V : State, V.vm = U.vm → E U → E V) (hEw : ∀ U : State, s.WarmedH U.vm → E U) (cw : CallB R s args own index y bytes maxL none ws rm mc ms 0 ∧ y.name = "<init>" ∧ (Cond.instanceMethod y).before args s = true)
    (hls : ls.size = nL) (hst : st0 = .ref b :: rest) (hW : (rest.map fun v => v.category).sum ≤ 8) (hdg : decode cc pc = .ok (.invokespecial index, 3)) (hf : cells + mc ≤ R.cells ∧ slots + ms ≤ R.slots)
    (kk : ∀ (q : Nat → Nat) (H1 : Heap) (locs1 : List Loc), q 0 = b → Wd g A (w1 ++ F q) s H1 locs1 → W p l e R s m args below meth c H1 locs1 (cells + mc) (slots + ms) Q (F0 m (pc + 3) ls rest)) : W p l e R s m args below meth c H locs cells slots Q (F0 m pc ls st0) :=
  callX_go (va_runI (As := []) cx.1 (hM H.size) cw ⟨MX.blind hEv, preX_of hw cx hEw⟩ rfl rfl hls hst (lv_room hW) hdg hf) hw cx.2.2.2.1 kk
theorem c_XN (cx : Cx p m c cc nL s args own g A) (hw : Wd g A (w1 ++ wc) s H locs) (hM : MX E l y ws rm b g wc F mc ms) (hEv : ∀ U V : State, V.vm = U.vm → E U → E V) (hEw : ∀ U : State, s.WarmedH U.vm → E U) (cw : va_CN R s args own index y host bytes maxL none ws rm mc ms 0 ∧ y.name = "<init>" ∧ (Cond.instanceMethod y).before args s = true)
    (hls : ls.size = nL) (hst : st0 = .ref b :: rest) (hW : (rest.map fun v => v.category).sum ≤ 8) (hdg : decode cc pc = .ok (.invokespecial index, 3)) (hf : cells + mc ≤ R.cells ∧ slots + ms ≤ R.slots)
    (kk : ∀ (q : Nat → Nat) (H1 : Heap) (locs1 : List Loc), q 0 = b → Wd g A (w1 ++ F q) s H1 locs1 → W p l e R s m args below meth c H1 locs1 (cells + mc) (slots + ms) Q (F0 m (pc + 3) ls rest)) : W p l e R s m args below meth c H locs cells slots Q (F0 m pc ls st0) :=
  callX_go (va_runIN (As := []) cx.1 (hM H.size) cw ⟨MX.blind hEv, preX_of hw cx hEw⟩ rfl rfl hls hst (lv_room hW) hdg hf) hw cx.2.2.2.1 kk
theorem x_oinit (cx : Cx p m c cc nL s args own g A) {a : Nat} (h1 : Cond.methodLink own index ⟨"java/lang/Object", "<init>", "()V"⟩ ∈ TB) (hls : ls.size = nL) (hdg : decode cc pc = .ok (.invokespecial index, 3)) (hfr : 1 ≤ R.frames) (hlo : (rest.map fun v => v.category).sum + 12 ≤ R.locals)
    (kk : W p l e R s m args below meth c H locs cells slots Q (F0 m (pc + 3) ls rest)) : W p l e R s m args below meth c H locs cells slots Q (F0 m pc ls (.ref a :: rest)) :=
  W.objInit cx.1.1 cx.1.2.1 cx.1.2.2.2.1 (cx.1.2.2.2.2 _ h1) (cx.1.2.2.2.2 _ tw_1_21) (cx.1.2.2.2.2 _ tw_1_22) rfl (by rw [cx.1.2.2.1]; exact hls) rfl hdg hfr (by simpa [JFrame.monitorRoom] using hlo) kk
theorem x_newI (cx : Cx p m c cc nL s args own g A) (hw : Wd g A w s H locs) {n : Int32} {k : Nat} (hn : ¬ n < 0) (hN : n.toNatClampNeg = k) (hbytes : k * componentBytes .int ≤ 536870912) (hcells : cells + 1 ≤ R.cells) (hslots : slots + k ≤ R.slots) (hdg : decode cc pc = .ok (.newarray .int, 2))
    (kk : ∀ (q : Nat) (H1 : Heap), Wd g A (w ++ [(q, .inl (gI g, k, .inl (fun _ => 0)))]) s H1 locs → W p l e R s m args below meth c H1 locs (cells + 1) (slots + k) Q (F0 m (pc + 2) ls (.ref q :: rest))) : W p l e R s m args below meth c H locs cells slots Q (F0 m pc ls (.int n :: rest)) := by
  refine va_newa (atype := .int) (ty := .int) (a0 := (k, .inl (fun _ => 0))) cx.1.1 cx.1.2.1 (cx.1.2.2.2.2 _ tw_1_111) rfl cx.2.1 hw.1 hw.2.1 hw.2.2 cx.2.2.2.1 (fun _ => rfl) hn hN hbytes hcells hslots hdg (fun q cA H1 hK hP hD hS => ?_)
  have e1 : s.vm.findClass ("[" ++ FieldType.int.toString) = some cA := (hK.2 4 (cA, .int) rfl).2
  have e2 : s.vm.findClass ("[" ++ FieldType.int.toString) = some (gI g) := (cx.2.1.2 0 (gI g, .int) rfl).2
  obtain rfl : cA = gI g := Option.some.inj (e1.symm.trans e2)
  exact kk q H1 ⟨hP, hD, hS⟩
theorem x_newJ (cx : Cx p m c cc nL s args own g A) (hw : Wd g A w s H locs) {n : Int32} {k : Nat} (hn : ¬ n < 0) (hN : n.toNatClampNeg = k) (hbytes : k * componentBytes .long ≤ 536870912) (hcells : cells + 1 ≤ R.cells) (hslots : slots + k ≤ R.slots) (hdg : decode cc pc = .ok (.newarray .long, 2))
    (kk : ∀ (q : Nat) (H1 : Heap), Wd g A (w ++ [(q, .inl (gJ g, k, .inr (.inl (fun _ => 0))))]) s H1 locs → W p l e R s m args below meth c H1 locs (cells + 1) (slots + k) Q (F0 m (pc + 2) ls (.ref q :: rest))) : W p l e R s m args below meth c H locs cells slots Q (F0 m pc ls (.int n :: rest)) := by
  refine va_newa (atype := .long) (ty := .long) (a0 := (k, .inr (.inl (fun _ => 0)))) cx.1.1 cx.1.2.1 (cx.1.2.2.2.2 _ tw_1_174) rfl cx.2.1 hw.1 hw.2.1 hw.2.2 cx.2.2.2.1 (fun _ => rfl) hn hN hbytes hcells hslots hdg (fun q cA H1 hK hP hD hS => ?_)
  have e1 : s.vm.findClass ("[" ++ FieldType.long.toString) = some cA := (hK.2 4 (cA, .long) rfl).2
  have e2 : s.vm.findClass ("[" ++ FieldType.long.toString) = some (gJ g) := (cx.2.1.2 1 (gJ g, .long) rfl).2
  obtain rfl : cA = gJ g := Option.some.inj (e1.symm.trans e2)
  exact kk q H1 ⟨hP, hD, hS⟩
theorem x_newB (cx : Cx p m c cc nL s args own g A) (hw : Wd g A w s H locs) {n : Int32} {k : Nat} (hn : ¬ n < 0) (hN : n.toNatClampNeg = k) (hbytes : k * componentBytes .byte ≤ 536870912) (hcells : cells + 1 ≤ R.cells) (hslots : slots + k ≤ R.slots) (hdg : decode cc pc = .ok (.newarray .byte, 2))
    (kk : ∀ (q : Nat) (H1 : Heap), Wd g A (w ++ [(q, .inl (gB g, k, .inl (fun _ => 0)))]) s H1 locs → W p l e R s m args below meth c H1 locs (cells + 1) (slots + k) Q (F0 m (pc + 2) ls (.ref q :: rest))) : W p l e R s m args below meth c H locs cells slots Q (F0 m pc ls (.int n :: rest)) := by
  refine va_newa (atype := .byte) (ty := .byte) (a0 := (k, .inl (fun _ => 0))) cx.1.1 cx.1.2.1 (cx.1.2.2.2.2 _ tw_1_133) rfl cx.2.1 hw.1 hw.2.1 hw.2.2 cx.2.2.2.1 (fun _ => rfl) hn hN hbytes hcells hslots hdg (fun q cA H1 hK hP hD hS => ?_)
  have e1 : s.vm.findClass ("[" ++ FieldType.byte.toString) = some cA := (hK.2 4 (cA, .byte) rfl).2
  have e2 : s.vm.findClass ("[" ++ FieldType.byte.toString) = some (gB g) := (cx.2.1.2 2 (gB g, .byte) rfl).2
  obtain rfl : cA = gB g := Option.some.inj (e1.symm.trans e2)
  exact kk q H1 ⟨hP, hD, hS⟩
theorem x_newO (cx : Cx p m c cc nL s args own g A) (hw : Wd g A w s H locs) (hclink : Cond.classLink own index "LikestHeir$Sheet" ∈ TB) (hover : va_AO "LikestHeir$Sheet" s) {n : Int32} {k : Nat} (hn : ¬ n < 0) (hN : n.toNatClampNeg = k) (hbytes : k * 4 ≤ 536870912) (hcells : cells + 1 ≤ R.cells) (hslots : slots + k ≤ R.slots) (hdg : decode cc pc = .ok (.anewarray index, 3))
    (kk : ∀ (q : Nat) (H1 : Heap), Wd g A (w ++ [(q, .inl (gO g, k, .inr (.inr (.inr (.inr (fun _ => none))))))]) s H1 locs → W p l e R s m args below meth c H1 locs (cells + 1) (slots + k) Q (F0 m (pc + 3) ls (.ref q :: rest))) : W p l e R s m args below meth c H locs cells slots Q (F0 m pc ls (.int n :: rest)) := by
  refine va_newq cx.1.1 cx.1.2.1 cx.1.2.2.2.1 (cx.1.2.2.2.2 _ hclink) hover cx.2.1 hw.1 hw.2.1 hw.2.2 cx.2.2.2.1 hn hN hbytes hcells hslots hdg (fun q cA H1 hK hP hD hS => ?_)
  obtain ⟨-, -, -, -, -, e1⟩ := (hK.2 4 (cA, .object "LikestHeir$Sheet") rfl).2
  obtain ⟨-, -, -, -, -, e2⟩ := (cx.2.1.2 3 (gO g, .object "LikestHeir$Sheet") rfl).2
  obtain rfl : cA = gO g := Option.some.inj (e1.symm.trans e2)
  exact kk q H1 ⟨hP, hD, hS⟩
theorem x_new (cx : Cx p m c cc nL s args own g A) (hw : Wd g A w s H locs) {T : u_T} {N ci : Nat} (hin : ∀ w ∈ u_ws C T N, w ∈ TB) (hc : vwCl[ci]? = some (C, T, N)) (ty : Nat → FieldType) (hty : ∀ k, k < N → parseFieldDescriptor (T k).2.2.1 = some (ty k)) (h1 : Cond.classLink own index C ∈ TB) (h2 : Cond.instantiable C N ∈ TB) (h3 : Cond.initialized C ∈ TB)
    {fs : List Value} (hfs : ∀ j, j < N → defaultValue (ty j) = vp_V fs j) (hcells : cells + 1 ≤ R.cells) (hslots : slots + N ≤ R.slots) (hdg : decode cc pc = .ok (.new index, 3))
    (kk : ∀ (q : Nat) (H1 : Heap), Wd g A (w ++ [(q, .inr (ci, fs))]) s H1 locs → W p l e R s m args below meth c H1 locs (cells + 1) (slots + N) Q (F0 m (pc + 3) ls (.ref q :: rest))) : W p l e R s m args below meth c H locs cells slots Q (F0 m pc ls rest) :=
  va_new cx.1.1 cx.1.2.1 cx.1.2.2.2.2 hin ty hty cx.1.2.2.2.1 (cx.1.2.2.2.2 _ h1) (cx.1.2.2.2.2 _ h2) (cx.1.2.2.2.2 _ h3) cx.2.1 hw.1 hw.2.1 hw.2.2 cx.2.2.2.1 hc hfs hcells hslots hdg (fun q H1 a b c => kk q H1 ⟨a, b, c⟩)
theorem x_putF (cx : Cx p m c cc nL s args own g A) (hw : Wd g A w s H locs) {a : Nat} {ref C : String} {T : u_T} {N ci index k : Nat} (hin : ∀ w ∈ u_ws C T N, w ∈ TB) (hc : vwCl[ci]? = some (C, T, N)) (hk : k < N) (hlink : Cond.fieldLink own index ref (T k).2.1 (T k).2.2.1 ∈ TB) (href : (T k).1 = ref)
    (ty0 : Nat → FieldType) (hty : ∀ k, k < N → parseFieldDescriptor (T k).2.2.1 = some (ty0 k)) (hnm : ∀ a, a < N → ∀ b, b < N → a ≠ b → (T a).2.1 ≠ (T b).2.1) (hfin : (T k).2.2.2 = true) (hinit : meth.name = "<init>") (hdecl : (T k).1 = own)
    (q0 : Nat) {fs : List Value} (he : w[q0]? = some (a, .inr (ci, fs))) {v : Value} (hn : narrow (ty0 k) v = v) (hfit : fits (ty0 k) v = true) (hl : k < fs.length) (hdg : decode cc pc = .ok (.putfield index, 3))
    (kk : ∀ (H1 : Heap) (locs1 : List Loc), Wd g A (w.set q0 (a, .inr (ci, fs.set k v))) s H1 locs1 → W p l e R s m args below meth c H1 locs1 cells slots Q (F0 m (pc + 3) ls rest)) : W p l e R s m args below meth c H locs cells slots Q (F0 m pc ls (v :: .ref a :: rest)) :=
  va_putF cx.1.1 cx.1.2.1 cx.1.2.2.2.2 hin ty0 hty hnm cx.1.2.2.2.1 cx.2.1 hw.1 hw.2.1 hw.2.2 q0 he hc k hk (cx.1.2.2.2.2 _ hlink) (fun _ h => by rw [← href]; exact h) hfin hinit hdecl (hty k hk) hn hfit hl hdg (fun H1 l1 a b c => kk H1 l1 ⟨a, b, c⟩)
theorem x_astq (cx : Cx p m c cc nL s args own g A) (hw : Wd g A w s H locs) (q0 qk : Nat) {a n v : Nat} {vs : List Value} {f : Nat → Option Nat} (ha : w[q0]? = some (a, .inl (gO g, n, .inr (.inr (.inr (.inr f)))))) (hv : w[qk]? = some (v, .inr (0, vs))) {i : Int32} (hin : vp_in i n) (hdg : decode cc pc = .ok (.aastore, 1))
    (kk : ∀ (H1 : Heap) (locs1 : List Loc), Wd g A (w.set q0 (a, .inl (gO g, n, .inr (.inr (.inr (.inr (va_up f i.toNatClampNeg (some v)))))))) s H1 locs1 → W p l e R s m args below meth c H1 locs1 cells slots Q (F0 m (pc + 1) ls rest)) : W p l e R s m args below meth c H locs cells slots Q (F0 m pc ls (.ref v :: .int i :: .ref a :: rest)) :=
  va_astq cx.1.1 cx.1.2.1 cx.2.1 hw.1 hw.2.1 hw.2.2 q0 3 qk 0 (r := (RX0, TX0, 3)) ha rfl hv rfl hin hdg (fun H1 l1 a b c => kk H1 l1 ⟨a, b, c⟩)
theorem r_x {d : Nat} (cx : Cx p m c cc nL s args own g A) (hr : meth.sig.returnType = none) (hlocks : meth.locks = false) (hw : Wd g (va_A w0 s.heap.size) w s H locs) (q : Nat → Nat) (hq : q 0 = d) (ew : F q = w) (hdg : decode cc pc = .ok (.return_, 1)) :
    W p l e R s m args below meth c H locs cells slots (MQ below (QX g F d (va_A w0 s.heap.size)) args s cells slots (va_A w0 s.heap.size)) (F0 m pc ls []) :=
  W.vret cx.1.1 cx.1.2.1 hr (fun t ht hW => ⟨rfl, ⟨q, hq, (r_pos cx.2.1 hw ew ht hW).1⟩, (r_pos cx.2.1 hw ew ht hW).2⟩) hw.2.2.2.2 hdg hlocks
end CORE3
def qL (l : List Nat) : Nat → Nat := fun i => l.getD i 0
/-- an array of references is told by its first n places -/
theorem Wd.refs {g : gE} {A : Nat → Prop} {s : State} {H : Heap} {locs : List Loc} {w : va_W} {k a n : Nat} {f f' : Nat → Option Nat} (hw : Wd g A w s H locs) (he : w[k]? = some (a, .inl (gO g, n, .inr (.inr (.inr (.inr f)))))) (hf : ∀ i, i < n → f i = f' i) : Wd g A (w.set k (a, .inl (gO g, n, .inr (.inr (.inr (.inr f')))))) s H locs := by
  have hc : vp_cell (gO g) (n, .inr (.inr (.inr (.inr f)))) = vp_cell (gO g) (n, .inr (.inr (.inr (.inr f')))) := by
    rw [vp_cell_q, vp_cell_q]
    unfold arrV
    congr 2
    funext j
    exact congrArg va_rf (hf j.val j.isLt)
  have hk : k < w.length := (List.getElem?_eq_some_iff.mp he).1
  obtain ⟨hP, hD, hS⟩ := hw
  have adr : ∀ (i : Nat) (q : Nat × va_E), (w.set k (a, .inl (gO g, n, .inr (.inr (.inr (.inr f'))))))[i]? = some q → ∃ q', w[i]? = some q' ∧ q'.1 = q.1 ∧ (i ≠ k → q' = q) := by
    intro i q hq
    rw [List.getElem?_set] at hq
    by_cases c : k = i
    · subst c
      rw [if_pos rfl, if_pos hk] at hq
      exact ⟨_, he, by rw [← Option.some.inj hq], fun z => absurd rfl z⟩
    · rw [if_neg c] at hq
      exact ⟨q, hq, rfl, fun _ => rfl⟩
  refine ⟨fun i q hq => ?_, ⟨fun i j p q hp hq hpq => ?_, fun i q hq => ?_⟩, hS⟩
  · by_cases c : i = k
    · subst c
      rw [List.getElem?_set, if_pos rfl, if_pos hk] at hq
      have e := Option.some.inj hq
      subst e
      have z := hP i _ he
      show H[a]? = some (vp_cell _ _)
      rw [← hc]
      exact z
    · obtain ⟨q', h1, -, h3⟩ := adr i q hq
      rw [← h3 c]
      exact hP i q' h1
  · obtain ⟨p', p1, p2, -⟩ := adr i p hp
    obtain ⟨q', q1, q2, -⟩ := adr j q hq
    exact hD.1 i j p' q' p1 q1 (p2.trans (hpq.trans q2.symm))
  · obtain ⟨q', q1, q2, -⟩ := adr i q hq
    rw [← q2]
    exact hD.2 i q' q1
