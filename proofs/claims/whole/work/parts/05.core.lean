/-! pure helpers: reads and writes with their bounds, names -/
def rd (f : Nat → Int32) (n : Nat) (i : Int32) : Option Int32 := if 0 ≤ i.toInt ∧ i.toInt < (n : Int) then some (f i.toNatClampNeg) else none
def rdL (f : Nat → Int64) (n : Nat) (i : Int32) : Option Int64 := if 0 ≤ i.toInt ∧ i.toInt < (n : Int) then some (f i.toNatClampNeg) else none
def ck (i : Int32) (n : Nat) : Option Unit := if 0 ≤ i.toInt ∧ i.toInt < (n : Int) then some () else none
def ckz (v : Int32) : Option Unit := if v = 0 ∨ v = 1 then some () else none
def ckd (v : Int32) : Option Unit := if v = 0 then none else some ()
def lt {α β : Type} (a : α) (k : α → β) : β := k a
theorem ite_t {α : Type} {c : Prop} [Decidable c] {a b x : α} (hc : c) (h : (if c then a else b) = x) : a = x := by rw [if_pos hc] at h; exact h
theorem ite_f {α : Type} {c : Prop} [Decidable c] {a b x : α} (hc : ¬ c) (h : (if c then a else b) = x) : b = x := by rw [if_neg hc] at h; exact h
theorem rd_in {α : Type} {f : Nat → Int32} {n : Nat} {i : Int32} {k : Int32 → Option α} {y : α} (h : (rd f n i).bind k = some y) : vp_in i n := by
  unfold rd at h
  by_cases c : 0 ≤ i.toInt ∧ i.toInt < (n : Int)
  · exact vp_in_iff.mpr c
  · rw [if_neg c] at h; cases h
theorem rd_nx {α : Type} {f : Nat → Int32} {n : Nat} {i : Int32} {k : Int32 → Option α} {y : α} {x : Int32} (e : x = f i.toNatClampNeg) (h : (rd f n i).bind k = some y) : k x = some y := by
  have c := vp_in_iff.mp (rd_in h)
  unfold rd at h
  rw [if_pos c] at h
  rw [e]; exact h
theorem rdL_in {α : Type} {f : Nat → Int64} {n : Nat} {i : Int32} {k : Int64 → Option α} {y : α} (h : (rdL f n i).bind k = some y) : vp_in i n := by
  unfold rdL at h
  by_cases c : 0 ≤ i.toInt ∧ i.toInt < (n : Int)
  · exact vp_in_iff.mpr c
  · rw [if_neg c] at h; cases h
theorem rdL_nx {α : Type} {f : Nat → Int64} {n : Nat} {i : Int32} {k : Int64 → Option α} {y : α} {x : Int64} (e : x = f i.toNatClampNeg) (h : (rdL f n i).bind k = some y) : k x = some y := by
  have c := vp_in_iff.mp (rdL_in h)
  unfold rdL at h
  rw [if_pos c] at h
  rw [e]; exact h
theorem ck_in {α : Type} {n : Nat} {i : Int32} {k : Unit → Option α} {y : α} (h : (ck i n).bind k = some y) : vp_in i n := by
  unfold ck at h
  by_cases c : 0 ≤ i.toInt ∧ i.toInt < (n : Int)
  · exact vp_in_iff.mpr c
  · rw [if_neg c] at h; cases h
theorem ck_nx {α : Type} {n : Nat} {i : Int32} {k : Unit → Option α} {y : α} (h : (ck i n).bind k = some y) : k () = some y := by
  have c := vp_in_iff.mp (ck_in h)
  unfold ck at h
  rw [if_pos c] at h
  exact h
theorem ckz_in {α : Type} {v : Int32} {k : Unit → Option α} {y : α} (h : (ckz v).bind k = some y) : narrow .boolean (.int v) = .int v := by
  unfold ckz at h
  by_cases c : v = 0 ∨ v = 1
  · rcases c with rfl | rfl <;> rfl
  · rw [if_neg c] at h; cases h
theorem ckz_nx {α : Type} {v : Int32} {k : Unit → Option α} {y : α} (h : (ckz v).bind k = some y) : k () = some y := by
  unfold ckz at h
  by_cases c : v = 0 ∨ v = 1
  · rw [if_pos c] at h; exact h
  · rw [if_neg c] at h; cases h
theorem ckd_in {α : Type} {v : Int32} {k : Unit → Option α} {y : α} (h : (ckd v).bind k = some y) : ¬ v = 0 := by
  intro c
  unfold ckd at h
  rw [if_pos c] at h; cases h
theorem ckd_nx {α : Type} {v : Int32} {k : Unit → Option α} {y : α} (h : (ckd v).bind k = some y) : k () = some y := by
  have c := ckd_in h
  unfold ckd at h
  rw [if_neg c] at h; exact h
theorem lt_nx {α β : Type} {a x : α} {k : α → β} {y : β} (e : x = a) (h : lt a k = y) : k x = y := by rw [e]; exact h
theorem lt_ex {α β : Type} {a : α} {k : α → β} {y : β} (h : lt a k = y) : ∃ x, x = a ∧ k x = y := ⟨a, rfl, h⟩
theorem bd_ex {α β : Type} {x : Option β} {k : β → Option α} {y : α} (h : x.bind k = some y) : ∃ b, x = some b ∧ k b = some y := by
  cases x with
  | none => cases h
  | some b => exact ⟨b, rfl, h⟩
theorem sm_eq {α : Type} {a b : α} (h : some a = some b) : b = a := (Option.some.inj h).symm
theorem ne_toInt {x k : Int32} (h : ¬ x = k) : x.toInt ≠ k.toInt := fun e => h (Int32.toInt_inj.mp e)
/-! the world's tables -/
abbrev gE : Type := va_G × (ClassId × ClassId × ClassId × ClassId) × ((Nat → Nat) × (Nat → Nat) × Nat)
def gI (g : gE) : ClassId := g.2.1.1
def gJ (g : gE) : ClassId := g.2.1.2.1
def gB (g : gE) : ClassId := g.2.1.2.2.1
def gO (g : gE) : ClassId := g.2.1.2.2.2
def gK (g : gE) : Nat → Nat := g.2.2.1
def gV (g : gE) : Nat → Nat := g.2.2.2.1
def gA (g : gE) : Nat := g.2.2.2.2
def kT (g : gE) : List (ClassId × FieldType) := [(gI g, .int), (gJ g, .long), (gB g, .byte), (gO g, .object "LikestHeir$Sheet")]
def qs (k : Nat) (q : Nat → Nat) : Nat → Nat := fun i => q (k + i)
/-! what lies outside the worlds and never changes: the literals, the statics -/
def strL : List (Nat × String) := [(47, "mark"), (56, "law"), (69, "like"), (82, "age"), (87, "goods"), (92, "term"), (97, "child"), (102, "weighs"), (107, "costs"), (134, "copier"), (136, "shunner"), (138, "kin"), (140, "sworn"), (142, "twin"), (144, "person")]
def strLen : List Nat := [4, 3, 4, 3, 5, 4, 5, 6, 5, 6, 7, 3, 5, 4, 6]
def strByt : List (List Int32) := [[109, 97, 114, 107], [108, 97, 119], [108, 105, 107, 101], [97, 103, 101], [103, 111, 111, 100, 115], [116, 101, 114, 109], [99, 104, 105, 108, 100], [119, 101, 105, 103, 104, 115], [99, 111, 115, 116, 115], [99, 111, 112, 105, 101, 114], [115, 104, 117, 110, 110, 101, 114], [107, 105, 110], [115, 119, 111, 114, 110], [116, 119, 105, 110], [112, 101, 114, 115, 111, 110]]
def kaL : List Int32 := [-1, 0, 0, 0, 1, 3]
def SX (g : gE) (A : Nat → Prop) (U : State) (H : Heap) : Prop :=
  (∀ i : Nat, i < 15 → vk_R "LikestHeir$TextReader" (strL.getD i (0, "")).1 (strL.getD i (0, "")).2 (gK g i) U) ∧ vk_S 15 strLen strByt (gK g) (gV g) A U H ∧
  va_Z "LikestHeir" "KIND_ABOVE" "[I" (.ref (gA g)) A U H ∧ va_T .int (gA g) 6 (fun j => .int (kaL.getD j 0)) A U H ∧ va_Z "java/lang/String" "COMPACT_STRINGS" "Z" (.int 1) A U H ∧ va_Zq "jdk/internal/util/Preconditions" "SIOOBE_FORMATTER" "Ljava/util/function/BiFunction;" A U H
theorem SX.go {g : gE} {A A1 : Nat → Prop} {s U : State} {H : Heap} {locs : List Loc} (h : SX g A s s.heap) (hS : va_S A s.heap H locs) (hAA : ∀ q, A1 q → A q) (hU : U.heap = H) (hW : s.WarmedH U.vm) : SX g A1 U U.heap := by
  obtain ⟨h1, h2, h3, h4, h5, h6⟩ := h
  have k : ∀ a : Nat, a < s.heap.size → ¬ A a → U.heap[a]? = s.heap[a]? := fun a ha hn => by rw [hU]; exact hS.2.1 a ha hn
  exact ⟨fun i hi => vk_R.warm hW (h1 i hi), ((h2.moved hW.alike).kept k).narrow hAA, ((h3.moved hW.alike).kept k).narrow hAA, ((h4.moved hW.alike).kept k).narrow hAA, ((h5.moved hW.alike).kept k).narrow hAA, ((h6.moved hW.alike).kept k).narrow hAA⟩
theorem SX.same {g : gE} {A : Nat → Prop} {U V : State} (hv : V.vm = U.vm) (hh : V.heap = U.heap) (h : SX g A U U.heap) : SX g A V V.heap := by
  obtain ⟨h1, h2, h3, h4, h5, h6⟩ := h
  have hvm : U.vm.Alike V.vm := by rw [hv]; exact Vm.Alike.refl U.vm
  rw [hh]
  exact ⟨fun i hi => vk_R.same hv (h1 i hi), h2.moved hvm, h3.moved hvm, h4.moved hvm, h5.moved hvm, h6.moved hvm⟩
def PRE (g : gE) (w : va_W) (sz : Nat) (U : State) : Prop := U.heap.size = sz ∧ va_P g.1 vwCl w U.heap ∧ va_K g.1 vwCl (kT g) U ∧ va_D (fun _ => True) w ∧ NW U ∧ SX g (va_A w sz) U U.heap
def POS (g : gE) (w : va_W) (A : Nat → Prop) (t : State) : Prop := va_P g.1 vwCl w t.heap ∧ va_K g.1 vwCl (kT g) t ∧ va_D A w
def QO (v : Option Value) (g : gE) (w' : va_W) (A : Nat → Prop) : Array Value → State → Outcome → State → Prop := fun _ st oc t => oc = .returned v ∧ POS g w' A t ∧ va_F A st t
/-- THE CONTRACT: from the world w the method answers v and leaves the world w' -/
def MO (l : Launch) (y : MethodName) (ws : List Cond) (rm : Room) (av : List Value) (g : gE) (w w' : va_W) (v : Option Value) (mc ms : Nat) : Prop :=
  ∀ sz : Nat, Met l y ws rm (va_Pc av (PRE g w sz)) (QO v g w' (va_A w sz)) mc ms (va_A w sz)
theorem MO.blind {av : List Value} {g : gE} {w : va_W} {sz : Nat} : FrameBlind (va_Pc av (PRE g w sz)) := fun a U gf mk q => by
  obtain ⟨q0, q1, qP, qK, qD, qN, qX⟩ := q
  exact ⟨q0, q1, qP, va_K.moved (u := U) (U := U.calling gf mk a) (Vm.Alike.refl U.vm) qK, qD, NW.same (s := U) rfl qN, SX.same (U := U) rfl rfl qX⟩
/-- which cells of a world a callee takes, and the world behind it -/
def Ct (w wc w' wc' : va_W) : Prop := ∃ isC isR : List Nat, isC.map (fun i => w[i]?) = wc.map some ∧ isC.map (fun i => w'[i]?) = wc'.map some ∧ isR.map (fun i => w[i]?) = isR.map (fun i => w'[i]?) ∧ (∀ i ∈ isR, i ∉ isC) ∧ (∀ k, k < w'.length → k ∈ isC ∨ k ∈ isR) ∧ isC.Nodup
theorem ct_at {ws w : va_W} {is : List Nat} (hs : is.map (fun i => ws[i]?) = w.map some) (k : Nat) (q : Nat × va_E) (hq : w[k]? = some q) : ∃ i, is[k]? = some i ∧ ws[i]? = some q := by
  have h1 : (is.map (fun i => ws[i]?))[k]? = some (some q) := by rw [hs, List.getElem?_map, hq]; rfl
  rw [List.getElem?_map] at h1
  cases hi : is[k]? with
  | none => rw [hi] at h1; cases h1
  | some i => rw [hi] at h1; exact ⟨i, rfl, Option.some.inj h1⟩
theorem ct_in {ws w : va_W} {is : List Nat} (hs : is.map (fun i => ws[i]?) = w.map some) {i : Nat} (hi : i ∈ is) {q : Nat × va_E} (hq : ws[i]? = some q) : ∃ k : Nat, is[k]? = some i ∧ w[k]? = some q := by
  obtain ⟨k, hk⟩ := List.getElem?_of_mem hi
  refine ⟨k, hk, ?_⟩
  have h1 : (w.map some)[k]? = some (some q) := by rw [← hs, List.getElem?_map, hk]; exact congrArg some hq
  rw [List.getElem?_map] at h1
  cases hw : w[k]? with
  | none => rw [hw] at h1; cases h1
  | some x => rw [hw] at h1; exact congrArg some (Option.some.inj (Option.some.inj h1))
theorem ct_same {w w' : va_W} {is : List Nat} (hs : is.map (fun i => w[i]?) = is.map (fun i => w'[i]?)) {i : Nat} (hi : i ∈ is) : w[i]? = w'[i]? := by
  obtain ⟨k, hk⟩ := List.getElem?_of_mem hi
  have h1 : (is.map (fun i => w[i]?))[k]? = (is.map (fun i => w'[i]?))[k]? := by rw [hs]
  rw [List.getElem?_map, List.getElem?_map, hk] at h1
  exact Option.some.inj h1
theorem Ct.go {A0 : Nat → Prop} {D : va_G} {cl : List vw_C} {w wc w' wc' : va_W} {H H1 : Heap} (C : Ct w wc w' wc') (hP : va_P D cl w H) (hD : va_D A0 w)
    (hk : ∀ q : Nat, q < H.size → ¬ va_A wc H.size q → H1[q]? = H[q]?) (hF : ∀ q, va_A wc H.size q → A0 q) (hP1 : va_P D cl wc' H1) (hD1 : va_D (va_A wc H.size) wc') : va_P D cl w' H1 ∧ va_D A0 w' := by
  obtain ⟨isC, isR, c1, c2, c3, c4, c5, -⟩ := C
  have len : ∀ (k : Nat) (q : Nat × va_E), w'[k]? = some q → k < w'.length := fun k q h => (List.getElem?_eq_some_iff.mp h).1
  have apart : ∀ (k : Nat) (q : Nat × va_E), k ∈ isR → w'[k]? = some q → w[k]? = some q ∧ q.1 < H.size ∧ ¬ va_A wc H.size q.1 := by
    intro k q hk hq
    have h2 : w[k]? = some q := (ct_same c3 hk).trans hq
    have hl := (hP k q h2).lt
    refine ⟨h2, hl, fun h => ?_⟩
    rcases h with ⟨k2, e, h⟩ | h
    · obtain ⟨j, h3, h4⟩ := ct_at c1 k2 (q.1, e) h
      have hij := hD.1 k j q (q.1, e) h2 h4 rfl
      subst hij
      exact c4 k hk (List.mem_of_getElem? h3)
    · omega
  refine ⟨fun k q hq => ?_, fun i j p q hp hq hpq => ?_, fun k q hq => ?_⟩
  · rcases c5 k (len k q hq) with h | h
    · obtain ⟨j, -, h2⟩ := ct_in c2 h hq
      exact hP1 j q h2
    · obtain ⟨g1, g2, g3⟩ := apart k q h hq
      exact (hP k q g1).kept (hk q.1 g2 g3)
  · rcases c5 i (len i p hp) with h | h <;> rcases c5 j (len j q hq) with h' | h'
    · obtain ⟨a, a1, a2⟩ := ct_in c2 h hp
      obtain ⟨b, b1, b2⟩ := ct_in c2 h' hq
      have hab := hD1.1 a b p q a2 b2 hpq
      subst hab
      exact Option.some.inj (a1.symm.trans b1)
    · obtain ⟨a, a1, a2⟩ := ct_in c2 h hp
      exact absurd (by rw [← hpq]; exact hD1.2 a p a2) (apart j q h' hq).2.2
    · obtain ⟨b, b1, b2⟩ := ct_in c2 h' hq
      exact absurd (by rw [hpq]; exact hD1.2 b q b2) (apart i p h hp).2.2
    · exact hD.1 i j p q (apart i p h hp).1 (apart j q h' hq).1 hpq
  · rcases c5 k (len k q hq) with h | h
    · obtain ⟨j, -, h2⟩ := ct_in c2 h hq
      exact hF _ (hD1.2 j q h2)
    · exact hD.2 k q (apart k q h hq).1
theorem map_range_get {α : Type} (l : List α) : (List.range l.length).map (fun i => l[i]?) = l.map some := by
  apply List.ext_getElem?
  intro i
  rw [List.getElem?_map, List.getElem?_map]
  by_cases h : i < l.length
  · rw [List.getElem?_range h, List.getElem?_eq_getElem h]
    simp [h]
  · rw [List.getElem?_eq_none (by simpa using h), List.getElem?_eq_none (by simpa using h)]
    rfl
theorem Ct.all {w w' : va_W} (h : w.length = w'.length) : Ct w w w' w' := ⟨List.range w.length, [], map_range_get w, by rw [h]; exact map_range_get w', rfl, fun i h => absurd h List.not_mem_nil, fun k hk => Or.inl (List.mem_range.mpr (by rw [h]; exact hk)), List.nodup_range⟩
theorem Ct.nil {w : va_W} : Ct w [] w [] := ⟨[], List.range w.length, rfl, rfl, rfl, fun i _ h => absurd h List.not_mem_nil, fun k hk => Or.inr (List.mem_range.mpr hk), List.nodup_nil⟩
/-- the callee's cells are the caller's -/
theorem Ct.subP {D : va_G} {cl : List vw_C} {w wc w' wc' : va_W} {H : Heap} (C : Ct w wc w' wc') (hP : va_P D cl w H) : va_P D cl wc H := by
  obtain ⟨isC, isR, c1, -⟩ := C
  intro k q hq
  obtain ⟨i, -, h2⟩ := ct_at c1 k q hq
  exact hP i q h2
theorem Ct.free {A0 : Nat → Prop} {w wc w' wc' : va_W} {H0 H : Heap} {locs : List Loc} (C : Ct w wc w' wc') (hD : va_D A0 w) (hS : va_S A0 H0 H locs) (hA : ∀ q, H0.size ≤ q → A0 q) : ∀ q, va_A wc H.size q → A0 q := by
  obtain ⟨isC, isR, c1, -⟩ := C
  exact va_free hD hS hA isC c1
/-- two cells of a callee are two of the caller -/
def va_dis (w : va_W) : Prop := ∀ (i j : Nat) (p q : Nat × va_E), w[i]? = some p → w[j]? = some q → p.1 = q.1 → i = j
theorem Ct.dis {A0 : Nat → Prop} {w wc w' wc' : va_W} (C : Ct w wc w' wc') (hD : va_D A0 w) : va_dis wc := by
  obtain ⟨isC, isR, c1, -, -, -, -, c6⟩ := C
  intro i j p q hp hq hpq
  obtain ⟨a, a1, a2⟩ := ct_at c1 i p hp
  obtain ⟨b, b1, b2⟩ := ct_at c1 j q hq
  have hab := hD.1 a b p q a2 b2 hpq
  subst hab
  exact (List.getElem?_inj (List.getElem?_eq_some_iff.mp a1).1 c6).mp (a1.trans b1.symm)
/-- the world w holds at the heap H -/
def Wd (g : gE) (A : Nat → Prop) (w : va_W) (s : State) (H : Heap) (locs : List Loc) : Prop := va_P g.1 vwCl w H ∧ va_D A w ∧ va_S A s.heap H locs
/-- what holds all along a method -/
def Cx (p : Program) (m : MethodId) (c : Code) (cc : ByteArray) (nL : Nat) (s : State) (args : Array Value) (own : String) (g : gE) (A : Nat → Prop) : Prop :=
  CallFix p m c cc nL s args TB own ∧ va_K g.1 vwCl (kT g) s ∧ NW s ∧ (∀ q, s.heap.size ≤ q → A q) ∧ SX g A s s.heap
section CALLS
variable {p : Program} {l : Launch} {e : Env} {R : Room} {s : State} {m : MethodId} {args : Array Value} {below : List Frame} {meth : Method} {c : Code} {H : Heap} {locs : List Loc} {cells slots : Nat} {Q : State → Prop}
variable {pc : Nat} {ls : Array Slot} {st0 rest : List Value} {cc : ByteArray} {nL : Nat} {own : String} {g : gE} {A : Nat → Prop} {w wc w' wc' : va_W} {mc ms : Nat} {v : Option Value}
theorem call_go {a : Array Value} (hr : va_Run p l e R s m args below meth c H locs cells slots mc ms (F0 m pc ls st0) rest (QO v g wc' (va_A wc H.size) a) (va_A wc H.size))
    (C : Ct w wc w' wc') (hw : Wd g A w s H locs) (hA : ∀ q, s.heap.size ≤ q → A q)
    (kk : ∀ (H1 : Heap) (locs1 : List Loc), Wd g A w' s H1 locs1 → W p l e R s m args below meth c H1 locs1 (cells + mc) (slots + ms) Q (F0 m (pc + 3) ls (v.toList ++ rest))) : W p l e R s m args below meth c H locs cells slots Q (F0 m pc ls st0) := by
  intro T hT X
  obtain ⟨hP, hD, hS⟩ := hw
  obtain ⟨v', st₀, t, T', L, h0, X', hL, e1, e2, ⟨hv, ⟨b1, -, b3⟩, hz, hk⟩, st⟩ := hr T hT X
  cases hv
  rw [h0] at hz hk
  have hf := C.free hD hS hA
  have hk' : ∀ q : Nat, q < H.size → ¬ va_A wc H.size q → T'.heap[q]? = H[q]? := fun q h1 h2 => by rw [e1]; exact hk q h1 h2
  have z := C.go hP hD hk' hf (by rw [e1]; exact b1) b3
  obtain ⟨t2, a1, c1⟩ := kk T'.heap (locs ++ L) ⟨z.1, z.2,
    Nat.le_trans hS.1 (by rw [e1]; exact hz), fun q h1 h2 => by rw [hk' q (Nat.lt_of_lt_of_le h1 hS.1) (fun z => h2 (hf q z))]; exact hS.2.1 q h1 h2, fun q hq => by
      rcases List.mem_append.mp hq with h | h
      · exact hS.2.2 q h
      · exact hf _ (hL q h)⟩ T' rfl X'
  exact ⟨t2, st t2 a1, c1⟩
theorem pre_of {av : List Value} (C : Ct w wc w' wc') (hw : Wd g A w s H locs) (cx : Cx p m c cc nL s args own g A) : ∀ U : State, U.heap = H → s.WarmedH U.vm → va_Pc av (PRE g wc H.size) av.toArray U := fun U hU hW => ⟨rfl, by rw [hU], by rw [hU]; exact C.subP hw.1, va_K.moved hW.alike cx.2.1, ⟨C.dis hw.2.1, fun _ _ _ => trivial⟩, cx.2.2.1.warm hW, cx.2.2.2.2.go hw.2.2 (C.free hw.2.1 hw.2.2 cx.2.2.2.1) hU hW⟩
variable {y : MethodName} {bytes : ByteArray} {maxL n index : Nat} {ret : Option FieldType} {ws : List Cond} {rm : Room} {C host : String} {b : Addr} {As : List Value}
theorem c_V (cx : Cx p m c cc nL s args own g A) (hw : Wd g A w s H locs) (hM : MO l y ws rm (.ref b :: As) g wc wc' v mc ms) (cw : CallW R s args own C index y bytes maxL ret ws rm mc ms n)
    (hrv : ∃ cell : Cell, H[b]? = some cell ∧ cell.vm.isStatics = false ∧ s.vm.findClass C = some cell.cls) (ct : Ct w wc w' wc') (hls : ls.size = nL) (hst : st0 = As.reverse ++ .ref b :: rest) (hn : As.length = n) (hW : (rest.map fun v => v.category).sum ≤ 8)
    (hdg : decode cc pc = .ok (.invokevirtual index, 3)) (hf : cells + mc ≤ R.cells ∧ slots + ms ≤ R.slots)
    {st1 : List Value} (h1 : v.toList ++ rest = st1) (kk : ∀ (H1 : Heap) (locs1 : List Loc), Wd g A w' s H1 locs1 → W p l e R s m args below meth c H1 locs1 (cells + mc) (slots + ms) Q (F0 m (pc + 3) ls st1)) : W p l e R s m args below meth c H locs cells slots Q (F0 m pc ls st0) :=
  call_go (va_runV cx.1 (hM H.size) cw ⟨MO.blind, hrv, pre_of ct hw cx⟩ rfl hn hls hst (lv_room hW) hdg hf) ct hw cx.2.2.2.1 (h1 ▸ kk)
theorem c_VN (cx : Cx p m c cc nL s args own g A) (hw : Wd g A w s H locs) (hM : MO l y ws rm (.ref b :: As) g wc wc' v mc ms) (cw : va_CN R s args own index y host bytes maxL ret ws rm mc ms n ∧ (Cond.instanceMethod y).before args s = true ∧ (Cond.selects C y y).before args s = true)
    (hrv : ∃ cell : Cell, H[b]? = some cell ∧ cell.vm.isStatics = false ∧ s.vm.findClass C = some cell.cls) (ct : Ct w wc w' wc') (hls : ls.size = nL) (hst : st0 = As.reverse ++ .ref b :: rest) (hn : As.length = n) (hW : (rest.map fun v => v.category).sum ≤ 8)
    (hdg : decode cc pc = .ok (.invokevirtual index, 3)) (hf : cells + mc ≤ R.cells ∧ slots + ms ≤ R.slots)
    {st1 : List Value} (h1 : v.toList ++ rest = st1) (kk : ∀ (H1 : Heap) (locs1 : List Loc), Wd g A w' s H1 locs1 → W p l e R s m args below meth c H1 locs1 (cells + mc) (slots + ms) Q (F0 m (pc + 3) ls st1)) : W p l e R s m args below meth c H locs cells slots Q (F0 m pc ls st0) :=
  call_go (va_runVN cx.1 (hM H.size) cw ⟨MO.blind, hrv, pre_of ct hw cx⟩ rfl hn hls hst (lv_room hW) hdg hf) ct hw cx.2.2.2.1 (h1 ▸ kk)
theorem c_S (cx : Cx p m c cc nL s args own g A) (hw : Wd g A w s H locs) (hM : MO l y ws rm As g wc wc' v mc ms) (cw : CallB R s args own index y bytes maxL ret ws rm mc ms n ∧ (Cond.static y).before args s = true)
    (ct : Ct w wc w' wc') (hls : ls.size = nL) (hst : st0 = As.reverse ++ rest) (hn : As.length = n) (hW : (rest.map fun v => v.category).sum ≤ 8)
    (hdg : decode cc pc = .ok (.invokestatic index, 3)) (hf : cells + mc ≤ R.cells ∧ slots + ms ≤ R.slots)
    {st1 : List Value} (h1 : v.toList ++ rest = st1) (kk : ∀ (H1 : Heap) (locs1 : List Loc), Wd g A w' s H1 locs1 → W p l e R s m args below meth c H1 locs1 (cells + mc) (slots + ms) Q (F0 m (pc + 3) ls st1)) : W p l e R s m args below meth c H locs cells slots Q (F0 m pc ls st0) :=
  call_go (va_runS cx.1 (hM H.size) cw ⟨MO.blind, pre_of ct hw cx⟩ rfl hn hls hst (lv_room hW) hdg hf) ct hw cx.2.2.2.1 (h1 ▸ kk)
theorem c_SN (cx : Cx p m c cc nL s args own g A) (hw : Wd g A w s H locs) (hM : MO l y ws rm As g wc wc' v mc ms) (cw : va_CN R s args own index y host bytes maxL ret ws rm mc ms n ∧ (Cond.static y).before args s = true ∧ True)
    (ct : Ct w wc w' wc') (hls : ls.size = nL) (hst : st0 = As.reverse ++ rest) (hn : As.length = n) (hW : (rest.map fun v => v.category).sum ≤ 8)
    (hdg : decode cc pc = .ok (.invokestatic index, 3)) (hf : cells + mc ≤ R.cells ∧ slots + ms ≤ R.slots)
    {st1 : List Value} (h1 : v.toList ++ rest = st1) (kk : ∀ (H1 : Heap) (locs1 : List Loc), Wd g A w' s H1 locs1 → W p l e R s m args below meth c H1 locs1 (cells + mc) (slots + ms) Q (F0 m (pc + 3) ls st1)) : W p l e R s m args below meth c H locs cells slots Q (F0 m pc ls st0) :=
  call_go (va_runSN cx.1 (hM H.size) cw ⟨MO.blind, pre_of ct hw cx⟩ rfl hn hls hst (lv_room hW) hdg hf) ct hw cx.2.2.2.1 (h1 ▸ kk)
theorem c_I (cx : Cx p m c cc nL s args own g A) (hw : Wd g A w s H locs) (hM : MO l y ws rm (.ref b :: As) g wc wc' v mc ms) (cw : CallB R s args own index y bytes maxL none ws rm mc ms n ∧ y.name = "<init>" ∧ (Cond.instanceMethod y).before args s = true)
    (ct : Ct w wc w' wc') (hls : ls.size = nL) (hst : st0 = As.reverse ++ .ref b :: rest) (hn : As.length = n) (hW : (rest.map fun v => v.category).sum ≤ 8)
    (hdg : decode cc pc = .ok (.invokespecial index, 3)) (hf : cells + mc ≤ R.cells ∧ slots + ms ≤ R.slots)
    {st1 : List Value} (h1 : v.toList ++ rest = st1) (kk : ∀ (H1 : Heap) (locs1 : List Loc), Wd g A w' s H1 locs1 → W p l e R s m args below meth c H1 locs1 (cells + mc) (slots + ms) Q (F0 m (pc + 3) ls st1)) : W p l e R s m args below meth c H locs cells slots Q (F0 m pc ls st0) :=
  call_go (va_runI cx.1 (hM H.size) cw ⟨MO.blind, pre_of ct hw cx⟩ rfl hn hls hst (lv_room hW) hdg hf) ct hw cx.2.2.2.1 (h1 ▸ kk)
/-! the words of a call -/
theorem cw_V {mc ms : Nat} (n : Nat) (ht : ∀ w ∈ TB, w.before args s = true) (h1 : Cond.methodLink own index y ∈ TB) (h2 : Cond.instanceMethod y ∈ TB) (h3 : Cond.selects C y y ∈ TB) (h4 : Cond.initialized C ∈ TB) (h5 : Cond.code y bytes maxL ret ∈ TB) (hrc : rm.cells = mc) (hrs : rm.slots = ms)
    (hd : y.cls = C ∧ y.cls ≠ "java/lang/invoke/MethodHandle" ∧ y.cls ≠ "java/lang/invoke/VarHandle" ∧ (parseMethodDescriptor y.desc).map (fun d => d.parameters.length) = some n) (hR : rm.frames + 1 ≤ R.frames ∧ 8 + (maxL + 11) + rm.locals ≤ R.locals) :
    CallW R s args own C index y bytes maxL ret (Cond.code y bytes maxL ret :: TB) rm mc ms n := by
  refine cwV n ht (fun w hw => ?_) rfl hrc hrs hd hR
  have k : w ∈ TB := by
    rcases List.mem_append.mp hw with h | h
    · simp only [List.mem_cons, List.not_mem_nil, or_false] at h
      rcases h with rfl | rfl | rfl | rfl <;> assumption
    · rcases List.mem_cons.mp h with rfl | h
      · exact h5
      · exact h
  exact ⟨k, tb_good k⟩
theorem cw_S {mc ms : Nat} (n : Nat) (ht : ∀ w ∈ TB, w.before args s = true) (h1 : Cond.methodLink own index y ∈ TB) (h2 : Cond.static y ∈ TB) (h4 : Cond.initialized y.cls ∈ TB) (h5 : Cond.code y bytes maxL ret ∈ TB) (hrc : rm.cells = mc) (hrs : rm.slots = ms)
    (hd : y.cls ≠ "java/lang/invoke/MethodHandle" ∧ y.cls ≠ "java/lang/invoke/VarHandle" ∧ (parseMethodDescriptor y.desc).map (fun d => d.parameters.length) = some n) (hR : rm.frames + 1 ≤ R.frames ∧ 8 + (maxL + 11) + rm.locals ≤ R.locals) :
    CallB R s args own index y bytes maxL ret (Cond.code y bytes maxL ret :: TB) rm mc ms n ∧ (Cond.static y).before args s = true := by
  refine ⟨callB_of n ht (fun w hw => ?_) rfl hrc hrs (ht _ h4) (ht _ h1) hd hR, ht _ h2⟩
  have k : w ∈ TB := by
    rcases List.mem_cons.mp hw with rfl | h
    · exact h5
    · exact h
  exact ⟨k, tb_good k⟩
theorem tb_goodIn {y : MethodName} {bytes : ByteArray} {maxL : Nat} {ret : Option FieldType} (h5 : Cond.code y bytes maxL ret ∈ TB) : GoodIn TB (Cond.code y bytes maxL ret :: TB) := fun w hw => by
  have k : w ∈ TB := by
    rcases List.mem_cons.mp hw with rfl | h
    · exact h5
    · exact h
  exact ⟨k, tb_good k⟩
theorem cw_N {mc ms : Nat} (n : Nat) (ht : ∀ w ∈ TB, w.before args s = true) (h1 : va_Nw (.methodLinkNest own index y host) s) (h4 : Cond.initialized y.cls ∈ TB) (h5 : Cond.code y bytes maxL ret ∈ TB) (hrc : rm.cells = mc) (hrs : rm.slots = ms)
    (hd : y.cls ≠ "java/lang/invoke/MethodHandle" ∧ y.cls ≠ "java/lang/invoke/VarHandle" ∧ (parseMethodDescriptor y.desc).map (fun d => d.parameters.length) = some n) (hR : rm.frames + 1 ≤ R.frames ∧ 8 + (maxL + 11) + rm.locals ≤ R.locals) :
    va_CN R s args own index y host bytes maxL ret (Cond.code y bytes maxL ret :: TB) rm mc ms n := va_cnB n ht (tb_goodIn h5) rfl hrc hrs h1 (ht _ h4) hd hR
theorem cw_I {mc ms : Nat} (n : Nat) (ht : ∀ w ∈ TB, w.before args s = true) (h1 : Cond.methodLink own index y ∈ TB) (h2 : Cond.instanceMethod y ∈ TB) (h4 : Cond.initialized y.cls ∈ TB) (h5 : Cond.code y bytes maxL none ∈ TB) (hnm : y.name = "<init>") (hrc : rm.cells = mc) (hrs : rm.slots = ms)
    (hd : y.cls ≠ "java/lang/invoke/MethodHandle" ∧ y.cls ≠ "java/lang/invoke/VarHandle" ∧ (parseMethodDescriptor y.desc).map (fun d => d.parameters.length) = some n) (hR : rm.frames + 1 ≤ R.frames ∧ 8 + (maxL + 11) + rm.locals ≤ R.locals) :
    CallB R s args own index y bytes maxL none (Cond.code y bytes maxL none :: TB) rm mc ms n ∧ y.name = "<init>" ∧ (Cond.instanceMethod y).before args s = true :=
  ⟨callB_of n ht (tb_goodIn h5) rfl hrc hrs (ht _ h4) (ht _ h1) hd hR, hnm, ht _ h2⟩
/-! fields and arrays -/
theorem x_get (cx : Cx p m c cc nL s args own g A) (hw : Wd g A w s H locs) {a : Nat} {ref C : String} {T : u_T} {N ci index k : Nat} (hin : ∀ w ∈ u_ws C T N, w ∈ TB) (hc : vwCl[ci]? = some (C, T, N)) (hk : k < N) (hlink : Cond.fieldLink own index ref (T k).2.1 (T k).2.2.1 ∈ TB) (href : (T k).1 = ref)
    (q0 : Nat) {fs : List Value} (he : w[q0]? = some (a, .inr (ci, fs))) {v : Value} (hv : fs[k]? = some v) (hdg : decode cc pc = .ok (.getfield index, 3))
    (kk : W p l e R s m args below meth c H locs cells slots Q (F0 m (pc + 3) ls (v :: rest))) : W p l e R s m args below meth c H locs cells slots Q (F0 m pc ls (.ref a :: rest)) :=
  va_get cx.1.1 cx.1.2.1 cx.1.2.2.2.2 hin cx.1.2.2.2.1 cx.2.1 hw.1 q0 he hc k hk (cx.1.2.2.2.2 _ hlink) (fun _ h => by rw [← href]; exact h) hv hdg kk
theorem x_put (cx : Cx p m c cc nL s args own g A) (hw : Wd g A w s H locs) {a : Nat} {ref C : String} {T : u_T} {N ci index k : Nat} (hin : ∀ w ∈ u_ws C T N, w ∈ TB) (hc : vwCl[ci]? = some (C, T, N)) (hk : k < N) (hlink : Cond.fieldLink own index ref (T k).2.1 (T k).2.2.1 ∈ TB) (href : (T k).1 = ref)
    (ty0 : Nat → FieldType) (hty : ∀ k, k < N → parseFieldDescriptor (T k).2.2.1 = some (ty0 k)) (hnm : ∀ a, a < N → ∀ b, b < N → a ≠ b → (T a).2.1 ≠ (T b).2.1) (hfin : (T k).2.2.2 = false)
    (q0 : Nat) {fs : List Value} (he : w[q0]? = some (a, .inr (ci, fs))) {v : Value} (hn : narrow (ty0 k) v = v) (hfit : fits (ty0 k) v = true) (hl : k < fs.length) (hdg : decode cc pc = .ok (.putfield index, 3))
    (kk : ∀ (H1 : Heap) (locs1 : List Loc), Wd g A (w.set q0 (a, .inr (ci, fs.set k v))) s H1 locs1 → W p l e R s m args below meth c H1 locs1 cells slots Q (F0 m (pc + 3) ls rest)) : W p l e R s m args below meth c H locs cells slots Q (F0 m pc ls (v :: .ref a :: rest)) :=
  va_put cx.1.1 cx.1.2.1 cx.1.2.2.2.2 hin ty0 hty hnm cx.1.2.2.2.1 cx.2.1 hw.1 hw.2.1 hw.2.2 q0 he hc k hk (cx.1.2.2.2.2 _ hlink) (fun _ h => by rw [← href]; exact h) hfin (hty k hk) hn hfit hl hdg (fun H1 l1 a b c => kk H1 l1 ⟨a, b, c⟩)
theorem x_iald (cx : Cx p m c cc nL s args own g A) (hw : Wd g A w s H locs) (q0 : Nat) {a n : Nat} {f : Nat → Int32} (ha : w[q0]? = some (a, .inl (gI g, n, .inl f))) {i : Int32} (hin : vp_in i n) (hdg : decode cc pc = .ok (.iaload, 1))
    (kk : W p l e R s m args below meth c H locs cells slots Q (F0 m (pc + 1) ls (.int (f i.toNatClampNeg) :: rest))) : W p l e R s m args below meth c H locs cells slots Q (F0 m pc ls (.int i :: .ref a :: rest)) :=
  va_iald cx.1.1 cx.1.2.1 cx.2.1 hw.1 q0 0 ha rfl hin hdg kk
theorem x_iast (cx : Cx p m c cc nL s args own g A) (hw : Wd g A w s H locs) (q0 : Nat) {a n : Nat} {f : Nat → Int32} (ha : w[q0]? = some (a, .inl (gI g, n, .inl f))) {i x : Int32} (hin : vp_in i n) (hdg : decode cc pc = .ok (.iastore, 1))
    (kk : ∀ (H1 : Heap) (locs1 : List Loc), Wd g A (w.set q0 (a, .inl (gI g, n, .inl (upd f i.toNatClampNeg x)))) s H1 locs1 → W p l e R s m args below meth c H1 locs1 cells slots Q (F0 m (pc + 1) ls rest)) : W p l e R s m args below meth c H locs cells slots Q (F0 m pc ls (.int x :: .int i :: .ref a :: rest)) :=
  va_iast cx.1.1 cx.1.2.1 cx.2.1 hw.1 hw.2.1 hw.2.2 q0 0 ha rfl hin hdg (fun H1 l1 a b c => kk H1 l1 ⟨a, b, c⟩)
theorem x_lald (cx : Cx p m c cc nL s args own g A) (hw : Wd g A w s H locs) (q0 : Nat) {a n : Nat} {f : Nat → Int64} (ha : w[q0]? = some (a, .inl (gJ g, n, .inr (.inl f)))) {i : Int32} (hin : vp_in i n) (hdg : decode cc pc = .ok (.laload, 1))
    (kk : W p l e R s m args below meth c H locs cells slots Q (F0 m (pc + 1) ls (.long (f i.toNatClampNeg) :: rest))) : W p l e R s m args below meth c H locs cells slots Q (F0 m pc ls (.int i :: .ref a :: rest)) :=
  va_lald cx.1.1 cx.1.2.1 cx.2.1 hw.1 q0 1 ha rfl hin hdg kk
theorem x_last (cx : Cx p m c cc nL s args own g A) (hw : Wd g A w s H locs) (q0 : Nat) {a n : Nat} {f : Nat → Int64} (ha : w[q0]? = some (a, .inl (gJ g, n, .inr (.inl f)))) {i : Int32} {x : Int64} (hin : vp_in i n) (hdg : decode cc pc = .ok (.lastore, 1))
    (kk : ∀ (H1 : Heap) (locs1 : List Loc), Wd g A (w.set q0 (a, .inl (gJ g, n, .inr (.inl (vp_updL f i.toNatClampNeg x))))) s H1 locs1 → W p l e R s m args below meth c H1 locs1 cells slots Q (F0 m (pc + 1) ls rest)) : W p l e R s m args below meth c H locs cells slots Q (F0 m pc ls (.long x :: .int i :: .ref a :: rest)) :=
  va_last cx.1.1 cx.1.2.1 cx.2.1 hw.1 hw.2.1 hw.2.2 q0 1 ha rfl hin hdg (fun H1 l1 a b c => kk H1 l1 ⟨a, b, c⟩)
theorem x_bald (cx : Cx p m c cc nL s args own g A) (hw : Wd g A w s H locs) (q0 : Nat) {a n : Nat} {f : Nat → Int32} (ha : w[q0]? = some (a, .inl (gB g, n, .inl f))) {i : Int32} (hin : vp_in i n) (hdg : decode cc pc = .ok (.baload, 1))
    (kk : W p l e R s m args below meth c H locs cells slots Q (F0 m (pc + 1) ls (.int (f i.toNatClampNeg) :: rest))) : W p l e R s m args below meth c H locs cells slots Q (F0 m pc ls (.int i :: .ref a :: rest)) :=
  va_bald cx.1.1 cx.1.2.1 cx.2.1 hw.1 q0 2 ha rfl hin hdg kk
theorem x_bast (cx : Cx p m c cc nL s args own g A) (hw : Wd g A w s H locs) (q0 : Nat) {a n : Nat} {f : Nat → Int32} (ha : w[q0]? = some (a, .inl (gB g, n, .inl f))) {i x : Int32} (hin : vp_in i n) (hdg : decode cc pc = .ok (.bastore, 1))
    (kk : ∀ (H1 : Heap) (locs1 : List Loc), Wd g A (w.set q0 (a, .inl (gB g, n, .inl (upd f i.toNatClampNeg (vp_nar .byte x))))) s H1 locs1 → W p l e R s m args below meth c H1 locs1 cells slots Q (F0 m (pc + 1) ls rest)) : W p l e R s m args below meth c H locs cells slots Q (F0 m pc ls (.int x :: .int i :: .ref a :: rest)) :=
  va_bast cx.1.1 cx.1.2.1 cx.2.1 hw.1 hw.2.1 hw.2.2 q0 2 ha rfl hin hdg (fun H1 l1 a b c => kk H1 l1 ⟨a, b, c⟩)
theorem x_alen (cx : Cx p m c cc nL s args own g A) (hw : Wd g A w s H locs) (q0 t0 : Nat) {a : Nat} {cA : ClassId} {x : vp_A} {ty : FieldType} (ha : w[q0]? = some (a, .inl (cA, x))) (ht : (kT g)[t0]? = some (cA, ty)) {v : Int32} (hv : Int32.ofNat x.1 = v) (hdg : decode cc pc = .ok (.arraylength, 1))
    (kk : W p l e R s m args below meth c H locs cells slots Q (F0 m (pc + 1) ls (.int v :: rest))) : W p l e R s m args below meth c H locs cells slots Q (F0 m pc ls (.ref a :: rest)) :=
  va_alen cx.1.1 cx.1.2.1 cx.2.1 hw.1 q0 t0 ha ht hv hdg kk
theorem x_recv (cx : Cx p m c cc nL s args own g A) (hw : Wd g A w s H locs) {a ci : Nat} {q : vw_C} {fs : List Value} (hc : vwCl[ci]? = some q) (q0 : Nat) (he : w[q0]? = some (a, .inr (ci, fs))) : ∃ cell : Cell, H[a]? = some cell ∧ cell.vm.isStatics = false ∧ s.vm.findClass q.1 = some cell.cls := va_recv cx.2.1 hw.1 hc he
/-! ends -/
variable {w0 : va_W}
theorem r_pos {t : State} {wf : va_W} (hK : va_K g.1 vwCl (kT g) s) (hw : Wd g (va_A w0 s.heap.size) w s H locs) (ew : wf = w) (ht : t.heap = H) (hW : s.WarmedH t.vm) : POS g wf (va_A w0 s.heap.size) t ∧ va_F (va_A w0 s.heap.size) s t := by
  subst ew
  exact ⟨⟨by rw [ht]; exact hw.1, va_K.moved hW.alike hK, hw.2.1⟩, hw.2.2.F ht⟩
theorem r_i {x r : Int32} {wf : va_W} (cx : Cx p m c cc nL s args own g A) (hr : meth.sig.returnType = some .int) (hlocks : meth.locks = false) (hw : Wd g (va_A w0 s.heap.size) w s H locs) (er : r = x) (ew : wf = w) (hdg : decode cc pc = .ok (.ireturn, 1)) :
    W p l e R s m args below meth c H locs cells slots (MQ below (QO (some (.int r)) g wf (va_A w0 s.heap.size)) args s cells slots (va_A w0 s.heap.size)) (F0 m pc ls [.int x]) := by
  subst er
  exact W.iret cx.1.1 cx.1.2.1 hr (fun t ht hW => ⟨rfl, r_pos cx.2.1 hw ew ht hW⟩) hw.2.2.2.2 hdg hlocks
theorem r_z {x r : Int32} {wf : va_W} (cx : Cx p m c cc nL s args own g A) (hr : meth.sig.returnType = some .boolean) (hlocks : meth.locks = false) (hn : narrow .boolean (.int x) = .int x) (hw : Wd g (va_A w0 s.heap.size) w s H locs) (er : r = x) (ew : wf = w) (hdg : decode cc pc = .ok (.ireturn, 1)) :
    W p l e R s m args below meth c H locs cells slots (MQ below (QO (some (.int r)) g wf (va_A w0 s.heap.size)) args s cells slots (va_A w0 s.heap.size)) (F0 m pc ls [.int x]) := by
  subst er
  exact W.zret cx.1.1 cx.1.2.1 hr hn (fun t ht hW => ⟨rfl, r_pos cx.2.1 hw ew ht hW⟩) hw.2.2.2.2 hdg hlocks
theorem r_l {x r : Int64} {wf : va_W} (cx : Cx p m c cc nL s args own g A) (hr : meth.sig.returnType = some .long) (hlocks : meth.locks = false) (hw : Wd g (va_A w0 s.heap.size) w s H locs) (er : r = x) (ew : wf = w) (hdg : decode cc pc = .ok (.lreturn, 1)) :
    W p l e R s m args below meth c H locs cells slots (MQ below (QO (some (.long r)) g wf (va_A w0 s.heap.size)) args s cells slots (va_A w0 s.heap.size)) (F0 m pc ls [.long x]) := by
  subst er
  exact W.lret cx.1.1 cx.1.2.1 hr (fun t ht hW => ⟨rfl, r_pos cx.2.1 hw ew ht hW⟩) hw.2.2.2.2 hdg hlocks
theorem r_v {wf : va_W} (cx : Cx p m c cc nL s args own g A) (hr : meth.sig.returnType = none) (hlocks : meth.locks = false) (hw : Wd g (va_A w0 s.heap.size) w s H locs) (ew : wf = w) (hdg : decode cc pc = .ok (.return_, 1)) :
    W p l e R s m args below meth c H locs cells slots (MQ below (QO none g wf (va_A w0 s.heap.size)) args s cells slots (va_A w0 s.heap.size)) (F0 m pc ls []) :=
  W.vret cx.1.1 cx.1.2.1 hr (fun t ht hW => ⟨rfl, r_pos cx.2.1 hw ew ht hW⟩) hw.2.2.2.2 hdg hlocks
theorem r_a {v r : Value} {rt : FieldType} {wf : va_W} (cx : Cx p m c cc nL s args own g A) (hr : meth.sig.returnType = some rt) (hrt : (∃ n, rt = .object n) ∨ ∃ t, rt = .array t) (hv : v = .null ∨ ∃ a, v = .ref a) (hlocks : meth.locks = false) (hw : Wd g (va_A w0 s.heap.size) w s H locs) (er : r = v) (ew : wf = w) (hdg : decode cc pc = .ok (.areturn, 1)) :
    W p l e R s m args below meth c H locs cells slots (MQ below (QO (some r) g wf (va_A w0 s.heap.size)) args s cells slots (va_A w0 s.heap.size)) (F0 m pc ls [v]) := by
  subst er
  exact W.aret cx.1.1 cx.1.2.1 hr hrt hv (fun t ht hW => ⟨rfl, r_pos cx.2.1 hw ew ht hW⟩) hw.2.2.2.2 hdg hlocks
end CALLS
theorem pr1 {α β : Type} {a c : α} {b d : β} (h : some (a, b) = some (c, d)) : c = a := (Prod.mk.inj (Option.some.inj h)).1.symm
theorem pr2 {α β : Type} {a c : α} {b d : β} (h : some (a, b) = some (c, d)) : d = b := (Prod.mk.inj (Option.some.inj h)).2.symm
/-- THE ENTRY of a method -/
theorem MO.of {l : Launch} {y : MethodName} {rm : Room} {av : List Value} {g : gE} {w w' : va_W} {v : Option Value} {mc ms : Nat} {cc : ByteArray} {maxL : Nat} {ret : Option FieldType} (hy : plainName y.cls = true)
    (body : ∀ (p : Program) (e : Env) (s : State) (m : MethodId) (below : List Frame) (meth : Method) (c : Code), Cx p m c cc maxL s av.toArray y.cls g (va_A w s.heap.size) → Wd g (va_A w s.heap.size) w s s.heap [] → meth.sig.returnType = ret → meth.locks = false → meth.name = y.name →
      W p l e rm s m av.toArray below meth c s.heap [] 0 0 (MQ below (QO v g w' (va_A w s.heap.size)) av.toArray s mc ms (va_A w s.heap.size)) (entryFrame m av.toArray maxL)) : MO l y (Cond.code y cc maxL ret :: TB) rm av g w w' v mc ms := by
  intro sz
  refine Met.ofW (cc := cc) (maxL := maxL) (ret := ret) hy rfl ?_
  intro p e s m args below meth c s₁ B hml hv
  obtain ⟨rfl, hsz, hP, hK, hD, hN, hX⟩ := hv
  subst hsz
  have hts := atoms_spec (ws := Cond.code y cc maxL ret :: TB) B.pre
  exact body p e s m below meth c ⟨⟨B.exec, B.bytes, hml, findClass_of_methodNamed B.named, fun w hw => hts w (List.mem_cons_of_mem _ hw)⟩, hK, hN, fun q h => Or.inr h, hX⟩ ⟨hP, hD.self, va_S.rf⟩ B.returns B.notSynchronized (name_of_methodNamed B.named B.method).1
section ENTRY
variable {p : Program} {l : Launch} {e : Env} {R : Room} {s : State} {m : MethodId} {args : Array Value} {below : List Frame} {meth : Method} {c : Code} {H : Heap} {locs : List Loc} {cells slots : Nat} {Q : State → Prop}
theorem en_go {av : List Value} {n : Nat} {lv : List (Nat × Value)} (h : (lg_sl av).length ≤ n) (hlv : lv_args 0 av = lv) (kk : ∀ ls : Array Slot, lv_has ls n lv → W p l e R s m args below meth c H locs cells slots Q (F0 m 0 ls [])) : W p l e R s m args below meth c H locs cells slots Q (entryFrame m av.toArray n) := by
  rw [lg_entry_eq]
  exact kk _ (hlv ▸ lv_entry av h)
end ENTRY
def bd2 {α β γ : Type} (x : Option (α × β)) (k : α → β → Option γ) : Option γ := x.bind fun p => k p.1 p.2
def bd3 {α β γ δ : Type} (x : Option (α × β × γ)) (k : α → β → γ → Option δ) : Option δ := x.bind fun p => k p.1 p.2.1 p.2.2
theorem bd2_ex {α β γ : Type} {x : Option (α × β)} {k : α → β → Option γ} {y : γ} (h : bd2 x k = some y) : ∃ a b, x = some (a, b) ∧ k a b = some y := by
  cases x with
  | none => cases h
  | some p => exact ⟨p.1, p.2, rfl, h⟩
theorem bd3_ex {α β γ δ : Type} {x : Option (α × β × γ)} {k : α → β → γ → Option δ} {y : δ} (h : bd3 x k = some y) : ∃ a b c, x = some (a, b, c) ∧ k a b c = some y := by
  cases x with
  | none => cases h
  | some p => exact ⟨p.1, p.2.1, p.2.2, rfl, h⟩
def ckr (sp dp n : Int32) (n0 n1 : Nat) : Option Unit := if ¬ sp < 0 ∧ ¬ dp < 0 ∧ ¬ n < 0 ∧ sp.toNatClampNeg + n.toNatClampNeg ≤ n0 ∧ dp.toNatClampNeg + n.toNatClampNeg ≤ n1 then some () else none
theorem ckr_in {α : Type} {sp dp n : Int32} {n0 n1 : Nat} {k : Unit → Option α} {y : α} (h : (ckr sp dp n n0 n1).bind k = some y) : ¬ sp < 0 ∧ ¬ dp < 0 ∧ ¬ n < 0 ∧ sp.toNatClampNeg + n.toNatClampNeg ≤ n0 ∧ dp.toNatClampNeg + n.toNatClampNeg ≤ n1 := by
  unfold ckr at h
  by_cases c : ¬ sp < 0 ∧ ¬ dp < 0 ∧ ¬ n < 0 ∧ sp.toNatClampNeg + n.toNatClampNeg ≤ n0 ∧ dp.toNatClampNeg + n.toNatClampNeg ≤ n1
  · exact c
  · rw [if_neg c] at h; cases h
theorem ckr_nx {α : Type} {sp dp n : Int32} {n0 n1 : Nat} {k : Unit → Option α} {y : α} (h : (ckr sp dp n n0 n1).bind k = some y) : k () = some y := by
  have c := ckr_in h
  unfold ckr at h
  rw [if_pos c] at h
  exact h
theorem ct_cov {n : Nat} {a b : List Nat} (h : (List.range n).all (fun k => a.contains k || b.contains k) = true) (k : Nat) (hk : k < n) : k ∈ a ∨ k ∈ b := by
  have h1 := List.all_eq_true.mp h k (List.mem_range.mpr hk)
  rw [Bool.or_eq_true, List.contains_iff_mem, List.contains_iff_mem] at h1
  exact h1
theorem p3b {α β γ : Type} {a a' : α} {b b' : β} {c c' : γ} (h : some (a, b, c) = some (a', b', c')) : b' = b := (Prod.mk.inj (Prod.mk.inj (Option.some.inj h)).2).1.symm
theorem p3c {α β γ : Type} {a a' : α} {b b' : β} {c c' : γ} (h : some (a, b, c) = some (a', b', c')) : c' = c := (Prod.mk.inj (Prod.mk.inj (Option.some.inj h)).2).2.symm
theorem congr2 {α β γ : Type} (f : α → β → γ) {a a' : α} {b b' : β} (h : a' = a) (h2 : b' = b) : f a' b' = f a b := by rw [h, h2]
/-! worlds of blocks -/
theorem ct_mapL {a w : va_W} {is : List Nat} {x : va_W} (h : is.map (fun i => w[i]?) = x.map some) : (is.map (a.length + ·)).map (fun i => (a ++ w)[i]?) = x.map some := by
  rw [List.map_map, ← h]
  apply List.map_congr_left
  intro i _
  show (a ++ w)[a.length + i]? = w[i]?
  rw [List.getElem?_append_right (Nat.le_add_right _ _), Nat.add_sub_cancel_left]
theorem ct_lt {w : va_W} {is : List Nat} {x : va_W} (h : is.map (fun i => w[i]?) = x.map some) : ∀ i ∈ is, i < w.length := by
  intro i hi
  obtain ⟨k, hk⟩ := List.getElem?_of_mem hi
  have h1 : (is.map (fun i => w[i]?))[k]? = (x.map some)[k]? := by rw [h]
  rw [List.getElem?_map, List.getElem?_map, hk] at h1
  cases hx : x[k]? with
  | none => rw [hx] at h1; cases h1
  | some y => rw [hx] at h1; exact (List.getElem?_eq_some_iff.mp (Option.some.inj h1)).1
theorem ct_mapR {b w : va_W} {is : List Nat} {x : va_W} (h : is.map (fun i => w[i]?) = x.map some) : is.map (fun i => (w ++ b)[i]?) = x.map some := by
  rw [← h]
  apply List.map_congr_left
  intro i hi
  exact List.getElem?_append_left (ct_lt h i hi)
/-- two worlds side by side, a cut in each -/
theorem Ct.app {w x w' x' b y b' y' : va_W} (h : Ct w x w' x') (k : Ct b y b' y') (hl : w.length = w'.length) : Ct (w ++ b) (x ++ y) (w' ++ b') (x' ++ y') := by
  obtain ⟨c, r, h1, h2, h3, h4, h5, h6⟩ := h
  obtain ⟨c', r', k1, k2, k3, k4, k5, k6⟩ := k
  have lt1 := ct_lt h1
  have lt2 := ct_lt h2
  refine ⟨c ++ c'.map (w.length + ·), (List.range w.length).filter (fun i => decide (i ∈ r)) ++ r'.map (w.length + ·), ?_, ?_, ?_, ?_, ?_, ?_⟩
  · rw [List.map_append, List.map_append, ct_mapR h1, ct_mapL k1]
  · rw [List.map_append, List.map_append, ct_mapR h2, hl, ct_mapL k2]
  · apply List.map_congr_left
    intro i hi
    rcases List.mem_append.mp hi with q | q
    · have q1 := List.mem_range.mp (List.mem_filter.mp q).1
      have q2 : i ∈ r := of_decide_eq_true (List.mem_filter.mp q).2
      rw [List.getElem?_append_left q1, List.getElem?_append_left (by omega)]
      exact ct_same h3 q2
    · obtain ⟨j, j1, rfl⟩ := List.mem_map.mp q
      rw [List.getElem?_append_right (Nat.le_add_right _ _), Nat.add_sub_cancel_left, hl, List.getElem?_append_right (Nat.le_add_right _ _), Nat.add_sub_cancel_left]
      exact ct_same k3 j1
  · intro i hi hc
    rcases List.mem_append.mp hi with q | q <;> rcases List.mem_append.mp hc with z | z
    · exact h4 i (of_decide_eq_true (List.mem_filter.mp q).2) z
    · have q1 := List.mem_range.mp (List.mem_filter.mp q).1
      obtain ⟨j, j1, j2⟩ := List.mem_map.mp z
      have j2 : w.length + j = i := j2
      omega
    · obtain ⟨j, j1, j2⟩ := List.mem_map.mp q
      have j2 : w.length + j = i := j2
      have := lt1 i z
      omega
    · obtain ⟨j, j1, j2⟩ := List.mem_map.mp q
      obtain ⟨j', j3, j4⟩ := List.mem_map.mp z
      have j2 : w.length + j = i := j2
      have j4 : w.length + j' = i := j4
      have e : j = j' := by omega
      subst e
      exact k4 j j1 j3
  · intro i hi
    rw [List.length_append] at hi
    by_cases q : i < w.length
    · rcases h5 i (by omega) with z | z
      · exact Or.inl (List.mem_append_left _ z)
      · exact Or.inr (List.mem_append_left _ (List.mem_filter.mpr ⟨List.mem_range.mpr q, decide_eq_true z⟩))
    · rcases k5 (i - w.length) (by omega) with z | z
      · exact Or.inl (List.mem_append_right _ (List.mem_map.mpr ⟨_, z, by show w.length + (i - w.length) = i; omega⟩))
      · exact Or.inr (List.mem_append_right _ (List.mem_map.mpr ⟨_, z, by show w.length + (i - w.length) = i; omega⟩))
  · rw [List.nodup_append]
    refine ⟨h6, ?_, ?_⟩
    · exact List.pairwise_map.mpr (List.Pairwise.imp (fun {a b} hab e => hab (by have e : w.length + a = w.length + b := e; omega)) k6)
    · intro a ha b hb e
      obtain ⟨j, j1, j2⟩ := List.mem_map.mp hb
      have j2 : w.length + j = b := j2
      have := lt1 a ha
      omega
theorem Ct.skip (a : va_W) {w x w' x' : va_W} (h : Ct w x w' x') : Ct (a ++ w) x (a ++ w') x' := Ct.app Ct.nil h rfl
theorem Ct.inl (b : va_W) {w x w' x' : va_W} (h : Ct w x w' x') (hl : w.length = w'.length) : Ct (w ++ b) x (w' ++ b) x' := by
  have k := Ct.app h (Ct.nil (w := b)) hl
  rw [List.append_nil, List.append_nil] at k
  exact k
theorem Ct.swap {w x y w' x' y' : va_W} (h : Ct w (x ++ y) w' (x' ++ y')) (hl : x.length = x'.length) : Ct w (y ++ x) w' (y' ++ x') := by
  obtain ⟨c, r, h1, h2, h3, h4, h5, h6⟩ := h
  have t1 : (c.take x.length).map (fun i => w[i]?) = x.map some := by rw [List.map_take, h1, List.map_append, List.take_left' (by simp)]
  have t2 : (c.take x.length).map (fun i => w'[i]?) = x'.map some := by rw [List.map_take, h2, List.map_append, List.take_left' (by simp [hl])]
  have d1 : (c.drop x.length).map (fun i => w[i]?) = y.map some := by rw [List.map_drop, h1, List.map_append, List.drop_left' (by simp)]
  have d2 : (c.drop x.length).map (fun i => w'[i]?) = y'.map some := by rw [List.map_drop, h2, List.map_append, List.drop_left' (by simp [hl])]
  have sp : c.take x.length ++ c.drop x.length = c := List.take_append_drop _ _
  refine ⟨c.drop x.length ++ c.take x.length, r, ?_, ?_, h3, ?_, ?_, ?_⟩
  · rw [List.map_append, List.map_append, t1, d1]
  · rw [List.map_append, List.map_append, t2, d2]
  · intro i hi hc
    refine h4 i hi ?_
    rw [← sp]
    rcases List.mem_append.mp hc with q | q
    · exact List.mem_append_right _ q
    · exact List.mem_append_left _ q
  · intro k hk
    rcases h5 k hk with q | q
    · rw [← sp] at q
      rcases List.mem_append.mp q with z | z
      · exact Or.inl (List.mem_append_right _ z)
      · exact Or.inl (List.mem_append_left _ z)
    · exact Or.inr q
  · rw [← sp] at h6
    rw [List.nodup_append] at h6 ⊢
    exact ⟨h6.2.1, h6.1, fun a ha b hb e => h6.2.2 b hb a ha e.symm⟩
