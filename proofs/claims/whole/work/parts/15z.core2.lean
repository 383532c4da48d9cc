def ckc (v : Int32) : Option Unit := if narrow .char (.int v) = .int v then some () else none
theorem ckc_in {α : Type} {v : Int32} {k : Unit → Option α} {y : α} (h : (ckc v).bind k = some y) : narrow .char (.int v) = .int v := by
  unfold ckc at h
  by_cases c : narrow .char (.int v) = .int v
  · exact c
  · rw [if_neg c] at h; cases h
theorem ckc_nx {α : Type} {v : Int32} {k : Unit → Option α} {y : α} (h : (ckc v).bind k = some y) : k () = some y := by
  have c := ckc_in h
  unfold ckc at h
  rw [if_pos c] at h
  exact h
def ckw (w : Nat) : Option Unit := if w < 15 then some () else none
theorem ckw_in {α : Type} {w : Nat} {k : Unit → Option α} {y : α} (h : (ckw w).bind k = some y) : w < 15 := by
  unfold ckw at h
  by_cases c : w < 15
  · exact c
  · rw [if_neg c] at h; cases h
theorem ckw_nx {α : Type} {w : Nat} {k : Unit → Option α} {y : α} (h : (ckw w).bind k = some y) : k () = some y := by
  have c := ckw_in h
  unfold ckw at h
  rw [if_pos c] at h
  exact h
def sel {α : Type} (r : Option Nat) (a : α) (k : Nat → α) : α := match r with
  | none => a
  | some i => k i
theorem sel_n {α : Type} {a x : α} {k : Nat → α} (h : sel none a k = x) : a = x := h
theorem sel_s {α : Type} {i : Nat} {a x : α} {k : Nat → α} (h : sel (some i) a k = x) : k i = x := h
def shV (q : Nat → Nat) (r : Option Nat) : Value := match r with
  | none => .null
  | some i => va_rf (shR q i)
section CORE2
variable {p : Program} {l : Launch} {e : Env} {R : Room} {s : State} {m : MethodId} {args : Array Value} {below : List Frame} {meth : Method} {c : Code} {H : Heap} {locs : List Loc} {cells slots : Nat} {Q : State → Prop}
variable {pc : Nat} {ls : Array Slot} {st0 rest : List Value} {cc : ByteArray} {nL : Nat} {own : String} {g : gE} {A : Nat → Prop} {w w0 : va_W}
theorem x_aldq (cx : Cx p m c cc nL s args own g A) (hw : Wd g A w s H locs) (q0 : Nat) {a n : Nat} {f : Nat → Option Nat} (ha : w[q0]? = some (a, .inl (gO g, n, .inr (.inr (.inr (.inr f)))))) {i : Int32} (hin : vp_in i n) (hdg : decode cc pc = .ok (.aaload, 1))
    (kk : W p l e R s m args below meth c H locs cells slots Q (F0 m (pc + 1) ls (va_rf (f i.toNatClampNeg) :: rest))) : W p l e R s m args below meth c H locs cells slots Q (F0 m pc ls (.int i :: .ref a :: rest)) :=
  va_aldq cx.1.1 cx.1.2.1 cx.2.1 hw.1 q0 3 ha rfl hin hdg kk
theorem r_n {x r : Int32} {ty : FieldType} {wf : va_W} (cx : Cx p m c cc nL s args own g A) (hr : meth.sig.returnType = some ty) (hlocks : meth.locks = false) (hn : narrow ty (.int x) = .int x) (hw : Wd g (va_A w0 s.heap.size) w s H locs) (er : r = x) (ew : wf = w) (hdg : decode cc pc = .ok (.ireturn, 1)) :
    W p l e R s m args below meth c H locs cells slots (MQ below (QO (some (.int r)) g wf (va_A w0 s.heap.size)) args s cells slots (va_A w0 s.heap.size)) (F0 m pc ls [.int x]) := by
  subst er
  exact W.zret cx.1.1 cx.1.2.1 hr hn (fun t ht hW => ⟨rfl, r_pos cx.2.1 hw ew ht hW⟩) hw.2.2.2.2 hdg hlocks
end CORE2

abbrev rm_J3_checkIndex_8e157 : Room := { frames := 0, cells := 0, slots := 0, locals := 0 }
abbrev rm_J0_checkIndex_df160 : Room := { frames := 1, cells := 0, slots := 0, locals := 22 }
abbrev rm_J1_charAt_3b067 : Room := { frames := 2, cells := 0, slots := 0, locals := 43 }
abbrev rm_J0_isLatin1_aae02 : Room := { frames := 0, cells := 0, slots := 0, locals := 0 }
abbrev rm_J0_coder_7d493 : Room := { frames := 0, cells := 0, slots := 0, locals := 0 }
abbrev rm_J0_charAt_5068e : Room := { frames := 4, cells := 0, slots := 0, locals := 85 }
abbrev rm_J0_length_8abf5 : Room := { frames := 1, cells := 0, slots := 0, locals := 20 }
section CLINKS
variable {R : Room} {s : State} {args : Array Value}
theorem cl_X2_146 (ht : ∀ w ∈ TB, w.before args s = true) (hR : rm_J0_length_8abf5.frames + 1 ≤ R.frames ∧ 8 + (1 + 11) + rm_J0_length_8abf5.locals ≤ R.locals) : CallW R s args RX2 RJ0 146 yJ0_length_8abf5 cJ0_length_8abf5 1 (some .int) (Cond.code yJ0_length_8abf5 cJ0_length_8abf5 1 (some .int) :: TB) rm_J0_length_8abf5 0 0 0 := cw_V 0 ht tw_3_69 tw_3_70 tw_3_71 tw_1_11 tw_3_72 rfl rfl (by decide +kernel) hR
theorem cl_X2_151 (ht : ∀ w ∈ TB, w.before args s = true) (hR : rm_J0_charAt_5068e.frames + 1 ≤ R.frames ∧ 8 + (2 + 11) + rm_J0_charAt_5068e.locals ≤ R.locals) : CallW R s args RX2 RJ0 151 yJ0_charAt_5068e cJ0_charAt_5068e 2 (some .char) (Cond.code yJ0_charAt_5068e cJ0_charAt_5068e 2 (some .char) :: TB) rm_J0_charAt_5068e 0 0 1 := cw_V 1 ht tw_3_79 tw_3_80 tw_3_81 tw_1_11 tw_3_82 rfl rfl (by decide +kernel) hR
theorem cl_J0_1059 (ht : ∀ w ∈ TB, w.before args s = true) (hR : rm_J3_checkIndex_8e157.frames + 1 ≤ R.frames ∧ 8 + (3 + 11) + rm_J3_checkIndex_8e157.locals ≤ R.locals) : CallB R s args RJ0 1059 yJ3_checkIndex_8e157 cJ3_checkIndex_8e157 3 (some .int) (Cond.code yJ3_checkIndex_8e157 cJ3_checkIndex_8e157 3 (some .int) :: TB) rm_J3_checkIndex_8e157 0 0 3 ∧ (Cond.static yJ3_checkIndex_8e157).before args s = true := cw_S 3 ht tw_3_95 tw_3_96 tw_1_13 tw_3_97 rfl rfl (by decide +kernel) hR
theorem cl_J1_9 (ht : ∀ w ∈ TB, w.before args s = true) (hR : rm_J0_checkIndex_df160.frames + 1 ≤ R.frames ∧ 8 + (2 + 11) + rm_J0_checkIndex_df160.locals ≤ R.locals) : CallB R s args RJ1 9 yJ0_checkIndex_df160 cJ0_checkIndex_df160 2 none (Cond.code yJ0_checkIndex_df160 cJ0_checkIndex_df160 2 none :: TB) rm_J0_checkIndex_df160 0 0 2 ∧ (Cond.static yJ0_checkIndex_df160).before args s = true := cw_S 2 ht tw_3_90 tw_3_91 tw_1_11 tw_3_92 rfl rfl (by decide +kernel) hR
theorem cl_J0_492 (ht : ∀ w ∈ TB, w.before args s = true) (hR : rm_J0_isLatin1_aae02.frames + 1 ≤ R.frames ∧ 8 + (1 + 11) + rm_J0_isLatin1_aae02.locals ≤ R.locals) : CallW R s args RJ0 RJ0 492 yJ0_isLatin1_aae02 cJ0_isLatin1_aae02 1 (some .boolean) (Cond.code yJ0_isLatin1_aae02 cJ0_isLatin1_aae02 1 (some .boolean) :: TB) rm_J0_isLatin1_aae02 0 0 0 := cw_V 0 ht tw_3_83 tw_3_84 tw_3_85 tw_1_11 tw_3_86 rfl rfl (by decide +kernel) hR
theorem cl_J0_495 (ht : ∀ w ∈ TB, w.before args s = true) (hR : rm_J1_charAt_3b067.frames + 1 ≤ R.frames ∧ 8 + (2 + 11) + rm_J1_charAt_3b067.locals ≤ R.locals) : CallB R s args RJ0 495 yJ1_charAt_3b067 cJ1_charAt_3b067 2 (some .char) (Cond.code yJ1_charAt_3b067 cJ1_charAt_3b067 2 (some .char) :: TB) rm_J1_charAt_3b067 0 0 2 ∧ (Cond.static yJ1_charAt_3b067).before args s = true := cw_S 2 ht tw_3_87 tw_3_88 tw_1_12 tw_3_89 rfl rfl (by decide +kernel) hR
theorem cl_J0_335 (ht : ∀ w ∈ TB, w.before args s = true) (hR : rm_J0_coder_7d493.frames + 1 ≤ R.frames ∧ 8 + (1 + 11) + rm_J0_coder_7d493.locals ≤ R.locals) : CallW R s args RJ0 RJ0 335 yJ0_coder_7d493 cJ0_coder_7d493 1 (some .byte) (Cond.code yJ0_coder_7d493 cJ0_coder_7d493 1 (some .byte) :: TB) rm_J0_coder_7d493 0 0 0 := cw_V 0 ht tw_3_73 tw_3_74 tw_3_75 tw_1_11 tw_3_76 rfl rfl (by decide +kernel) hR
end CLINKS
